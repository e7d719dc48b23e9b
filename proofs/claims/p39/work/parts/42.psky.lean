/-! ===== skies: the leaves ===== -/
def bt (x : Int32) (i : Nat) : Int32 := (x >>> (n2 i &&& 31)) &&& 1
def bit (i : Nat) : Int32 := (1 : Int32) <<< (n2 i &&& 31)
section LEAF
variable {y : Lay} {s co ru : Nat} {M : Mem}
theorem isPegged_g (hs : kd y s = (0, 8)) (c : Int32) : f_X8_isPegged y s c M = some (if ((M.1 s 7 >>> (c &&& 31)) &&& 1) = 0 then 0 else 1) := by
  unfold f_X8_isPegged
  rw [gK_t hs]
  simp only [jn_s, br, gd]
  split <;> simp
theorem isResting_g (hs : kd y s = (0, 8)) (c : Int32) : f_X8_isResting y s c M = some (if ((M.1 s 8 >>> (c &&& 31)) &&& 1) = 0 then 0 else 1) := by
  unfold f_X8_isResting
  rw [gK_t hs]
  simp only [jn_s, br, gd]
  split <;> simp
theorem isOld_g (hs : kd y co = (0, 1)) (c : Int32) : f_X1_isOld y co c M = some (if ((M.1 co 5 >>> (c &&& 31)) &&& 1) = 0 then 0 else 1) := by
  unfold f_X1_isOld
  rw [gK_t hs]
  simp only [jn_s, br, gd]
  split <;> simp
theorem isTold_g (hs : kd y ru = (0, 5)) : f_X5_isTold y ru M = some (if M.1 ru 2 ≤ 0 then 0 else 1) := by
  unfold f_X5_isTold
  rw [gK_t hs]
  simp only [jn_s, br, gd]
  split <;> simp
theorem cells_g (hs : kd y co = (0, 1)) : f_X1_cells y co M = some (M.1 co 0 * M.1 co 1) := by
  unfold f_X1_cells
  rw [gK_t hs]
theorem columnOf_g (hs : kd y co = (0, 1)) (hw : ¬ M.1 co 0 ≤ 0) (c : Int32) : f_X1_columnOf y co c M = some (c - c / M.1 co 0 * M.1 co 0) := by
  unfold f_X1_columnOf
  rw [gK_t hs]
  have h0 : ¬ M.1 co 0 = 0 := fun e => hw (by rw [e]; exact Int32.le_refl _)
  simp only [jn_s, bR_f hw, gd_t h0]
theorem rowOf_g (hs : kd y co = (0, 1)) (hw : ¬ M.1 co 0 ≤ 0) (c : Int32) : f_X1_rowOf y co c M = some (c / M.1 co 0) := by
  unfold f_X1_rowOf
  rw [gK_t hs]
  have h0 : ¬ M.1 co 0 = 0 := fun e => hw (by rw [e]; exact Int32.le_refl _)
  simp only [jn_s, bR_f hw, gd_t h0]
theorem n30 : ¬ (30 : Int32) ≤ n2 0 := by decide
end LEAF
theorem blueOf_37 {y : Lay} (hy : LY y) {M : Mem} {c : Nat} (hc : c < 30) : f_X8_blueOf y 37 (n2 c) M = some (M.1 38 c) := by
  unfold f_X8_blueOf
  have h1 : ¬ n2 c < 0 := n2_n0 (by omega)
  have h2 : ¬ (30 : Int32) ≤ n2 c := nle_l (m := 30) rfl hc (by omega)
  simp only [lT_s, jn_s, c0_s, cp_s, cx_s, cx_t, bR_f h1, bR_f h2, gK_t (k_37 hy), gN_t (r := 37) (by decide), r_37_0 hy, r_37_1 hy, r_37_2 hy, r_37_3 hy, r_37_4 hy, r_37_5 hy, r_37_6 hy, gN_t (r := 38) (by decide), gA_n (k_38 hy) hc (by omega), n2_nat (show c < 2147483648 by omega)]
theorem blueOf_58 {y : Lay} (hy : LY y) {M : Mem} {c : Nat} (hc : c < 30) : f_X8_blueOf y 58 (n2 c) M = some (M.1 59 c) := by
  unfold f_X8_blueOf
  have h1 : ¬ n2 c < 0 := n2_n0 (by omega)
  have h2 : ¬ (30 : Int32) ≤ n2 c := nle_l (m := 30) rfl hc (by omega)
  simp only [lT_s, jn_s, c0_s, cp_s, cx_s, cx_t, bR_f h1, bR_f h2, gK_t (k_58 hy), gN_t (r := 58) (by decide), r_58_0 hy, r_58_1 hy, r_58_2 hy, r_58_3 hy, r_58_4 hy, r_58_5 hy, r_58_6 hy, gN_t (r := 59) (by decide), gA_n (k_59 hy) hc (by omega), n2_nat (show c < 2147483648 by omega)]
theorem blueOf_21 {y : Lay} (hy : LY y) {M : Mem} {c : Nat} (hc : c < 30) : f_X8_blueOf y 21 (n2 c) M = some (M.1 22 c) := by
  unfold f_X8_blueOf
  have h1 : ¬ n2 c < 0 := n2_n0 (by omega)
  have h2 : ¬ (30 : Int32) ≤ n2 c := nle_l (m := 30) rfl hc (by omega)
  simp only [lT_s, jn_s, c0_s, cp_s, cx_s, cx_t, bR_f h1, bR_f h2, gK_t (k_21 hy), gN_t (r := 21) (by decide), r_21_0 hy, r_21_1 hy, r_21_2 hy, r_21_3 hy, r_21_4 hy, r_21_5 hy, r_21_6 hy, gN_t (r := 22) (by decide), gA_n (k_22 hy) hc (by omega), n2_nat (show c < 2147483648 by omega)]
theorem blueOf_51 {y : Lay} (hy : LY y) {M : Mem} {c : Nat} (hc : c < 30) : f_X8_blueOf y 51 (n2 c) M = some (M.1 52 c) := by
  unfold f_X8_blueOf
  have h1 : ¬ n2 c < 0 := n2_n0 (by omega)
  have h2 : ¬ (30 : Int32) ≤ n2 c := nle_l (m := 30) rfl hc (by omega)
  simp only [lT_s, jn_s, c0_s, cp_s, cx_s, cx_t, bR_f h1, bR_f h2, gK_t (k_51 hy), gN_t (r := 51) (by decide), r_51_0 hy, r_51_1 hy, r_51_2 hy, r_51_3 hy, r_51_4 hy, r_51_5 hy, r_51_6 hy, gN_t (r := 52) (by decide), gA_n (k_52 hy) hc (by omega), n2_nat (show c < 2147483648 by omega)]
theorem spotOf_37 {y : Lay} (hy : LY y) {M : Mem} {c : Nat} (hc : c < 6) : f_X8_spotOf y 37 (n2 c) M = some (M.1 41 c) := by
  unfold f_X8_spotOf
  have h1 : ¬ n2 c < 0 := n2_n0 (by omega)
  have h2 : ¬ (6 : Int32) ≤ n2 c := nle_l (m := 6) rfl hc (by omega)
  simp only [lT_s, jn_s, c0_s, cp_s, cx_s, cx_t, bR_f h1, bR_f h2, gK_t (k_37 hy), gN_t (r := 37) (by decide), r_37_0 hy, r_37_1 hy, r_37_2 hy, r_37_3 hy, r_37_4 hy, r_37_5 hy, r_37_6 hy, gN_t (r := 41) (by decide), gA_n (k_41 hy) hc (by omega), n2_nat (show c < 2147483648 by omega)]
theorem skillOf_37 {y : Lay} (hy : LY y) {M : Mem} {c : Nat} (hc : c < 6) : f_X8_skillOf y 37 (n2 c) M = some (M.1 42 c) := by
  unfold f_X8_skillOf
  have h1 : ¬ n2 c < 0 := n2_n0 (by omega)
  have h2 : ¬ (6 : Int32) ≤ n2 c := nle_l (m := 6) rfl hc (by omega)
  simp only [lT_s, jn_s, c0_s, cp_s, cx_s, cx_t, bR_f h1, bR_f h2, gK_t (k_37 hy), gN_t (r := 37) (by decide), r_37_0 hy, r_37_1 hy, r_37_2 hy, r_37_3 hy, r_37_4 hy, r_37_5 hy, r_37_6 hy, gN_t (r := 42) (by decide), gA_n (k_42 hy) hc (by omega), n2_nat (show c < 2147483648 by omega)]
theorem spotOf_58 {y : Lay} (hy : LY y) {M : Mem} {c : Nat} (hc : c < 6) : f_X8_spotOf y 58 (n2 c) M = some (M.1 62 c) := by
  unfold f_X8_spotOf
  have h1 : ¬ n2 c < 0 := n2_n0 (by omega)
  have h2 : ¬ (6 : Int32) ≤ n2 c := nle_l (m := 6) rfl hc (by omega)
  simp only [lT_s, jn_s, c0_s, cp_s, cx_s, cx_t, bR_f h1, bR_f h2, gK_t (k_58 hy), gN_t (r := 58) (by decide), r_58_0 hy, r_58_1 hy, r_58_2 hy, r_58_3 hy, r_58_4 hy, r_58_5 hy, r_58_6 hy, gN_t (r := 62) (by decide), gA_n (k_62 hy) hc (by omega), n2_nat (show c < 2147483648 by omega)]
theorem skillOf_58 {y : Lay} (hy : LY y) {M : Mem} {c : Nat} (hc : c < 6) : f_X8_skillOf y 58 (n2 c) M = some (M.1 63 c) := by
  unfold f_X8_skillOf
  have h1 : ¬ n2 c < 0 := n2_n0 (by omega)
  have h2 : ¬ (6 : Int32) ≤ n2 c := nle_l (m := 6) rfl hc (by omega)
  simp only [lT_s, jn_s, c0_s, cp_s, cx_s, cx_t, bR_f h1, bR_f h2, gK_t (k_58 hy), gN_t (r := 58) (by decide), r_58_0 hy, r_58_1 hy, r_58_2 hy, r_58_3 hy, r_58_4 hy, r_58_5 hy, r_58_6 hy, gN_t (r := 63) (by decide), gA_n (k_63 hy) hc (by omega), n2_nat (show c < 2147483648 by omega)]
theorem spotOf_21 {y : Lay} (hy : LY y) {M : Mem} {c : Nat} (hc : c < 6) : f_X8_spotOf y 21 (n2 c) M = some (M.1 25 c) := by
  unfold f_X8_spotOf
  have h1 : ¬ n2 c < 0 := n2_n0 (by omega)
  have h2 : ¬ (6 : Int32) ≤ n2 c := nle_l (m := 6) rfl hc (by omega)
  simp only [lT_s, jn_s, c0_s, cp_s, cx_s, cx_t, bR_f h1, bR_f h2, gK_t (k_21 hy), gN_t (r := 21) (by decide), r_21_0 hy, r_21_1 hy, r_21_2 hy, r_21_3 hy, r_21_4 hy, r_21_5 hy, r_21_6 hy, gN_t (r := 25) (by decide), gA_n (k_25 hy) hc (by omega), n2_nat (show c < 2147483648 by omega)]
theorem skillOf_21 {y : Lay} (hy : LY y) {M : Mem} {c : Nat} (hc : c < 6) : f_X8_skillOf y 21 (n2 c) M = some (M.1 26 c) := by
  unfold f_X8_skillOf
  have h1 : ¬ n2 c < 0 := n2_n0 (by omega)
  have h2 : ¬ (6 : Int32) ≤ n2 c := nle_l (m := 6) rfl hc (by omega)
  simp only [lT_s, jn_s, c0_s, cp_s, cx_s, cx_t, bR_f h1, bR_f h2, gK_t (k_21 hy), gN_t (r := 21) (by decide), r_21_0 hy, r_21_1 hy, r_21_2 hy, r_21_3 hy, r_21_4 hy, r_21_5 hy, r_21_6 hy, gN_t (r := 26) (by decide), gA_n (k_26 hy) hc (by omega), n2_nat (show c < 2147483648 by omega)]
theorem besideBits_4 {y : Lay} (hy : LY y) {M : Mem} {c : Nat} (hc : c < 30) : f_X1_besideBits y 4 (n2 c) M = some (M.1 5 c) := by
  unfold f_X1_besideBits
  have h1 : ¬ n2 c < 0 := n2_n0 (by omega)
  have h2 : ¬ (30 : Int32) ≤ n2 c := nle_l (m := 30) rfl hc (by omega)
  simp only [lT_s, jn_s, c0_s, cp_s, cx_s, cx_t, bR_f h1, bR_f h2, gK_t (k_4 hy), gN_t (r := 4) (by decide), r_4_6 hy, r_4_7 hy, r_4_8 hy, gN_t (r := 5) (by decide), gA_n (k_5 hy) hc (by omega), n2_nat (show c < 2147483648 by omega)]
theorem besideBits_13 {y : Lay} (hy : LY y) {M : Mem} {c : Nat} (hc : c < 30) : f_X1_besideBits y 13 (n2 c) M = some (M.1 14 c) := by
  unfold f_X1_besideBits
  have h1 : ¬ n2 c < 0 := n2_n0 (by omega)
  have h2 : ¬ (30 : Int32) ≤ n2 c := nle_l (m := 30) rfl hc (by omega)
  simp only [lT_s, jn_s, c0_s, cp_s, cx_s, cx_t, bR_f h1, bR_f h2, gK_t (k_13 hy), gN_t (r := 13) (by decide), r_13_6 hy, r_13_7 hy, r_13_8 hy, gN_t (r := 14) (by decide), gA_n (k_14 hy) hc (by omega), n2_nat (show c < 2147483648 by omega)]
/-- a cell gets more blue -/
def addB (pg : Int32) (c : Nat) (m : Int32) (B : Row) : Row := if bt pg c = 0 then up B c (jmin 99 (B c + m)) else B
theorem addBlue_37 {y : Lay} (hy : LY y) {M : Mem} {c : Nat} (hc : c < 30) (m : Int32) : f_X8_addBlue y 37 (n2 c) m M = some (0, sr M 38 (addB (M.1 37 7) c m (M.1 38))) := by
  unfold f_X8_addBlue
  have h1 : ¬ n2 c < 0 := n2_n0 (by omega)
  have h2 : ¬ (30 : Int32) ≤ n2 c := nle_l (m := 30) rfl hc (by omega)
  simp only [lT_s, jn_s, c0_s, cp_s, cx_s, cx_t, bR_f h1, bR_f h2, gK_t (k_37 hy), gN_t (r := 37) (by decide), r_37_0 hy, r_37_1 hy, r_37_2 hy, r_37_3 hy, r_37_4 hy, r_37_5 hy, r_37_6 hy, gN_t (r := 38) (by decide), isPegged_g (k_37 hy), gA_n (k_38 hy) hc (by omega), n2_nat (show c < 2147483648 by omega)]
  unfold addB
  show _ = some ((0 : Int32), sr M 38 (if ((M.1 37 7 >>> (n2 c &&& 31)) &&& 1) = 0 then _ else _))
  by_cases h : ((M.1 37 7 >>> (n2 c &&& 31)) &&& 1) = 0
  · simp only [if_pos h, bR_t, wI_sr]
  · rw [if_neg h, if_neg h, bR_f (by decide), sr_self]
theorem addBlue_58 {y : Lay} (hy : LY y) {M : Mem} {c : Nat} (hc : c < 30) (m : Int32) : f_X8_addBlue y 58 (n2 c) m M = some (0, sr M 59 (addB (M.1 58 7) c m (M.1 59))) := by
  unfold f_X8_addBlue
  have h1 : ¬ n2 c < 0 := n2_n0 (by omega)
  have h2 : ¬ (30 : Int32) ≤ n2 c := nle_l (m := 30) rfl hc (by omega)
  simp only [lT_s, jn_s, c0_s, cp_s, cx_s, cx_t, bR_f h1, bR_f h2, gK_t (k_58 hy), gN_t (r := 58) (by decide), r_58_0 hy, r_58_1 hy, r_58_2 hy, r_58_3 hy, r_58_4 hy, r_58_5 hy, r_58_6 hy, gN_t (r := 59) (by decide), isPegged_g (k_58 hy), gA_n (k_59 hy) hc (by omega), n2_nat (show c < 2147483648 by omega)]
  unfold addB
  show _ = some ((0 : Int32), sr M 59 (if ((M.1 58 7 >>> (n2 c &&& 31)) &&& 1) = 0 then _ else _))
  by_cases h : ((M.1 58 7 >>> (n2 c &&& 31)) &&& 1) = 0
  · simp only [if_pos h, bR_t, wI_sr]
  · rw [if_neg h, if_neg h, bR_f (by decide), sr_self]
theorem addBlue_21 {y : Lay} (hy : LY y) {M : Mem} {c : Nat} (hc : c < 30) (m : Int32) : f_X8_addBlue y 21 (n2 c) m M = some (0, sr M 22 (addB (M.1 21 7) c m (M.1 22))) := by
  unfold f_X8_addBlue
  have h1 : ¬ n2 c < 0 := n2_n0 (by omega)
  have h2 : ¬ (30 : Int32) ≤ n2 c := nle_l (m := 30) rfl hc (by omega)
  simp only [lT_s, jn_s, c0_s, cp_s, cx_s, cx_t, bR_f h1, bR_f h2, gK_t (k_21 hy), gN_t (r := 21) (by decide), r_21_0 hy, r_21_1 hy, r_21_2 hy, r_21_3 hy, r_21_4 hy, r_21_5 hy, r_21_6 hy, gN_t (r := 22) (by decide), isPegged_g (k_21 hy), gA_n (k_22 hy) hc (by omega), n2_nat (show c < 2147483648 by omega)]
  unfold addB
  show _ = some ((0 : Int32), sr M 22 (if ((M.1 21 7 >>> (n2 c &&& 31)) &&& 1) = 0 then _ else _))
  by_cases h : ((M.1 21 7 >>> (n2 c &&& 31)) &&& 1) = 0
  · simp only [if_pos h, bR_t, wI_sr]
  · rw [if_neg h, if_neg h, bR_f (by decide), sr_self]
theorem sr_ap (M : Mem) (p : Nat) (f : Row) : (sr M p f).1 p = f := if_pos rfl
theorem sr_ne {M : Mem} {p q : Nat} {f : Row} (h : ¬ q = p) : (sr M p f).1 q = M.1 q := if_neg h
/-- java's bitCount, as it is written -/
def bcJ (a : Int32) : Int32 :=
  let v1 := a - (((a.toUInt32 >>> ((1 : Int32).toUInt32 &&& Int32.toUInt32 31)).toInt32) &&& (1431655765 : Int32))
  let v2 := (v1 &&& (858993459 : Int32)) + (((v1.toUInt32 >>> ((2 : Int32).toUInt32 &&& Int32.toUInt32 31)).toInt32) &&& (858993459 : Int32))
  let v3 := (v2 + ((v2.toUInt32 >>> ((4 : Int32).toUInt32 &&& Int32.toUInt32 31)).toInt32)) &&& (252645135 : Int32)
  let v4 := v3 + ((v3.toUInt32 >>> ((8 : Int32).toUInt32 &&& Int32.toUInt32 31)).toInt32)
  let v5 := v4 + ((v4.toUInt32 >>> ((16 : Int32).toUInt32 &&& Int32.toUInt32 31)).toInt32)
  v5 &&& (63 : Int32)
theorem bitCount_s {y : Lay} {a : Int32} {M : Mem} : f_J6_bitCount_0f7a4 y a M = some (bcJ a) := rfl
/-- overdone -/
def ovF (bd : Int32) (B : Row) : Nat → Int32 → Int32 := fun c o => if B c ≤ bd then o else o ||| bit c
def ovB (bd : Int32) (B : Row) : Int32 := it (ovF bd B) 0 30
theorem markOverdone_37 {y : Lay} (hy : LY y) {M : Mem} : f_X8_markOverdone y 37 M = some (0, sr M 37 (up (up (M.1 37) 12 (ovB (M.1 4 3) (M.1 38))) 10 (jmin 9999 (M.1 37 10 + bcJ (ovB (M.1 4 3) (M.1 38)))))) := by
  unfold f_X8_markOverdone
  simp only [lT_s, jn_s, c0_s, cp_s, cx_s, cx_t, gK_t (k_37 hy), gN_t (r := 37) (by decide), r_37_0 hy, r_37_1 hy, r_37_2 hy, r_37_3 hy, r_37_4 hy, r_37_5 hy, r_37_6 hy, gN_t (r := 38) (by decide), gK_t (k_4 hy), gN_t (r := 4) (by decide), r_4_6 hy, r_4_7 hy, r_4_8 hy]
  refine wp_eq ?_
  refine wp_for (i0 := 0) 30 (fun i s => s = sr M 37 (up (M.1 37) 12 (it (ovF (M.1 4 3) (M.1 38)) 0 i))) (by decide) rfl (by omega) (by rw [wI_sr]; rfl) ?_ ?_
  · intro f i s hi hI hk
    subst hI
    refine wp_brf (nle_l (m := 30) rfl hi (by omega)) ?_
    rw [gA_n (k_38 hy) hi (by omega)]
    simp only [n2_nat (show i < 2147483648 by omega), sr_ne (show ¬ 38 = 37 by decide), sr_ne (show ¬ 4 = 37 by decide), n2_s]
    refine wp_br (fun h => hk _ ?_) (fun h => hk _ ?_)
    · rw [it_s]; unfold ovF; rw [if_pos h]
    · rw [wI_sr, sr_ap, sr_sr, it_s]
      refine congrArg (sr M 37) ?_
      funext k
      unfold up ovF bit
      by_cases hk : k = 12
      · rw [if_pos hk, if_pos hk, if_neg h, if_pos rfl]
      · rw [if_neg hk, if_neg hk, if_neg hk]
  · intro f s hI
    subst hI
    refine wp_brt (le_l (m := 30) rfl (by omega) (by omega)) ?_
    simp only [bitCount_s, lT_s, jn_s, c0_s, cp_s, cx_s, cx_t]
    refine wp_some ?_
    rw [wI_sr, sr_ap, sr_sr]
    rfl
theorem markOverdone_58 {y : Lay} (hy : LY y) {M : Mem} : f_X8_markOverdone y 58 M = some (0, sr M 58 (up (up (M.1 58) 12 (ovB (M.1 4 3) (M.1 59))) 10 (jmin 9999 (M.1 58 10 + bcJ (ovB (M.1 4 3) (M.1 59)))))) := by
  unfold f_X8_markOverdone
  simp only [lT_s, jn_s, c0_s, cp_s, cx_s, cx_t, gK_t (k_58 hy), gN_t (r := 58) (by decide), r_58_0 hy, r_58_1 hy, r_58_2 hy, r_58_3 hy, r_58_4 hy, r_58_5 hy, r_58_6 hy, gN_t (r := 59) (by decide), gK_t (k_4 hy), gN_t (r := 4) (by decide), r_4_6 hy, r_4_7 hy, r_4_8 hy]
  refine wp_eq ?_
  refine wp_for (i0 := 0) 30 (fun i s => s = sr M 58 (up (M.1 58) 12 (it (ovF (M.1 4 3) (M.1 59)) 0 i))) (by decide) rfl (by omega) (by rw [wI_sr]; rfl) ?_ ?_
  · intro f i s hi hI hk
    subst hI
    refine wp_brf (nle_l (m := 30) rfl hi (by omega)) ?_
    rw [gA_n (k_59 hy) hi (by omega)]
    simp only [n2_nat (show i < 2147483648 by omega), sr_ne (show ¬ 59 = 58 by decide), sr_ne (show ¬ 4 = 58 by decide), n2_s]
    refine wp_br (fun h => hk _ ?_) (fun h => hk _ ?_)
    · rw [it_s]; unfold ovF; rw [if_pos h]
    · rw [wI_sr, sr_ap, sr_sr, it_s]
      refine congrArg (sr M 58) ?_
      funext k
      unfold up ovF bit
      by_cases hk : k = 12
      · rw [if_pos hk, if_pos hk, if_neg h, if_pos rfl]
      · rw [if_neg hk, if_neg hk, if_neg hk]
  · intro f s hI
    subst hI
    refine wp_brt (le_l (m := 30) rfl (by omega) (by omega)) ?_
    simp only [bitCount_s, lT_s, jn_s, c0_s, cp_s, cx_s, cx_t]
    refine wp_some ?_
    rw [wI_sr, sr_ap, sr_sr]
    rfl
