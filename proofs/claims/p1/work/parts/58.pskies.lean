/-! ===== skies by a seed, without girls ===== -/
def bN (s : Int32) : Nat := (s >>> ((16 : Int32) &&& 31)).toBitVec.toNat % 32768
theorem and_n (z : Int32) : z &&& 32767 = n2 (z.toBitVec.toNat % 32768) := by
  apply Int32.toBitVec_inj.1
  apply BitVec.eq_of_toNat_eq
  show (z.toBitVec &&& 32767#32).toNat = (BitVec.ofNat 32 (z.toBitVec.toNat % 32768)).toNat
  rw [BitVec.toNat_and, BitVec.toNat_ofNat, BitVec.toNat_ofNat]
  have e : 32767 % 2 ^ 32 = 2 ^ 15 - 1 := by decide
  rw [e, Nat.and_two_pow_sub_one_eq_mod]
  omega
theorem bits_m (s : Int32) : (s >>> ((16 : Int32) &&& 31)) &&& 32767 = n2 (bN s) := and_n _
theorem m_hi : ∀ i : Fin 32, 15 ≤ i.val → (32767#32).getLsbD i.val = false := by decide
theorem sh16 (v : BitVec 32) : (v >>> 16) &&& 32767#32 = (v.sshiftRight 16) &&& 32767#32 := by
  apply BitVec.eq_of_getLsbD_eq
  intro i hi
  rw [BitVec.getLsbD_and, BitVec.getLsbD_and]
  by_cases h : i < 15
  · rw [BitVec.getLsbD_ushiftRight, BitVec.getLsbD_sshiftRight]
    have h1 : ¬ 32 ≤ i := by omega
    have h2 : 16 + i < 32 := by omega
    simp [h1, h2]
  · have h7 := m_hi ⟨i, hi⟩ (Nat.le_of_not_lt h)
    dsimp only at h7
    rw [h7, Bool.and_false, Bool.and_false]
theorem bits_c (s : Int32) : ((s.toUInt32 >>> ((16 : Int32).toUInt32 &&& Int32.toUInt32 31)).toInt32) &&& 32767 = n2 (bN s) := by
  rw [← bits_m]
  apply Int32.toBitVec_inj.1
  exact sh16 s.toBitVec
theorem divn {b m : Nat} (hb : b < 2147483648) (hm : m < 2147483648) : n2 b / n2 m = n2 (b / m) := by
  have h3 : b / m ≤ b := Nat.div_le_self _ _
  rw [i_eq, Int32.toInt_div, n2_int hb, n2_int hm, n2_int (by omega), ← Int.ofNat_tdiv]
  generalize b / m = q at h3 ⊢
  exact Int.bmod_eq_of_le (by omega) (by omega)
theorem modn {b m : Nat} (hb : b < 2147483648) (hm : m < 2147483648) : n2 b - n2 b / n2 m * n2 m = n2 (b % m) := by
  have h3 : b / m * m ≤ b := Nat.div_mul_le_self _ _
  rw [divn hb hm, n2_mul, n2_sub h3]
  refine congrArg n2 ?_
  have := Nat.div_add_mod b m
  rw [Nat.mul_comm] at this
  omega
theorem bN_lt (s : Int32) : bN s < 32768 := Nat.mod_lt _ (by decide)
theorem draw_c (D : Int32 → Int32) (hD : ∀ x, x * 1103515245 + 12345 = D x) {y : Lay} (hy : LY y) {M : Mem} {m : Nat} (h1 : 0 < m) (h2 : m < 32768) : f_X3_draw y 69 (n2 m) M = some (n2 (bN (D (M.1 69 0)) % m), sr M 69 (up (M.1 69) 0 (D (M.1 69 0)))) := by
  unfold f_X3_draw
  have hb := bN_lt (D (M.1 69 0))
  have e : M.1 69 0 * 1103515245 + 12345 = D (M.1 69 0) := hD _
  simp only [lT_s, jn_s, c0_s, cp_s, cx_s, cx_t, gK_t (k_69 hy), gN_t (r := 69) (by decide), wI_sr, sr_ap, up_eq, e, bits_c]
  have hA : ¬ n2 m ≤ 0 := fun q => by
    have := (n2_le (i := m) (j := 0) (by omega) (by decide)).mp q
    omega
  have hB : ¬ n2 m = 0 := fun q => by
    have := (n2_inj (i := m) (j := 0) (by omega) (by decide)).mp q
    omega
  rw [bR_f hA, gd_t hB, modn (by omega) (by omega)]
theorem draw_m (D : Int32 → Int32) (hD : ∀ x, x * 1103515245 + 12345 = D x) {y : Lay} (hy : LY y) {M : Mem} {m : Nat} (h1 : 0 < m) (h2 : m < 32768) : f_X12_drawOf y 73 (n2 m) M = some (n2 (bN (D (M.1 73 54)) % m), sr M 73 (up (M.1 73) 54 (D (M.1 73 54)))) := by
  unfold f_X12_drawOf
  have hb := bN_lt (D (M.1 73 54))
  have e : M.1 73 54 * 1103515245 + 12345 = D (M.1 73 54) := hD _
  simp only [lT_s, jn_s, c0_s, cp_s, cx_s, cx_t, gK_t (k_73 hy), gN_t (r := 73) (by decide), r_73_0 hy, r_73_1 hy, r_73_2 hy, r_73_5 hy, r_73_6 hy, r_73_7 hy, r_73_8 hy, r_73_9 hy, r_73_10 hy, r_73_11 hy, r_73_12 hy, r_73_13 hy, r_73_14 hy, r_73_28 hy, r_73_29 hy, r_73_30 hy, r_73_38 hy, r_73_39 hy, r_73_40 hy, r_73_42 hy, r_73_43 hy, r_73_44 hy, r_73_45 hy, r_73_46 hy, r_73_47 hy, r_73_48 hy, r_73_49 hy, r_73_50 hy, r_73_51 hy, r_73_53 hy, r_73_58 hy, r_73_59 hy, r_73_60 hy, r_73_61 hy, r_73_62 hy, r_73_63 hy, wI_sr, sr_ap, up_eq, e, bits_m]
  have hB : ¬ n2 m = 0 := fun q => by
    have := (n2_inj (i := m) (j := 0) (by omega) (by decide)).mp q
    omega
  rw [gd_t hB, modn (by omega) (by omega)]
/-- what a draw does to a sky (and to the seed) -/
def dSt (D : Int32 → Int32) (q : Sk × Int32) : Sk × Int32 :=
  if bN (D q.2) % 5 = 0 then ((addB q.1.2.2.2.1 (bN (D (D q.2)) % 9) 20 q.1.1, q.1.2), D (D q.2))
  else if bN (D q.2) % 5 = 2 then ((q.1.1, q.1.2.1, q.1.2.2.1, q.1.2.2.2.1, q.1.2.2.2.2.1, jmin 99 (q.1.2.2.2.2.2.1 + 5), q.1.2.2.2.2.2.2), D q.2)
  else (q.1, D q.2)
theorem addB_ok {n c : Nat} {B : Row} (h : BOK n B) (hc : c < n) (hn : n ≤ 30) (pg : Int32) : BOK n (addB pg c 20 B) := by
  unfold addB
  split
  · have nu : ∀ v : Fin 100, ∃ w : Fin 100, jmin 99 (n2 v.val + 20) = n2 w.val := by decide +kernel
    refine ⟨fun k => ?_, fun k hk => ?_⟩
    · by_cases e : k = c
      · rw [e, up_eq]
        obtain ⟨v, v1, v2⟩ := h.1 c
        obtain ⟨w, hw⟩ := nu ⟨v, v1⟩
        exact ⟨w.val, w.isLt, by rw [v2]; exact hw⟩
      · rw [up_ne e]; exact h.1 k
    · rw [up_ne (by omega)]; exact h.2 k hk
  · exact h
theorem dSt_ok (D : Int32 → Int32) {q : Sk × Int32} (h : SOK K0 q.1) (hp : q.1.2.2.2.1 = 0) : SOK K0 (dSt D q).1 ∧ (dSt D q).1.2.2.2.1 = 0 ∧ (dSt D q).1.2.2.2.2.2.2.1 = q.1.2.2.2.2.2.2.1 := by
  unfold dSt
  split
  · exact ⟨⟨addB_ok h.1 (Nat.mod_lt _ (by decide)) (by decide) _, h.2⟩, hp, rfl⟩
  · split
    · exact ⟨⟨h.1, h.2⟩, hp, rfl⟩
    · exact ⟨h, hp, rfl⟩
theorem drawAhead_c (D : Int32 → Int32) (hD : ∀ x, x * 1103515245 + 12345 = D x) {y : Lay} (hy : LY y) {M : Mem} (hK : COA K0 M) {S : Sk} (hS : skV M 58 59 62 63 = S) : wp (f_X11_drawAhead y 1 M) (fun o => Eqx [58, 59, 69] M o.2 ∧ skV o.2 58 59 62 63 = (dSt D (S, M.1 69 0)).1 ∧ o.2.1 69 0 = (dSt D (S, M.1 69 0)).2) := by
  subst hS
  have g : GEO 3 3 (M.1 4 0) (M.1 4 1) := hK.1.1
  have hg : M.1 4 4 = 0 := hK.2.1
  unfold f_X11_drawAhead
  have hb : bN (D (M.1 69 0)) % 5 < 5 := Nat.mod_lt _ (by decide)
  have hb9 : bN (D (D (M.1 69 0))) % 9 < 9 := Nat.mod_lt _ (by decide)
  rw [show (5 : Int32) = n2 5 from rfl]
  simp only [gK_t (k_1 hy), gN_t (r := 1) (by decide), r_1_0 hy, r_1_1 hy, r_1_2 hy, r_1_3 hy, r_1_4 hy, r_1_5 hy, r_1_6 hy, r_1_7 hy, r_1_8 hy, r_1_9 hy, r_1_10 hy, gK_t (k_58 hy), gN_t (r := 58) (by decide), r_58_0 hy, r_58_1 hy, r_58_2 hy, r_58_3 hy, r_58_4 hy, r_58_5 hy, r_58_6 hy, gK_t (k_69 hy), gN_t (r := 69) (by decide), gK_t (k_4 hy), gN_t (r := 4) (by decide), r_4_6 hy, r_4_7 hy, r_4_8 hy, draw_c D hD hy (m := 5) (by decide) (by decide), c0_s, jn_s]
  generalize hN : sr M 69 (up (M.1 69) 0 (D (M.1 69 0))) = N
  have n4 : N.1 4 = M.1 4 := by rw [← hN, sr_ne (by decide)]
  have n58 : N.1 58 = M.1 58 := by rw [← hN, sr_ne (by decide)]
  have n59 : N.1 59 = M.1 59 := by rw [← hN, sr_ne (by decide)]
  have n69 : N.1 69 0 = D (M.1 69 0) := by rw [← hN, sr_ap, up_eq]
  have nE : Eqx [58, 59, 69] M N := by rw [← hN]; exact (Eqx.refl _ _).sr (by decide)
  have nV : skV N 58 59 62 63 = skV M 58 59 62 63 := by
    rw [← hN]
    unfold skV
    simp only [sr_1, Nat.reduceEqDiff, if_false, ↓reduceIte]
  have gN : GEO 3 3 (N.1 4 0) (N.1 4 1) := by rw [n4]; exact g
  unfold dSt
  dsimp only
  rcases (show bN (D (M.1 69 0)) % 5 = 0 ∨ bN (D (M.1 69 0)) % 5 = 1 ∨ bN (D (M.1 69 0)) % 5 = 2 ∨ bN (D (M.1 69 0)) % 5 = 3 ∨ bN (D (M.1 69 0)) % 5 = 4 by omega) with e | e | e | e | e
  · rw [e, if_pos rfl]
    refine wp_brf (by decide) (wp_brt (by decide) ?_)
    rw [cells_4 hy gN, cp_s, show n2 (3 * 3) = n2 9 from rfl, draw_c D hD hy (m := 9) (by decide) (by decide), c0_s, n69, addBlue_58 hy (by omega), c0_s]
    refine wp_some ⟨(nE.sr (by decide)).sr (by decide), ?_, ?_⟩
    · unfold skV
      simp only [sr_1, Nat.reduceEqDiff, if_false, if_true, ↓reduceIte, n58, n59]
      rw [nE.2 62 (by decide), nE.2 63 (by decide)]
    · rw [sr_ne (by decide), sr_ap, up_eq]
  · rw [e, if_neg (by decide), if_neg (by decide)]
    refine wp_brf (by decide) (wp_brf (by decide) (wp_brt (by decide) (wp_brt ?_ ?_)))
    · rw [n4, hg]; decide
    · exact wp_some ⟨nE, nV, n69⟩
  · rw [e, if_neg (by decide), if_pos rfl]
    refine wp_brf (by decide) (wp_brf (by decide) (wp_brf (by decide) ?_))
    unfold f_X8_addKnobs
    simp only [lT_s, jn_s, c0_s, cp_s, cx_s, cx_t, gK_t (k_58 hy), gN_t (r := 58) (by decide), r_58_0 hy, r_58_1 hy, r_58_2 hy, r_58_3 hy, r_58_4 hy, r_58_5 hy, r_58_6 hy, wI_sr]
    refine wp_some ⟨nE.sr (by decide), ?_, ?_⟩
    · unfold skV
      simp only [sr_1, Nat.reduceEqDiff, if_false, if_true, ↓reduceIte, up, n58, n59]
      rw [nE.2 62 (by decide), nE.2 63 (by decide)]
      rfl
    · rw [sr_ne (by decide), n69]
  · rw [e, if_neg (by decide), if_neg (by decide)]
    refine wp_brt (by decide) ?_
    exact wp_some ⟨nE, nV, n69⟩
  · rw [e, if_neg (by decide), if_neg (by decide)]
    refine wp_brt (by decide) ?_
    exact wp_some ⟨nE, nV, n69⟩
theorem dye_s {y : Lay} (hy : LY y) {M : Mem} {c : Nat} (hc : c < 30) (hp : M.1 73 34 = 0) (m : Int32) : f_X12_dye y 73 (n2 c) m M = some (0, sr M 87 (addB (M.1 73 34) c m (M.1 87))) := by
  unfold f_X12_dye addB
  rw [hp]
  have e1 : ¬ (0 : Int32) = 1 := by decide
  simp only [lT_s, jn_s, c0_s, cp_s, cx_s, cx_t, gK_t (k_73 hy), gN_t (r := 73) (by decide), r_73_0 hy, r_73_1 hy, r_73_2 hy, r_73_5 hy, r_73_6 hy, r_73_7 hy, r_73_8 hy, r_73_9 hy, r_73_10 hy, r_73_11 hy, r_73_12 hy, r_73_13 hy, r_73_14 hy, r_73_28 hy, r_73_29 hy, r_73_30 hy, r_73_38 hy, r_73_39 hy, r_73_40 hy, r_73_42 hy, r_73_43 hy, r_73_44 hy, r_73_45 hy, r_73_46 hy, r_73_47 hy, r_73_48 hy, r_73_49 hy, r_73_50 hy, r_73_51 hy, r_73_53 hy, r_73_58 hy, r_73_59 hy, r_73_60 hy, r_73_61 hy, r_73_62 hy, r_73_63 hy, gN_t (r := 87) (by decide), isOf_s, bt_00 c, if_neg e1, br_T, if_true]
  rw [gA_n (k_87 hy) hc (by omega), gA_n (k_87 hy) hc (by omega), n2_nat (by omega), wI_sr]
theorem something_m (D : Int32 → Int32) (hD : ∀ x, x * 1103515245 + 12345 = D x) {y : Lay} (hy : LY y) {M : Mem} (hK : COM K0 M) {S : Sk} (hS : moV M = S) (hp : S.2.2.2.1 = 0) : wp (f_X12_something y 73 M) (fun o => Eqx [73, 87] M o.2 ∧ moV o.2 = (dSt D (S, M.1 73 54)).1 ∧ o.2.1 73 54 = (dSt D (S, M.1 73 54)).2 ∧ ∀ k, ¬ k = 32 → ¬ k = 54 → o.2.1 73 k = M.1 73 k) := by
  subst hS
  have g : GEO 3 3 (M.1 77 0) (M.1 77 1) := hK.1.1
  have hg : M.1 77 2 = 0 := hK.2.1
  have hp : M.1 73 34 = 0 := hp
  unfold f_X12_something
  have hb : bN (D (M.1 73 54)) % 5 < 5 := Nat.mod_lt _ (by decide)
  have hb9 : bN (D (D (M.1 73 54))) % 9 < 9 := Nat.mod_lt _ (by decide)
  have e2 : (2 : Int32).toNatClampNeg = 2 := rfl
  rw [show (5 : Int32) = n2 5 from rfl]
  simp only [gK_t (k_73 hy), gN_t (r := 73) (by decide), r_73_0 hy, r_73_1 hy, r_73_2 hy, r_73_5 hy, r_73_6 hy, r_73_7 hy, r_73_8 hy, r_73_9 hy, r_73_10 hy, r_73_11 hy, r_73_12 hy, r_73_13 hy, r_73_14 hy, r_73_28 hy, r_73_29 hy, r_73_30 hy, r_73_38 hy, r_73_39 hy, r_73_40 hy, r_73_42 hy, r_73_43 hy, r_73_44 hy, r_73_45 hy, r_73_46 hy, r_73_47 hy, r_73_48 hy, r_73_49 hy, r_73_50 hy, r_73_51 hy, r_73_53 hy, r_73_58 hy, r_73_59 hy, r_73_60 hy, r_73_61 hy, r_73_62 hy, r_73_63 hy, gN_t (r := 77) (by decide), draw_m D hD hy (m := 5) (by decide) (by decide), c0_s, jn_s, e2]
  generalize hN : sr M 73 (up (M.1 73) 54 (D (M.1 73 54))) = N
  have n77 : N.1 77 = M.1 77 := by rw [← hN, sr_ne (by decide)]
  have n87 : N.1 87 = M.1 87 := by rw [← hN, sr_ne (by decide)]
  have n54 : N.1 73 54 = D (M.1 73 54) := by rw [← hN, sr_ap, up_eq]
  have nk : ∀ k, ¬ k = 54 → N.1 73 k = M.1 73 k := fun k hk => by rw [← hN, sr_ap, up_ne hk]
  have nE : Eqx [73, 87] M N := by rw [← hN]; exact (Eqx.refl _ _).sr (by decide)
  have nV : moV N = moV M := by
    unfold moV
    rw [nk 34 (by decide), nk 35 (by decide), nk 32 (by decide), nk 33 (by decide), nk 31 (by decide), nk 41 (by decide), n87, nE.2 88 (by decide), nE.2 85 (by decide)]
  have gN : GEO 3 3 (N.1 77 0) (N.1 77 1) := by rw [n77]; exact g
  have hr : ∀ r : Nat, r < 5 → ∀ m : Nat, m < 5 → (n2 r = n2 m ↔ r = m) := fun r h1 m h2 => n2_inj (by omega) (by omega)
  unfold dSt
  dsimp only
  rcases (show bN (D (M.1 73 54)) % 5 = 0 ∨ bN (D (M.1 73 54)) % 5 = 1 ∨ bN (D (M.1 73 54)) % 5 = 2 ∨ bN (D (M.1 73 54)) % 5 = 3 ∨ bN (D (M.1 73 54)) % 5 = 4 by omega) with e | e | e | e | e
  · rw [e, if_pos rfl]
    refine wp_brt (by decide) ?_
    rw [cellsG hy gN, cp_s, show n2 (3 * 3) = n2 9 from rfl, draw_m D hD hy (m := 9) (by decide) (by decide), c0_s, n54]
    have hp2 : (sr N 73 (up (N.1 73) 54 (D (D (M.1 73 54))))).1 73 34 = 0 := by rw [sr_ap, up_ne (by decide), nk 34 (by decide), hp]
    rw [dye_s hy (by omega) hp2, c0_s]
    refine wp_brf (by decide) (wp_brf (by decide) ?_)
    refine wp_some ⟨(nE.sr (by decide)).sr (by decide), ?_, ?_, fun k h1 h2 => ?_⟩
    · unfold moV
      simp only [sr_1, Nat.reduceEqDiff, if_false, if_true, ↓reduceIte, up, n87]
      rw [nk 34 (by decide), nk 35 (by decide), nk 32 (by decide), nk 33 (by decide), nk 31 (by decide), nk 41 (by decide), nE.2 88 (by decide), nE.2 85 (by decide)]
    · rw [sr_ne (by decide), sr_ap, up_eq]
    · rw [sr_ne (by decide), sr_ap, up_ne h2, nk k h2]
  · rw [e, if_neg (by decide), if_neg (by decide)]
    refine wp_brf (by decide) (wp_brt (by decide) ?_)
    rw [gA_t (k_77 hy) (by decide), n77, hg]
    refine wp_brt (by decide) (wp_brf (by decide) ?_)
    exact wp_some ⟨nE, nV, n54, fun k _ h2 => nk k h2⟩
  · rw [e, if_neg (by decide), if_pos rfl]
    refine wp_brf (by decide) (wp_brf (by decide) (wp_brt (by decide) ?_))
    simp only [lT_s, wI_sr]
    refine wp_some ⟨nE.sr (by decide), ?_, ?_, fun k h1 h2 => ?_⟩
    · unfold moV
      simp only [sr_1, Nat.reduceEqDiff, if_false, if_true, ↓reduceIte, up, n87]
      rw [nk 34 (by decide), nk 35 (by decide), nk 32 (by decide), nk 33 (by decide), nk 31 (by decide), nk 41 (by decide), nE.2 88 (by decide), nE.2 85 (by decide)]
      rfl
    · rw [sr_ap, up_ne (by decide), n54]
    · rw [sr_ap, up_ne h1, nk k h2]
  · rw [e, if_neg (by decide), if_neg (by decide)]
    refine wp_brf (by decide) (wp_brf (by decide) (wp_brf (by decide) ?_))
    exact wp_some ⟨nE, nV, n54, fun k _ h2 => nk k h2⟩
  · rw [e, if_neg (by decide), if_neg (by decide)]
    refine wp_brf (by decide) (wp_brf (by decide) (wp_brf (by decide) ?_))
    exact wp_some ⟨nE, nV, n54, fun k _ h2 => nk k h2⟩
