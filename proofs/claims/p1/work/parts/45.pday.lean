/-! ===== a day, class and model; so far without girls and without rules ===== -/
/-- the night: rinsing, then fading -/
def nB1 (r : Int32) (B : Row) : Row := rowTo 30 (fun k => jmax 0 (B k - r)) B
def nB (r : Int32) (B : Row) : Row := rowTo 30 (fun k => nB1 r B k - nB1 r B k / 5) (nB1 r B)
/-- no girls, no rules -/
def PLAIN (M : Mem) : Prop := M.1 4 4 = 0 ∧ M.1 9 2 = 0
theorem fadeOf_37 {y : Lay} (hy : LY y) {M : Mem} {c : Nat} (hc : c < 30) (hf : M.1 9 2 = 0) : f_X8_fadeOf y 37 (n2 c) M = some (M.1 38 c / 5, M) := by
  unfold f_X8_fadeOf
  simp only [lT_s, jn_s, c0_s, cp_s, cx_s, cx_t, gK_t (k_37 hy), gN_t (r := 37) (by decide), r_37_0 hy, r_37_1 hy, r_37_2 hy, r_37_3 hy, r_37_4 hy, r_37_5 hy, r_37_6 hy, gK_t (k_4 hy), gN_t (r := 4) (by decide), r_4_6 hy, r_4_7 hy, r_4_8 hy, gK_t (k_9 hy), gN_t (r := 9) (by decide), r_9_0 hy, r_9_1 hy, isTold_g (k_9 hy), hf, blueOf_37 hy hc]
  rw [if_pos (show (0 : Int32) ≤ 0 by decide), bR_t rfl, gd_t (by decide)]
theorem fade_37 {y : Lay} (hy : LY y) {M : Mem} (hf : M.1 9 2 = 0) : f_X8_fade y 37 M = some (0, sr (sr M 40 (rowTo 30 (fun k => M.1 38 k / 5) (M.1 40))) 38 (rowTo 30 (fun k => M.1 38 k - M.1 38 k / 5) (M.1 38))) := by
  unfold f_X8_fade
  simp only [lT_s, jn_s, c0_s, cp_s, cx_s, cx_t, gK_t (k_37 hy), gN_t (r := 37) (by decide), r_37_0 hy, r_37_1 hy, r_37_2 hy, r_37_3 hy, r_37_4 hy, r_37_5 hy, r_37_6 hy, gN_t (r := 38) (by decide), gN_t (r := 40) (by decide)]
  refine wp_eq ?_
  refine wp_for (i0 := 0) 30 (fun i s => s = sr M 40 (rowTo i (fun k => M.1 38 k / 5) (M.1 40))) (by decide) rfl (by omega) (by rw [rowTo_0, sr_self]) ?_ ?_
  · intro f i s hi hI hk
    subst hI
    refine wp_brf (nle_l (m := 30) rfl hi (by omega)) ?_
    rw [fadeOf_37 hy hi (by rw [sr_ne (by decide)]; exact hf)]
    simp only [lT_s, jn_s, c0_s, cp_s, cx_s, cx_t, gA_n (k_40 hy) hi (by omega), n2_nat (show i < 2147483648 by omega), sr_ne (show ¬ 38 = 40 by decide), n2_s]
    refine hk _ ?_
    rw [wI_sr, sr_ap, sr_sr, rowTo_s]
  · intro f s hI
    subst hI
    refine wp_brt (le_l (m := 30) rfl (by omega) (by omega)) ?_
    refine wp_for (i0 := 0) 30 (fun i s => s = sr (sr M 40 (rowTo 30 (fun k => M.1 38 k / 5) (M.1 40))) 38 (rowTo i (fun k => M.1 38 k - M.1 38 k / 5) (M.1 38))) (by decide) rfl (by omega) ?_ ?_ ?_
    · rw [rowTo_0]
      refine (sr_self _ 38).symm.trans ?_
      rw [sr_ne (by decide)]
    · intro f i s hi hI hk
      subst hI
      refine wp_brf (nle_l (m := 30) rfl hi (by omega)) ?_
      rw [gA_n (k_38 hy) hi (by omega), gA_n (k_40 hy) hi (by omega), gA_n (k_38 hy) hi (by omega)]
      simp only [n2_nat (show i < 2147483648 by omega), sr_ne (show ¬ 40 = 38 by decide), sr_ap, n2_s]
      refine hk _ ?_
      rw [wI_sr, sr_ap, sr_sr, rowTo_n]
      have e : rowTo 30 (fun k => M.1 38 k / 5) (M.1 40) i = M.1 38 i / 5 := if_pos hi
      rw [e, rowTo_s i (fun k => M.1 38 k - M.1 38 k / 5)]
    · intro f s hI
      subst hI
      refine wp_brt (le_l (m := 30) rfl (by omega) (by omega)) ?_
      exact wp_some rfl
/-- what a day does to the row of the sky's own numbers -/
def dayO_37 (M : Mem) : Row := up (up (up (M.1 37) 12 (ovB (M.1 4 3) (M.1 38))) 10 (jmin 9999 (M.1 37 10 + bcJ (ovB (M.1 4 3) (M.1 38))))) 11 (M.1 37 11 + 1)
theorem passDay_37 {y : Lay} (hy : LY y) {M : Mem} (hp : PLAIN M) : wp (f_X8_passDay y 37 M) (fun o => o.1 = 0 ∧ Eqx [37, 38, 39, 40] M o.2 ∧ o.2.1 38 = nB (M.1 4 2) (M.1 38) ∧ o.2.1 37 = dayO_37 M ∧ o.2.1 39 = va_cpy (M.1 38) (M.1 39) 0 0 30) := by
  unfold f_X8_passDay
  obtain ⟨hg, hf⟩ := hp
  simp only [lT_s, jn_s, c0_s, cp_s, cx_s, cx_t, gK_t (k_37 hy), gN_t (r := 37) (by decide), r_37_0 hy, r_37_1 hy, r_37_2 hy, r_37_3 hy, r_37_4 hy, r_37_5 hy, r_37_6 hy, gN_t (r := 38) (by decide), gN_t (r := 39) (by decide), gK_t (k_4 hy), gN_t (r := 4) (by decide), r_4_6 hy, r_4_7 hy, r_4_8 hy]
  rw [gC_t (k_38 hy) (k_39 hy) (by decide)]
  rw [cpI_sr]
  refine wp_for (i0 := 0) 0 (fun i s => s = sr M 39 (va_cpy (M.1 38) (M.1 39) 0 0 30)) (by decide) rfl (by omega) rfl (fun f i s hi => absurd hi (Nat.not_lt_zero _)) ?_
  intro f s hI
  subst hI
  refine wp_brt (by rw [sr_ne (by decide), hg]; decide) ?_
  rw [markOverdone_37 hy]
  simp only [lT_s, jn_s, c0_s, cp_s, cx_s, cx_t, sr_ne (show ¬ 37 = 39 by decide), sr_ne (show ¬ 38 = 39 by decide), sr_ne (show ¬ 4 = 39 by decide)]
  generalize hM1 : sr (sr M 39 (va_cpy (M.1 38) (M.1 39) 0 0 30)) 37 (up (up (M.1 37) 12 (ovB (M.1 4 3) (M.1 38))) 10 (jmin 9999 (M.1 37 10 + bcJ (ovB (M.1 4 3) (M.1 38))))) = M1
  have e1 : ∀ p, ¬ p = 37 → ¬ p = 39 → M1.1 p = M.1 p := fun p h1 h2 => by rw [← hM1, sr_ne h1, sr_ne h2]
  have eb := e1 38 (by decide) (by decide)
  have ec := e1 4 (by decide) (by decide)
  have ef := e1 9 (by decide) (by decide)
  refine wp_for (i0 := 0) 30 (fun i s => s = sr M1 38 (rowTo i (fun k => jmax 0 (M.1 38 k - M.1 4 2)) (M.1 38))) (by decide) rfl (by omega) (by rw [rowTo_0, ← eb, sr_self]) ?_ ?_
  · intro f i s hi hI hk
    subst hI
    refine wp_brf (nle_l (m := 30) rfl hi (by omega)) ?_
    rw [gA_n (k_38 hy) hi (by omega), gA_n (k_38 hy) hi (by omega)]
    simp only [n2_nat (show i < 2147483648 by omega), sr_ap, sr_ne (show ¬ 4 = 38 by decide), n2_s, ec]
    refine hk _ ?_
    rw [wI_sr, sr_ap, sr_sr, rowTo_n, rowTo_s i (fun k => jmax 0 (M.1 38 k - M.1 4 2))]
  · intro f s hI
    subst hI
    refine wp_brt (le_l (m := 30) rfl (by omega) (by omega)) ?_
    rw [fade_37 hy (by rw [sr_ne (by decide), ef]; exact hf)]
    simp only [lT_s, jn_s, c0_s, cp_s, cx_s, cx_t]
    refine wp_some ⟨rfl, ⟨?_, ?_⟩, ?_, ?_, ?_⟩
    · rw [← hM1]; rfl
    · intro p hp
      simp only [List.mem_cons, List.not_mem_nil, not_or, or_false] at hp
      rw [wI_sr, sr_ne hp.1, sr_ne hp.2.1, sr_ne hp.2.2.2, sr_ne hp.2.1, e1 p hp.1 hp.2.2.1]
    · rw [wI_sr, sr_ne (by decide), sr_ap, sr_ap]
      rfl
    · rw [wI_sr, sr_ap, sr_ne (by decide), sr_ne (by decide), sr_ne (by decide), ← hM1, sr_ap]
      rfl
    · rw [wI_sr, sr_ne (by decide), sr_ne (by decide), sr_ne (by decide), sr_ne (by decide), ← hM1, sr_ne (by decide), sr_ap]
theorem fadeOf_58 {y : Lay} (hy : LY y) {M : Mem} {c : Nat} (hc : c < 30) (hf : M.1 9 2 = 0) : f_X8_fadeOf y 58 (n2 c) M = some (M.1 59 c / 5, M) := by
  unfold f_X8_fadeOf
  simp only [lT_s, jn_s, c0_s, cp_s, cx_s, cx_t, gK_t (k_58 hy), gN_t (r := 58) (by decide), r_58_0 hy, r_58_1 hy, r_58_2 hy, r_58_3 hy, r_58_4 hy, r_58_5 hy, r_58_6 hy, gK_t (k_4 hy), gN_t (r := 4) (by decide), r_4_6 hy, r_4_7 hy, r_4_8 hy, gK_t (k_9 hy), gN_t (r := 9) (by decide), r_9_0 hy, r_9_1 hy, isTold_g (k_9 hy), hf, blueOf_58 hy hc]
  rw [if_pos (show (0 : Int32) ≤ 0 by decide), bR_t rfl, gd_t (by decide)]
theorem fade_58 {y : Lay} (hy : LY y) {M : Mem} (hf : M.1 9 2 = 0) : f_X8_fade y 58 M = some (0, sr (sr M 61 (rowTo 30 (fun k => M.1 59 k / 5) (M.1 61))) 59 (rowTo 30 (fun k => M.1 59 k - M.1 59 k / 5) (M.1 59))) := by
  unfold f_X8_fade
  simp only [lT_s, jn_s, c0_s, cp_s, cx_s, cx_t, gK_t (k_58 hy), gN_t (r := 58) (by decide), r_58_0 hy, r_58_1 hy, r_58_2 hy, r_58_3 hy, r_58_4 hy, r_58_5 hy, r_58_6 hy, gN_t (r := 59) (by decide), gN_t (r := 61) (by decide)]
  refine wp_eq ?_
  refine wp_for (i0 := 0) 30 (fun i s => s = sr M 61 (rowTo i (fun k => M.1 59 k / 5) (M.1 61))) (by decide) rfl (by omega) (by rw [rowTo_0, sr_self]) ?_ ?_
  · intro f i s hi hI hk
    subst hI
    refine wp_brf (nle_l (m := 30) rfl hi (by omega)) ?_
    rw [fadeOf_58 hy hi (by rw [sr_ne (by decide)]; exact hf)]
    simp only [lT_s, jn_s, c0_s, cp_s, cx_s, cx_t, gA_n (k_61 hy) hi (by omega), n2_nat (show i < 2147483648 by omega), sr_ne (show ¬ 59 = 61 by decide), n2_s]
    refine hk _ ?_
    rw [wI_sr, sr_ap, sr_sr, rowTo_s]
  · intro f s hI
    subst hI
    refine wp_brt (le_l (m := 30) rfl (by omega) (by omega)) ?_
    refine wp_for (i0 := 0) 30 (fun i s => s = sr (sr M 61 (rowTo 30 (fun k => M.1 59 k / 5) (M.1 61))) 59 (rowTo i (fun k => M.1 59 k - M.1 59 k / 5) (M.1 59))) (by decide) rfl (by omega) ?_ ?_ ?_
    · rw [rowTo_0]
      refine (sr_self _ 59).symm.trans ?_
      rw [sr_ne (by decide)]
    · intro f i s hi hI hk
      subst hI
      refine wp_brf (nle_l (m := 30) rfl hi (by omega)) ?_
      rw [gA_n (k_59 hy) hi (by omega), gA_n (k_61 hy) hi (by omega), gA_n (k_59 hy) hi (by omega)]
      simp only [n2_nat (show i < 2147483648 by omega), sr_ne (show ¬ 61 = 59 by decide), sr_ap, n2_s]
      refine hk _ ?_
      rw [wI_sr, sr_ap, sr_sr, rowTo_n]
      have e : rowTo 30 (fun k => M.1 59 k / 5) (M.1 61) i = M.1 59 i / 5 := if_pos hi
      rw [e, rowTo_s i (fun k => M.1 59 k - M.1 59 k / 5)]
    · intro f s hI
      subst hI
      refine wp_brt (le_l (m := 30) rfl (by omega) (by omega)) ?_
      exact wp_some rfl
/-- what a day does to the row of the sky's own numbers -/
def dayO_58 (M : Mem) : Row := up (up (up (M.1 58) 12 (ovB (M.1 4 3) (M.1 59))) 10 (jmin 9999 (M.1 58 10 + bcJ (ovB (M.1 4 3) (M.1 59))))) 11 (M.1 58 11 + 1)
theorem passDay_58 {y : Lay} (hy : LY y) {M : Mem} (hp : PLAIN M) : wp (f_X8_passDay y 58 M) (fun o => o.1 = 0 ∧ Eqx [58, 59, 60, 61] M o.2 ∧ o.2.1 59 = nB (M.1 4 2) (M.1 59) ∧ o.2.1 58 = dayO_58 M ∧ o.2.1 60 = va_cpy (M.1 59) (M.1 60) 0 0 30) := by
  unfold f_X8_passDay
  obtain ⟨hg, hf⟩ := hp
  simp only [lT_s, jn_s, c0_s, cp_s, cx_s, cx_t, gK_t (k_58 hy), gN_t (r := 58) (by decide), r_58_0 hy, r_58_1 hy, r_58_2 hy, r_58_3 hy, r_58_4 hy, r_58_5 hy, r_58_6 hy, gN_t (r := 59) (by decide), gN_t (r := 60) (by decide), gK_t (k_4 hy), gN_t (r := 4) (by decide), r_4_6 hy, r_4_7 hy, r_4_8 hy]
  rw [gC_t (k_59 hy) (k_60 hy) (by decide)]
  rw [cpI_sr]
  refine wp_for (i0 := 0) 0 (fun i s => s = sr M 60 (va_cpy (M.1 59) (M.1 60) 0 0 30)) (by decide) rfl (by omega) rfl (fun f i s hi => absurd hi (Nat.not_lt_zero _)) ?_
  intro f s hI
  subst hI
  refine wp_brt (by rw [sr_ne (by decide), hg]; decide) ?_
  rw [markOverdone_58 hy]
  simp only [lT_s, jn_s, c0_s, cp_s, cx_s, cx_t, sr_ne (show ¬ 58 = 60 by decide), sr_ne (show ¬ 59 = 60 by decide), sr_ne (show ¬ 4 = 60 by decide)]
  generalize hM1 : sr (sr M 60 (va_cpy (M.1 59) (M.1 60) 0 0 30)) 58 (up (up (M.1 58) 12 (ovB (M.1 4 3) (M.1 59))) 10 (jmin 9999 (M.1 58 10 + bcJ (ovB (M.1 4 3) (M.1 59))))) = M1
  have e1 : ∀ p, ¬ p = 58 → ¬ p = 60 → M1.1 p = M.1 p := fun p h1 h2 => by rw [← hM1, sr_ne h1, sr_ne h2]
  have eb := e1 59 (by decide) (by decide)
  have ec := e1 4 (by decide) (by decide)
  have ef := e1 9 (by decide) (by decide)
  refine wp_for (i0 := 0) 30 (fun i s => s = sr M1 59 (rowTo i (fun k => jmax 0 (M.1 59 k - M.1 4 2)) (M.1 59))) (by decide) rfl (by omega) (by rw [rowTo_0, ← eb, sr_self]) ?_ ?_
  · intro f i s hi hI hk
    subst hI
    refine wp_brf (nle_l (m := 30) rfl hi (by omega)) ?_
    rw [gA_n (k_59 hy) hi (by omega), gA_n (k_59 hy) hi (by omega)]
    simp only [n2_nat (show i < 2147483648 by omega), sr_ap, sr_ne (show ¬ 4 = 59 by decide), n2_s, ec]
    refine hk _ ?_
    rw [wI_sr, sr_ap, sr_sr, rowTo_n, rowTo_s i (fun k => jmax 0 (M.1 59 k - M.1 4 2))]
  · intro f s hI
    subst hI
    refine wp_brt (le_l (m := 30) rfl (by omega) (by omega)) ?_
    rw [fade_58 hy (by rw [sr_ne (by decide), ef]; exact hf)]
    simp only [lT_s, jn_s, c0_s, cp_s, cx_s, cx_t]
    refine wp_some ⟨rfl, ⟨?_, ?_⟩, ?_, ?_, ?_⟩
    · rw [← hM1]; rfl
    · intro p hp
      simp only [List.mem_cons, List.not_mem_nil, not_or, or_false] at hp
      rw [wI_sr, sr_ne hp.1, sr_ne hp.2.1, sr_ne hp.2.2.2, sr_ne hp.2.1, e1 p hp.1 hp.2.2.1]
    · rw [wI_sr, sr_ne (by decide), sr_ap, sr_ap]
      rfl
    · rw [wI_sr, sr_ap, sr_ne (by decide), sr_ne (by decide), sr_ne (by decide), ← hM1, sr_ap]
      rfl
    · rw [wI_sr, sr_ne (by decide), sr_ne (by decide), sr_ne (by decide), sr_ne (by decide), ← hM1, sr_ne (by decide), sr_ap]
/-! the model -/
theorem isOf_s {y : Lay} {x : Int32} {c : Nat} {M : Mem} : f_X12_isOf y x (n2 c) M = some (if bt x c = 1 then 1 else 0) := by
  unfold f_X12_isOf bt
  simp only [jn_s]
  by_cases h : ((x >>> (n2 c &&& 31)) &&& 1) = 1
  · rw [bR_t h, gd_t (Or.inr trivial), if_pos h]
  · rw [bR_f h, gd_t (Or.inl trivial), if_neg h]
theorem cellsM {y : Lay} (hy : LY y) {M : Mem} : f_X12_cells y 73 M = some (M.1 77 0 * M.1 77 1) := by
  unfold f_X12_cells
  simp only [gK_t (k_73 hy), gN_t (r := 73) (by decide), r_73_0 hy, r_73_1 hy, r_73_2 hy, r_73_5 hy, r_73_6 hy, r_73_7 hy, r_73_8 hy, r_73_9 hy, r_73_10 hy, r_73_11 hy, r_73_12 hy, r_73_13 hy, r_73_14 hy, r_73_28 hy, r_73_29 hy, r_73_30 hy, r_73_38 hy, r_73_39 hy, r_73_40 hy, r_73_42 hy, r_73_43 hy, r_73_44 hy, r_73_45 hy, r_73_46 hy, r_73_47 hy, r_73_48 hy, r_73_49 hy, r_73_50 hy, r_73_51 hy, r_73_53 hy, r_73_58 hy, r_73_59 hy, r_73_60 hy, r_73_61 hy, r_73_62 hy, r_73_63 hy, gN_t (r := 77) (by decide)]
  rw [gA_t (k_77 hy) (by decide), gA_t (k_77 hy) (by decide)]
  rfl
theorem fadesOf_s {y : Lay} (hy : LY y) {M : Mem} {c : Nat} (hc : c < 30) (hf : M.1 77 7 = 0) : f_X12_fadesOf y 73 (n2 c) M = some (jmax 0 (jmin (M.1 87 c) (M.1 87 c / 5)), M) := by
  unfold f_X12_fadesOf
  have e7 : (7 : Int32).toNatClampNeg = 7 := rfl
  simp only [lT_s, jn_s, c0_s, cp_s, cx_s, cx_t, gK_t (k_73 hy), gN_t (r := 73) (by decide), r_73_0 hy, r_73_1 hy, r_73_2 hy, r_73_5 hy, r_73_6 hy, r_73_7 hy, r_73_8 hy, r_73_9 hy, r_73_10 hy, r_73_11 hy, r_73_12 hy, r_73_13 hy, r_73_14 hy, r_73_28 hy, r_73_29 hy, r_73_30 hy, r_73_38 hy, r_73_39 hy, r_73_40 hy, r_73_42 hy, r_73_43 hy, r_73_44 hy, r_73_45 hy, r_73_46 hy, r_73_47 hy, r_73_48 hy, r_73_49 hy, r_73_50 hy, r_73_51 hy, r_73_53 hy, r_73_58 hy, r_73_59 hy, r_73_60 hy, r_73_61 hy, r_73_62 hy, r_73_63 hy, gN_t (r := 77) (by decide), gN_t (r := 87) (by decide), gA_n (k_87 hy) hc (by omega), n2_nat (show c < 2147483648 by omega), e7, hf]
  rw [gd_t (by decide), gA_t (k_77 hy) (by decide), bR_t (by decide)]
theorem bit_n : ∀ c : Fin 31, bit c.val = n2 (2 ^ c.val) := by decide +kernel
theorem ov_n2 (bd : Int32) (B : Row) : ∀ n, n ≤ 31 → ∃ m, m < 2 ^ n ∧ it (ovF bd B) 0 n = n2 m := by
  intro n
  induction n with
  | zero => intro _; exact ⟨0, by decide, rfl⟩
  | succ n ih =>
    intro hn
    obtain ⟨m, h1, h2⟩ := ih (by omega)
    rw [it_s, h2]
    unfold ovF
    by_cases h : B n ≤ bd
    · rw [if_pos h]
      exact ⟨m, by rw [Nat.pow_succ]; omega, rfl⟩
    · rw [if_neg h]
      have e := bit_n ⟨n, by omega⟩
      dsimp only at e
      rw [e, n2_or]
      exact ⟨m ||| 2 ^ n, Nat.or_lt_two_pow (by rw [Nat.pow_succ]; omega) (by rw [Nat.pow_succ]; omega), rfl⟩
theorem bitsOf_ov {y : Lay} {bd : Int32} {B : Row} {n : Nat} (hn : n ≤ 30) {M : Mem} : f_X12_bitsOf y (it (ovF bd B) 0 n) M = some (bcJ (it (ovF bd B) 0 n)) := by
  obtain ⟨m, h1, h2⟩ := ov_n2 bd B n (by omega)
  have h3 : (2 : Nat) ^ n ≤ 2 ^ 30 := Nat.pow_le_pow_right (by decide) hn
  have h4 : (2 : Nat) ^ 30 = 1073741824 := by decide
  rw [h2]
  exact bitsOf_s (by omega)
def nM1 (n : Nat) (r : Int32) (B : Row) : Row := rowTo n (fun k => jmax 0 (B k - r)) B
def nM (n : Nat) (r : Int32) (B : Row) : Row := rowTo n (fun k => nM1 n r B k - jmax 0 (jmin (nM1 n r B k) (nM1 n r B k / 5))) (nM1 n r B)
def ovM (n : Nat) (bd : Int32) (B : Row) : Int32 := it (ovF bd B) 0 n
theorem or_0 (x : Int32) : x ||| 0 = x := by
  have := Int32.or_zero (a := x)
  exact this
theorem aDay_s {y : Lay} (hy : LY y) {M : Mem} {n : Nat} (hn : M.1 77 0 * M.1 77 1 = n2 n) (hn30 : n ≤ 30) (hg : M.1 77 2 = 0) (hf : M.1 77 7 = 0) : wp (f_X12_aDay y 73 M) (fun o => o.1 = 0 ∧ Eqx [73, 87, 92] M o.2 ∧ o.2.1 87 = nM n (M.1 77 4) (M.1 87) ∧ o.2.1 73 = up (up (up (M.1 73) 41 (ovM n (M.1 77 5) (M.1 87))) 33 (jmin 9999 (M.1 73 33 + bcJ (ovM n (M.1 77 5) (M.1 87))))) 31 (M.1 73 31 + 1)) := by
  have e2 : (2 : Int32).toNatClampNeg = 2 := rfl
  have e4 : (4 : Int32).toNatClampNeg = 4 := rfl
  have e5 : (5 : Int32).toNatClampNeg = 5 := rfl
  unfold f_X12_aDay
  simp only [lT_s, jn_s, c0_s, cp_s, cx_s, cx_t, gK_t (k_73 hy), gN_t (r := 73) (by decide), r_73_0 hy, r_73_1 hy, r_73_2 hy, r_73_5 hy, r_73_6 hy, r_73_7 hy, r_73_8 hy, r_73_9 hy, r_73_10 hy, r_73_11 hy, r_73_12 hy, r_73_13 hy, r_73_14 hy, r_73_28 hy, r_73_29 hy, r_73_30 hy, r_73_38 hy, r_73_39 hy, r_73_40 hy, r_73_42 hy, r_73_43 hy, r_73_44 hy, r_73_45 hy, r_73_46 hy, r_73_47 hy, r_73_48 hy, r_73_49 hy, r_73_50 hy, r_73_51 hy, r_73_53 hy, r_73_58 hy, r_73_59 hy, r_73_60 hy, r_73_61 hy, r_73_62 hy, r_73_63 hy, gN_t (r := 77) (by decide), gN_t (r := 87) (by decide), gN_t (r := 92) (by decide), cellsM hy, isOf_s, e2, e4, e5]
  refine wp_for (i0 := 0) 0 (fun i s => s = M) (by decide) rfl (by omega) rfl (fun f i s hi => absurd hi (Nat.not_lt_zero _)) ?_
  intro f s hI
  have hI := hI.symm
  subst hI
  rw [gA_t (k_77 hy) (by decide), hg]
  refine wp_brt (by decide) ?_
  have q1 : ∀ (M' : Mem), M'.1 77 = M.1 77 → M'.1 77 0 * M'.1 77 1 = n2 n := fun M' h => by rw [h]; exact hn
  -- overdone
  refine wp_for (i0 := 0) n (fun i s => s = sr M 73 (up (M.1 73) 41 (it (ovF (M.1 77 5) (M.1 87)) 0 i))) (by have : FUEL = 100000 := rfl; omega) rfl (by omega) (by rw [wI_sr]; rfl) ?_ ?_
  · intro f i s hi hI hk
    subst hI
    rw [q1 _ (sr_ne (by decide))]
    refine wp_brf (by rw [n2_le (by omega) (by omega)]; omega) ?_
    rw [gA_n (k_87 hy) (by omega) (by omega), gA_t (k_77 hy) (by decide)]
    simp only [n2_nat (show i < 2147483648 by omega), sr_ap, sr_ne (show ¬ 77 = 73 by decide), sr_ne (show ¬ 87 = 73 by decide), n2_s]
    refine wp_br (fun h => hk _ ?_) (fun h => hk _ ?_)
    · rw [wI_sr, sr_ap, sr_sr, it_s, or_0]
      refine congrArg (sr M 73) ?_
      funext k
      unfold up ovF
      by_cases hk : k = 41
      · rw [if_pos hk, if_pos hk, if_pos h, if_pos rfl]
      · rw [if_neg hk, if_neg hk, if_neg hk]
    · rw [wI_sr, sr_ap, sr_sr, it_s]
      refine congrArg (sr M 73) ?_
      funext k
      unfold up ovF bit
      by_cases hk : k = 41
      · rw [if_pos hk, if_pos hk, if_neg h, if_pos rfl]
      · rw [if_neg hk, if_neg hk, if_neg hk]
  intro f s hI
  subst hI
  rw [q1 _ (sr_ne (by decide))]
  refine wp_brt (Int32.le_refl _) ?_
  have e41 : (sr M 73 (up (M.1 73) 41 (it (ovF (M.1 77 5) (M.1 87)) 0 n))).1 73 41 = it (ovF (M.1 77 5) (M.1 87)) 0 n := by rw [sr_ap]; exact if_pos rfl
  rw [e41, bitsOf_ov hn30]
  simp only [cp_s]
  rw [wI_sr, sr_ap, sr_sr]
  have e33 : up (M.1 73) 41 (it (ovF (M.1 77 5) (M.1 87)) 0 n) 33 = M.1 73 33 := if_neg (by decide)
  rw [e33]
  generalize hM1 : sr M 73 (up (up (M.1 73) 41 (it (ovF (M.1 77 5) (M.1 87)) 0 n)) 33 (jmin 9999 (M.1 73 33 + bcJ (it (ovF (M.1 77 5) (M.1 87)) 0 n)))) = M1
  have e1 : ∀ p, ¬ p = 73 → M1.1 p = M.1 p := fun p h1 => by rw [← hM1, sr_ne h1]
  have eb := e1 87 (by decide)
  have ec := e1 77 (by decide)
  -- rinse
  refine wp_for (i0 := 0) n (fun i s => s = sr M1 87 (rowTo i (fun k => jmax 0 (M.1 87 k - M.1 77 4)) (M.1 87))) (by have : FUEL = 100000 := rfl; omega) rfl (by omega) (by rw [rowTo_0, ← eb, sr_self]) ?_ ?_
  · intro f i s hi hI hk
    subst hI
    rw [q1 _ (by rw [sr_ne (by decide), ec])]
    refine wp_brf (by rw [n2_le (by omega) (by omega)]; omega) ?_
    rw [gA_n (k_87 hy) (by omega) (by omega), gA_t (k_77 hy) (by decide), gA_n (k_87 hy) (by omega) (by omega)]
    simp only [n2_nat (show i < 2147483648 by omega), sr_ap, sr_ne (show ¬ 77 = 87 by decide), n2_s, ec]
    refine hk _ ?_
    rw [wI_sr, sr_ap, sr_sr, rowTo_n, rowTo_s i (fun k => jmax 0 (M.1 87 k - M.1 77 4))]
  intro f s hI
  subst hI
  rw [q1 _ (by rw [sr_ne (by decide), ec])]
  refine wp_brt (Int32.le_refl _) ?_
  generalize hM2 : sr M1 87 (rowTo n (fun k => jmax 0 (M.1 87 k - M.1 77 4)) (M.1 87)) = M2
  have f87 : M2.1 87 = nM1 n (M.1 77 4) (M.1 87) := by rw [← hM2, sr_ap]; rfl
  have f77 : M2.1 77 = M.1 77 := by rw [← hM2, sr_ne (by decide), ec]
  -- fading
  refine wp_for (i0 := 0) n (fun i s => s = sr M2 92 (rowTo i (fun k => jmax 0 (jmin (M2.1 87 k) (M2.1 87 k / 5))) (M2.1 92))) (by have : FUEL = 100000 := rfl; omega) rfl (by omega) (by rw [rowTo_0, sr_self]) ?_ ?_
  · intro f i s hi hI hk
    subst hI
    rw [q1 _ (by rw [sr_ne (by decide), f77])]
    refine wp_brf (by rw [n2_le (by omega) (by omega)]; omega) ?_
    rw [fadesOf_s hy (by omega) (by rw [sr_ne (by decide), f77]; exact hf)]
    simp only [lT_s, jn_s, c0_s, cp_s, cx_s, cx_t, gA_n (k_92 hy) (show i < 30 by omega) (by omega), n2_nat (show i < 2147483648 by omega), sr_ne (show ¬ 87 = 92 by decide), n2_s]
    refine hk _ ?_
    rw [wI_sr, sr_ap, sr_sr, rowTo_s i (fun k => jmax 0 (jmin (M2.1 87 k) (M2.1 87 k / 5)))]
  intro f s hI
  subst hI
  rw [q1 _ (by rw [sr_ne (by decide), f77])]
  refine wp_brt (Int32.le_refl _) ?_
  generalize hM3 : sr M2 92 (rowTo n (fun k => jmax 0 (jmin (M2.1 87 k) (M2.1 87 k / 5))) (M2.1 92)) = M3
  have g87 : M3.1 87 = nM1 n (M.1 77 4) (M.1 87) := by rw [← hM3, sr_ne (by decide), f87]
  have g77 : M3.1 77 = M.1 77 := by rw [← hM3, sr_ne (by decide), f77]
  have g92 : ∀ i, i < n → M3.1 92 i = jmax 0 (jmin (M3.1 87 i) (M3.1 87 i / 5)) := fun i hi => by
    rw [g87, ← f87, ← hM3, sr_ap]; exact if_pos hi
  refine wp_for (i0 := 0) n (fun i s => s = sr M3 87 (rowTo i (fun k => M3.1 87 k - jmax 0 (jmin (M3.1 87 k) (M3.1 87 k / 5))) (M3.1 87))) (by have : FUEL = 100000 := rfl; omega) rfl (by omega) (by rw [rowTo_0, sr_self]) ?_ ?_
  · intro f i s hi hI hk
    subst hI
    rw [q1 _ (by rw [sr_ne (by decide), g77])]
    refine wp_brf (by rw [n2_le (by omega) (by omega)]; omega) ?_
    rw [gA_n (k_87 hy) (by omega) (by omega), gA_n (k_92 hy) (by omega) (by omega), gA_n (k_87 hy) (by omega) (by omega)]
    simp only [n2_nat (show i < 2147483648 by omega), sr_ap, sr_ne (show ¬ 92 = 87 by decide), n2_s]
    refine hk _ ?_
    rw [wI_sr, sr_ap, sr_sr, rowTo_n, g92 i hi, rowTo_s i (fun k => M3.1 87 k - jmax 0 (jmin (M3.1 87 k) (M3.1 87 k / 5)))]
  intro f s hI
  subst hI
  rw [q1 _ (by rw [sr_ne (by decide), g77])]
  refine wp_brt (Int32.le_refl _) ?_
  refine wp_some ⟨rfl, ⟨?_, ?_⟩, ?_, ?_⟩
  · rw [← hM3, ← hM2, ← hM1]; rfl
  · intro p hp
    simp only [List.mem_cons, List.not_mem_nil, not_or, or_false] at hp
    rw [wI_sr, sr_ne hp.1, sr_ne hp.2.1, ← hM3, sr_ne hp.2.2, ← hM2, sr_ne hp.2.1, e1 p hp.1]
  · rw [wI_sr, sr_ne (by decide), sr_ap, g87]
    rfl
  · rw [wI_sr, sr_ap, sr_ne (by decide), ← hM3, sr_ne (by decide), ← hM2, sr_ne (by decide), ← hM1, sr_ap]
    rfl

/-! what the two nights have in common -/
def BOK (n : Nat) (B : Row) : Prop := (∀ k, ∃ v, v < 100 ∧ B k = n2 v) ∧ ∀ k, n ≤ k → B k = 0
theorem nu_1 : ∀ v : Fin 100, ∀ w : Fin 21, jmax 0 (n2 v.val - n2 w.val) = n2 (v.val - w.val) := by decide +kernel
theorem nu_2 : ∀ v : Fin 100, n2 v.val - n2 v.val / 5 = n2 (v.val - v.val / 5) ∧ jmax 0 (jmin (n2 v.val) (n2 v.val / 5)) = n2 v.val / 5 := by decide +kernel
theorem rowTo_lt {n : Nat} {g f : Row} {k : Nat} (h : k < n) : rowTo n g f k = g k := if_pos h
theorem rowTo_ge {n : Nat} {g f : Row} {k : Nat} (h : ¬ k < n) : rowTo n g f k = f k := if_neg h
theorem n1_ok {n w : Nat} {B : Row} (h : BOK n B) (hw : w ≤ 20) (hn : n ≤ 30) : nM1 n (n2 w) B = nB1 (n2 w) B ∧ BOK n (nB1 (n2 w) B) := by
  have key : ∀ k, ∃ v, v < 100 ∧ B k = n2 v ∧ jmax 0 (B k - n2 w) = n2 (v - w) := fun k => by
    obtain ⟨v, h1, h2⟩ := h.1 k
    have h3 := nu_1 ⟨v, h1⟩ ⟨w, by omega⟩
    dsimp only at h3
    exact ⟨v, h1, h2, by rw [h2, h3]⟩
  have z : ∀ k, n ≤ k → jmax 0 (B k - n2 w) = 0 := fun k hk => by
    have h3 := nu_1 ⟨0, by omega⟩ ⟨w, by omega⟩
    dsimp only at h3
    rw [h.2 k hk]
    exact h3.trans (congrArg n2 (Nat.zero_sub w))
  refine ⟨?_, ⟨fun k => ?_, fun k hk => ?_⟩⟩
  · funext k
    unfold nM1 nB1
    by_cases h1 : k < n
    · rw [rowTo_lt h1, rowTo_lt (by omega)]
    · rw [rowTo_ge h1]
      by_cases h2 : k < 30
      · rw [rowTo_lt h2, z k (by omega), h.2 k (by omega)]
      · rw [rowTo_ge h2]
  · unfold nB1
    by_cases h2 : k < 30
    · obtain ⟨v, a1, a2, a3⟩ := key k
      rw [rowTo_lt h2, a3]
      exact ⟨v - w, by omega, rfl⟩
    · rw [rowTo_ge h2]
      exact h.1 k
  · unfold nB1
    by_cases h2 : k < 30
    · rw [rowTo_lt h2, z k hk]
    · rw [rowTo_ge h2, h.2 k hk]
theorem nB_ok {n w : Nat} {B : Row} (h : BOK n B) (hw : w ≤ 20) (hn : n ≤ 30) : nM n (n2 w) B = nB (n2 w) B ∧ BOK n (nB (n2 w) B) := by
  obtain ⟨e, h1⟩ := n1_ok h hw hn
  have key : ∀ k, ∃ v, v < 100 ∧ nB1 (n2 w) B k - nB1 (n2 w) B k / 5 = n2 (v - v / 5) ∧ jmax 0 (jmin (nB1 (n2 w) B k) (nB1 (n2 w) B k / 5)) = nB1 (n2 w) B k / 5 := fun k => by
    obtain ⟨v, a1, a2⟩ := h1.1 k
    have h3 := nu_2 ⟨v, a1⟩
    dsimp only at h3
    rw [a2]
    exact ⟨v, a1, h3.1, h3.2⟩
  refine ⟨?_, ⟨fun k => ?_, fun k hk => ?_⟩⟩
  · funext k
    unfold nM nB
    rw [e]
    by_cases h2 : k < n
    · obtain ⟨v, a1, a2, a3⟩ := key k
      rw [rowTo_lt h2, rowTo_lt (by omega), a3]
    · rw [rowTo_ge h2]
      by_cases h3 : k < 30
      · rw [rowTo_lt h3, h1.2 k (by omega)]
        rfl
      · rw [rowTo_ge h3]
  · unfold nB
    by_cases h2 : k < 30
    · obtain ⟨v, a1, a2, a3⟩ := key k
      rw [rowTo_lt h2, a2]
      exact ⟨v - v / 5, by omega, rfl⟩
    · rw [rowTo_ge h2]
      exact h1.1 k
  · unfold nB
    by_cases h2 : k < 30
    · rw [rowTo_lt h2, h1.2 k hk]
      rfl
    · rw [rowTo_ge h2, h1.2 k hk]
theorem ov_eq {n b : Nat} {B : Row} (h : BOK n B) (hb : b < 100) (hn : n ≤ 30) : ovM n (n2 b) B = ovB (n2 b) B := by
  have key : ∀ j, it (ovF (n2 b) B) 0 (n + j) = it (ovF (n2 b) B) 0 n := by
    intro j
    induction j with
    | zero => rfl
    | succ j ih =>
      show ovF (n2 b) B (n + j) (it (ovF (n2 b) B) 0 (n + j)) = _
      rw [ih]
      unfold ovF
      rw [if_pos]
      rw [h.2 (n + j) (by omega)]
      exact (n2_le (i := 0) (j := b) (by decide) (by omega)).mpr (by omega)
  unfold ovM ovB
  rw [← key (30 - n)]
  rw [show n + (30 - n) = 30 by omega]
