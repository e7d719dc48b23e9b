/-! ===== views; the days that come ===== -/
/-- wide, high, rinse, bound -/
abbrev KK : Type := Nat × Nat × Nat × Nat
/-- blue, spots, skills, pegs, resting, knobs, martins, day, overdone -/
abbrev Sk : Type := Row × Row × Row × Int32 × Int32 × Int32 × Int32 × Int32 × Int32
def skV (M : Mem) (s b sp sk : Nat) : Sk := (M.1 b, M.1 sp, M.1 sk, M.1 s 7, M.1 s 8, M.1 s 9, M.1 s 10, M.1 s 11, M.1 s 12)
def moV (M : Mem) : Sk := (M.1 87, M.1 88, M.1 85, M.1 73 34, M.1 73 35, M.1 73 32, M.1 73 33, M.1 73 31, M.1 73 41)
def KOK (K : KK) (w h r bd : Int32) : Prop := GEO K.1 K.2.1 w h ∧ (r = n2 K.2.2.1 ∧ K.2.2.1 ≤ 20) ∧ (bd = n2 K.2.2.2 ∧ K.2.2.2 < 100)
def COA (K : KK) (M : Mem) : Prop := KOK K (M.1 4 0) (M.1 4 1) (M.1 4 2) (M.1 4 3) ∧ PLAIN M
def COM (K : KK) (M : Mem) : Prop := KOK K (M.1 77 0) (M.1 77 1) (M.1 77 4) (M.1 77 5) ∧ M.1 77 2 = 0 ∧ M.1 77 7 = 0
def pDay (K : KK) (S : Sk) : Sk := (nB (n2 K.2.2.1) S.1, S.2.1, S.2.2.1, S.2.2.2.1, S.2.2.2.2.1, S.2.2.2.2.2.1, jmin 9999 (S.2.2.2.2.2.2.1 + bcJ (ovB (n2 K.2.2.2) S.1)), S.2.2.2.2.2.2.2.1 + 1, ovB (n2 K.2.2.2) S.1)
/-- a sky as it can be -/
def SOK (K : KK) (S : Sk) : Prop := BOK (K.1 * K.2.1) S.1 ∧ (∀ k, 6 ≤ k → S.2.1 k = 0) ∧ (∀ k, 6 ≤ k → S.2.2.1 k = 0)
theorem pDay_ok {K : KK} {S : Sk} {w h r bd : Int32} (hK : KOK K w h r bd) (hS : SOK K S) : SOK K (pDay K S) :=
  ⟨(nB_ok hS.1 hK.2.1.2 hK.1.n30).2, hS.2.1, hS.2.2⟩
theorem pDays_ok {K : KK} {S : Sk} {w h r bd : Int32} (hK : KOK K w h r bd) (hS : SOK K S) (d : Nat) : SOK K (it (fun _ => pDay K) S d) := by
  induction d with
  | zero => exact hS
  | succ d ih => exact pDay_ok hK ih
theorem passDay_v37 {y : Lay} (hy : LY y) {M : Mem} {K : KK} (hK : COA K M) : wp (f_X8_passDay y 37 M) (fun o => o.1 = 0 ∧ Eqx [37, 38, 39, 40] M o.2 ∧ skV o.2 37 38 41 42 = pDay K (skV M 37 38 41 42) ∧ o.2.1 39 = va_cpy (M.1 38) (M.1 39) 0 0 30) := by
  refine wp_mono (passDay_37 hy hK.2) (fun o h => ?_)
  obtain ⟨h1, h2, h3, h4, h5⟩ := h
  refine ⟨h1, h2, ?_, h5⟩
  unfold skV pDay
  rw [h3, h4, h2.2 41 (by decide), h2.2 42 (by decide), hK.1.2.1.1]
  unfold dayO_37 up
  rw [hK.1.2.2.1]
  rfl
theorem passDay_v58 {y : Lay} (hy : LY y) {M : Mem} {K : KK} (hK : COA K M) : wp (f_X8_passDay y 58 M) (fun o => o.1 = 0 ∧ Eqx [58, 59, 60, 61] M o.2 ∧ skV o.2 58 59 62 63 = pDay K (skV M 58 59 62 63) ∧ o.2.1 60 = va_cpy (M.1 59) (M.1 60) 0 0 30) := by
  refine wp_mono (passDay_58 hy hK.2) (fun o h => ?_)
  obtain ⟨h1, h2, h3, h4, h5⟩ := h
  refine ⟨h1, h2, ?_, h5⟩
  unfold skV pDay
  rw [h3, h4, h2.2 62 (by decide), h2.2 63 (by decide), hK.1.2.1.1]
  unfold dayO_58 up
  rw [hK.1.2.2.1]
  rfl
theorem COA.frame {K : KK} {M N : Mem} (h : COA K M) (h4 : N.1 4 = M.1 4) (h9 : N.1 9 = M.1 9) : COA K N := by
  unfold COA PLAIN at h ⊢
  rw [h4, h9]
  exact h
theorem COM.frame {K : KK} {M N : Mem} (h : COM K M) (h4 : N.1 77 = M.1 77) : COM K N := by
  unfold COM at h ⊢
  rw [h4]
  exact h
theorem aDay_v {y : Lay} (hy : LY y) {M : Mem} {K : KK} (hK : COM K M) (hS : SOK K (moV M)) : wp (f_X12_aDay y 73 M) (fun o => o.1 = 0 ∧ Eqx [73, 87, 92] M o.2 ∧ moV o.2 = pDay K (moV M) ∧ ∀ k, ¬ k = 31 → ¬ k = 32 → ¬ k = 33 → ¬ k = 41 → o.2.1 73 k = M.1 73 k) := by
  have h30 := hK.1.1.n30
  refine wp_mono (aDay_s hy hK.1.1.n h30 hK.2.1 hK.2.2) (fun o h => ?_)
  obtain ⟨h1, h2, h3, h4⟩ := h
  have hB : BOK (K.1 * K.2.1) (M.1 87) := hS.1
  refine ⟨h1, h2, ?_, fun k q1 _ q2 q3 => ?_⟩
  · unfold moV pDay
    rw [h3, h4, h2.2 88 (by decide), h2.2 85 (by decide), hK.1.2.1.1, hK.1.2.2.1, (nB_ok hB hK.1.2.1.2 h30).1, ov_eq hB hK.1.2.2.2 h30]
    rfl
  · rw [h4]
    unfold up
    rw [if_neg q1, if_neg q2, if_neg q3]
/-! the class looks ahead -/
theorem cpy_eq {f g : Row} {n : Nat} (h : ∀ k, n ≤ k → f k = g k) : va_cpy f g 0 0 n = f := by
  funext k
  show (if 0 ≤ k ∧ k < 0 + n then f (0 + (k - 0)) else g k) = f k
  by_cases q : k < n
  · rw [if_pos ⟨Nat.zero_le _, by omega⟩]
    congr 1
    omega
  · rw [if_neg (by omega), h k (by omega)]
def ZT (M : Mem) : Prop := (∀ k, 30 ≤ k → M.1 59 k = 0) ∧ (∀ k, 6 ≤ k → M.1 62 k = 0) ∧ (∀ k, 6 ≤ k → M.1 63 k = 0)
theorem z030 : ((0 : Int32).toNatClampNeg = 0) ∧ ((30 : Int32).toNatClampNeg = 30) ∧ ((6 : Int32).toNatClampNeg = 6) := ⟨rfl, rfl, rfl⟩
theorem copyFrom_58_37 {y : Lay} (hy : LY y) {M : Mem} (z1 : ∀ k, 30 ≤ k → M.1 38 k = M.1 59 k) (z2 : ∀ k, 6 ≤ k → M.1 41 k = M.1 62 k) (z3 : ∀ k, 6 ≤ k → M.1 42 k = M.1 63 k) : wp (f_X8_copyFrom y 58 37 M) (fun o => o.1 = 0 ∧ Eqx [58, 59, 62, 63] M o.2 ∧ skV o.2 58 59 62 63 = skV M 37 38 41 42 ∧ ∀ k, k < 7 → o.2.1 58 k = M.1 58 k) := by
  unfold f_X8_copyFrom
  simp only [lT_s, jn_s, c0_s, cp_s, cx_s, cx_t, gK_t (k_58 hy), gN_t (r := 58) (by decide), r_58_0 hy, r_58_1 hy, r_58_2 hy, r_58_3 hy, r_58_4 hy, r_58_5 hy, r_58_6 hy, gN_t (r := 59) (by decide), gN_t (r := 62) (by decide), gN_t (r := 63) (by decide), gK_t (k_37 hy), gN_t (r := 37) (by decide), r_37_0 hy, r_37_1 hy, r_37_2 hy, r_37_3 hy, r_37_4 hy, r_37_5 hy, r_37_6 hy, gN_t (r := 38) (by decide), gN_t (r := 41) (by decide), gN_t (r := 42) (by decide), z030.1, z030.2.1, z030.2.2]
  rw [gC_t (k_38 hy) (k_59 hy) (by decide), gC_t (k_41 hy) (k_62 hy) (by decide), gC_t (k_42 hy) (k_63 hy) (by decide)]
  simp only [cpI_sr, wI_sr, sr_1, Nat.reduceEqDiff, if_false, if_true, ↓reduceIte, sr_sr]
  refine wp_some ⟨rfl, ⟨rfl, ?_⟩, ?_, ?_⟩
  · intro p hp
    simp only [List.mem_cons, List.not_mem_nil, not_or, or_false] at hp
    simp only [sr_1, if_neg hp.1, if_neg hp.2.1, if_neg hp.2.2.1, if_neg hp.2.2.2]
  · unfold skV
    simp only [sr_1, Nat.reduceEqDiff, if_false, if_true, ↓reduceIte, up]
    rw [cpy_eq z1, cpy_eq z2, cpy_eq z3]
  · intro k hk
    have q7 : ¬ k = 7 := by omega
    have q8 : ¬ k = 8 := by omega
    have q9 : ¬ k = 9 := by omega
    have q10 : ¬ k = 10 := by omega
    have q11 : ¬ k = 11 := by omega
    have q12 : ¬ k = 12 := by omega
    simp only [sr_1, Nat.reduceEqDiff, if_false, if_true, ↓reduceIte, up, if_neg q7, if_neg q8, if_neg q9, if_neg q10, if_neg q11, if_neg q12]
theorem copyFrom_37_21 {y : Lay} (hy : LY y) {M : Mem} (z1 : ∀ k, 30 ≤ k → M.1 22 k = M.1 38 k) (z2 : ∀ k, 6 ≤ k → M.1 25 k = M.1 41 k) (z3 : ∀ k, 6 ≤ k → M.1 26 k = M.1 42 k) : wp (f_X8_copyFrom y 37 21 M) (fun o => o.1 = 0 ∧ Eqx [37, 38, 41, 42] M o.2 ∧ skV o.2 37 38 41 42 = skV M 21 22 25 26 ∧ ∀ k, k < 7 → o.2.1 37 k = M.1 37 k) := by
  unfold f_X8_copyFrom
  simp only [lT_s, jn_s, c0_s, cp_s, cx_s, cx_t, gK_t (k_37 hy), gN_t (r := 37) (by decide), r_37_0 hy, r_37_1 hy, r_37_2 hy, r_37_3 hy, r_37_4 hy, r_37_5 hy, r_37_6 hy, gN_t (r := 38) (by decide), gN_t (r := 41) (by decide), gN_t (r := 42) (by decide), gK_t (k_21 hy), gN_t (r := 21) (by decide), r_21_0 hy, r_21_1 hy, r_21_2 hy, r_21_3 hy, r_21_4 hy, r_21_5 hy, r_21_6 hy, gN_t (r := 22) (by decide), gN_t (r := 25) (by decide), gN_t (r := 26) (by decide), z030.1, z030.2.1, z030.2.2]
  rw [gC_t (k_22 hy) (k_38 hy) (by decide), gC_t (k_25 hy) (k_41 hy) (by decide), gC_t (k_26 hy) (k_42 hy) (by decide)]
  simp only [cpI_sr, wI_sr, sr_1, Nat.reduceEqDiff, if_false, if_true, ↓reduceIte, sr_sr]
  refine wp_some ⟨rfl, ⟨rfl, ?_⟩, ?_, ?_⟩
  · intro p hp
    simp only [List.mem_cons, List.not_mem_nil, not_or, or_false] at hp
    simp only [sr_1, if_neg hp.1, if_neg hp.2.1, if_neg hp.2.2.1, if_neg hp.2.2.2]
  · unfold skV
    simp only [sr_1, Nat.reduceEqDiff, if_false, if_true, ↓reduceIte, up]
    rw [cpy_eq z1, cpy_eq z2, cpy_eq z3]
  · intro k hk
    have q7 : ¬ k = 7 := by omega
    have q8 : ¬ k = 8 := by omega
    have q9 : ¬ k = 9 := by omega
    have q10 : ¬ k = 10 := by omega
    have q11 : ¬ k = 11 := by omega
    have q12 : ¬ k = 12 := by omega
    simp only [sr_1, Nat.reduceEqDiff, if_false, if_true, ↓reduceIte, up, if_neg q7, if_neg q8, if_neg q9, if_neg q10, if_neg q11, if_neg q12]
theorem copyFrom_51_37 {y : Lay} (hy : LY y) {M : Mem} (z1 : ∀ k, 30 ≤ k → M.1 38 k = M.1 52 k) (z2 : ∀ k, 6 ≤ k → M.1 41 k = M.1 55 k) (z3 : ∀ k, 6 ≤ k → M.1 42 k = M.1 56 k) : wp (f_X8_copyFrom y 51 37 M) (fun o => o.1 = 0 ∧ Eqx [51, 52, 55, 56] M o.2 ∧ skV o.2 51 52 55 56 = skV M 37 38 41 42 ∧ ∀ k, k < 7 → o.2.1 51 k = M.1 51 k) := by
  unfold f_X8_copyFrom
  simp only [lT_s, jn_s, c0_s, cp_s, cx_s, cx_t, gK_t (k_51 hy), gN_t (r := 51) (by decide), r_51_0 hy, r_51_1 hy, r_51_2 hy, r_51_3 hy, r_51_4 hy, r_51_5 hy, r_51_6 hy, gN_t (r := 52) (by decide), gN_t (r := 55) (by decide), gN_t (r := 56) (by decide), gK_t (k_37 hy), gN_t (r := 37) (by decide), r_37_0 hy, r_37_1 hy, r_37_2 hy, r_37_3 hy, r_37_4 hy, r_37_5 hy, r_37_6 hy, gN_t (r := 38) (by decide), gN_t (r := 41) (by decide), gN_t (r := 42) (by decide), z030.1, z030.2.1, z030.2.2]
  rw [gC_t (k_38 hy) (k_52 hy) (by decide), gC_t (k_41 hy) (k_55 hy) (by decide), gC_t (k_42 hy) (k_56 hy) (by decide)]
  simp only [cpI_sr, wI_sr, sr_1, Nat.reduceEqDiff, if_false, if_true, ↓reduceIte, sr_sr]
  refine wp_some ⟨rfl, ⟨rfl, ?_⟩, ?_, ?_⟩
  · intro p hp
    simp only [List.mem_cons, List.not_mem_nil, not_or, or_false] at hp
    simp only [sr_1, if_neg hp.1, if_neg hp.2.1, if_neg hp.2.2.1, if_neg hp.2.2.2]
  · unfold skV
    simp only [sr_1, Nat.reduceEqDiff, if_false, if_true, ↓reduceIte, up]
    rw [cpy_eq z1, cpy_eq z2, cpy_eq z3]
  · intro k hk
    have q7 : ¬ k = 7 := by omega
    have q8 : ¬ k = 8 := by omega
    have q9 : ¬ k = 9 := by omega
    have q10 : ¬ k = 10 := by omega
    have q11 : ¬ k = 11 := by omega
    have q12 : ¬ k = 12 := by omega
    simp only [sr_1, Nat.reduceEqDiff, if_false, if_true, ↓reduceIte, up, if_neg q7, if_neg q8, if_neg q9, if_neg q10, if_neg q11, if_neg q12]
theorem copyFrom_37_51 {y : Lay} (hy : LY y) {M : Mem} (z1 : ∀ k, 30 ≤ k → M.1 52 k = M.1 38 k) (z2 : ∀ k, 6 ≤ k → M.1 55 k = M.1 41 k) (z3 : ∀ k, 6 ≤ k → M.1 56 k = M.1 42 k) : wp (f_X8_copyFrom y 37 51 M) (fun o => o.1 = 0 ∧ Eqx [37, 38, 41, 42] M o.2 ∧ skV o.2 37 38 41 42 = skV M 51 52 55 56 ∧ ∀ k, k < 7 → o.2.1 37 k = M.1 37 k) := by
  unfold f_X8_copyFrom
  simp only [lT_s, jn_s, c0_s, cp_s, cx_s, cx_t, gK_t (k_37 hy), gN_t (r := 37) (by decide), r_37_0 hy, r_37_1 hy, r_37_2 hy, r_37_3 hy, r_37_4 hy, r_37_5 hy, r_37_6 hy, gN_t (r := 38) (by decide), gN_t (r := 41) (by decide), gN_t (r := 42) (by decide), gK_t (k_51 hy), gN_t (r := 51) (by decide), r_51_0 hy, r_51_1 hy, r_51_2 hy, r_51_3 hy, r_51_4 hy, r_51_5 hy, r_51_6 hy, gN_t (r := 52) (by decide), gN_t (r := 55) (by decide), gN_t (r := 56) (by decide), z030.1, z030.2.1, z030.2.2]
  rw [gC_t (k_52 hy) (k_38 hy) (by decide), gC_t (k_55 hy) (k_41 hy) (by decide), gC_t (k_56 hy) (k_42 hy) (by decide)]
  simp only [cpI_sr, wI_sr, sr_1, Nat.reduceEqDiff, if_false, if_true, ↓reduceIte, sr_sr]
  refine wp_some ⟨rfl, ⟨rfl, ?_⟩, ?_, ?_⟩
  · intro p hp
    simp only [List.mem_cons, List.not_mem_nil, not_or, or_false] at hp
    simp only [sr_1, if_neg hp.1, if_neg hp.2.1, if_neg hp.2.2.1, if_neg hp.2.2.2]
  · unfold skV
    simp only [sr_1, Nat.reduceEqDiff, if_false, if_true, ↓reduceIte, up]
    rw [cpy_eq z1, cpy_eq z2, cpy_eq z3]
  · intro k hk
    have q7 : ¬ k = 7 := by omega
    have q8 : ¬ k = 8 := by omega
    have q9 : ¬ k = 9 := by omega
    have q10 : ¬ k = 10 := by omega
    have q11 : ¬ k = 11 := by omega
    have q12 : ¬ k = 12 := by omega
    simp only [sr_1, Nat.reduceEqDiff, if_false, if_true, ↓reduceIte, up, if_neg q7, if_neg q8, if_neg q9, if_neg q10, if_neg q11, if_neg q12]
theorem SOK.z {K : KK} {S : Sk} {w h r bd : Int32} (hK : KOK K w h r bd) (hS : SOK K S) : ∀ k, 30 ≤ k → S.1 k = 0 := fun k hk => hS.1.2 k (Nat.le_trans hK.1.n30 hk)
theorem lookAhead_v {y : Lay} (hy : LY y) {M : Mem} {K : KK} (hK : COA K M) (hS : SOK K (skV M 37 38 41 42)) (hZ : ZT M) {d : Nat} (hd : d ≤ 40) : wp (f_X11_lookAhead y 1 (n2 d) M) (fun o => o.1 = 0 ∧ Eqx [58, 59, 60, 61, 62, 63] M o.2 ∧ skV o.2 58 59 62 63 = it (fun _ => pDay K) (skV M 37 38 41 42) d) := by
  unfold f_X11_lookAhead
  simp only [lT_s, jn_s, c0_s, cp_s, cx_s, cx_t, gK_t (k_1 hy), gN_t (r := 1) (by decide), r_1_0 hy, r_1_1 hy, r_1_2 hy, r_1_3 hy, r_1_4 hy, r_1_5 hy, r_1_6 hy, r_1_7 hy, r_1_8 hy, r_1_9 hy, r_1_10 hy, gK_t (k_30 hy), gN_t (r := 30) (by decide), r_30_0 hy, r_30_1 hy, r_30_2 hy, r_30_3 hy, r_30_4 hy, r_30_5 hy, gK_t (k_37 hy), gN_t (r := 37) (by decide), r_37_0 hy, r_37_1 hy, r_37_2 hy, r_37_3 hy, r_37_4 hy, r_37_5 hy, r_37_6 hy, gK_t (k_58 hy), gN_t (r := 58) (by decide), r_58_0 hy, r_58_1 hy, r_58_2 hy, r_58_3 hy, r_58_4 hy, r_58_5 hy, r_58_6 hy]
  refine wp_c0 _ (copyFrom_58_37 hy (fun k hk => (hS.z hK.1 k hk).trans (hZ.1 k hk).symm) (fun k hk => (hS.2.1 k hk).trans (hZ.2.1 k hk).symm) (fun k hk => (hS.2.2 k hk).trans (hZ.2.2 k hk).symm)) (fun r M1 h => ?_)
  obtain ⟨-, h2, h3, -⟩ := h
  refine wp_for (i0 := 0) d (fun i s => Eqx [58, 59, 60, 61, 62, 63] M s ∧ skV s 58 59 62 63 = it (fun _ => pDay K) (skV M 37 38 41 42) i) (by have : FUEL = 100000 := rfl; omega) rfl (by omega) ⟨h2.mono (by decide), h3⟩ ?_ ?_
  · intro f i s hi hI hk
    refine wp_brf (by rw [n2_le (by omega) (by omega)]; omega) ?_
    refine wp_c0 _ (passDay_v58 hy (K := K) (hK.frame (hI.1.2 4 (by decide)) (hI.1.2 9 (by decide)))) (fun r M2 h => ?_)
    obtain ⟨-, q2, q3, -⟩ := h
    rw [n2_s]
    exact hk _ ⟨hI.1.trans (q2.mono (by decide)), by rw [q3, hI.2, it_s]⟩
  · intro f s hI
    exact wp_brt (Int32.le_refl _) (wp_some ⟨rfl, hI.1, hI.2⟩)
/-! the model goes on -/
theorem goOn_v {y : Lay} (hy : LY y) {M : Mem} {K : KK} (hK : COM K M) (hS : SOK K (moV M)) {d : Nat} (hd : d ≤ 1000) : wp (f_X12_goOn y 73 (n2 d) M) (fun o => o.1 = 0 ∧ Eqx [73, 87, 92] M o.2 ∧ moV o.2 = it (fun _ => pDay K) (moV M) d ∧ ∀ k, ¬ k = 31 → ¬ k = 32 → ¬ k = 33 → ¬ k = 41 → o.2.1 73 k = M.1 73 k) := by
  unfold f_X12_goOn
  simp only [lT_s, jn_s, c0_s, cp_s, cx_s, cx_t, gK_t (k_73 hy), gN_t (r := 73) (by decide), r_73_0 hy, r_73_1 hy, r_73_2 hy, r_73_5 hy, r_73_6 hy, r_73_7 hy, r_73_8 hy, r_73_9 hy, r_73_10 hy, r_73_11 hy, r_73_12 hy, r_73_13 hy, r_73_14 hy, r_73_28 hy, r_73_29 hy, r_73_30 hy, r_73_38 hy, r_73_39 hy, r_73_40 hy, r_73_42 hy, r_73_43 hy, r_73_44 hy, r_73_45 hy, r_73_46 hy, r_73_47 hy, r_73_48 hy, r_73_49 hy, r_73_50 hy, r_73_51 hy, r_73_53 hy, r_73_58 hy, r_73_59 hy, r_73_60 hy, r_73_61 hy, r_73_62 hy, r_73_63 hy]
  refine wp_for (i0 := 0) d (fun i s => Eqx [73, 87, 92] M s ∧ moV s = it (fun _ => pDay K) (moV M) i ∧ ∀ k, ¬ k = 31 → ¬ k = 32 → ¬ k = 33 → ¬ k = 41 → s.1 73 k = M.1 73 k) (by have : FUEL = 100000 := rfl; omega) rfl (by omega) ⟨Eqx.refl _ _, rfl, fun _ _ _ _ _ => rfl⟩ ?_ ?_
  · intro f i s hi hI hk
    refine wp_brf (by rw [n2_le (by omega) (by omega)]; omega) ?_
    refine wp_c0 _ (aDay_v hy (K := K) (hK.frame (hI.1.2 77 (by decide))) (by rw [hI.2.1]; exact pDays_ok hK.1 hS i)) (fun r M2 h => ?_)
    obtain ⟨-, q2, q3, q4⟩ := h
    rw [n2_s]
    exact hk _ ⟨hI.1.trans q2, by rw [q3, hI.2.1, it_s], fun k a b c d => (q4 k a b c d).trans (hI.2.2 k a b c d)⟩
  · intro f s hI
    exact wp_brt (Int32.le_refl _) (wp_some ⟨rfl, hI.1, hI.2.1, hI.2.2⟩)
/-! pack, unpack -/
/-- a packed row -/
def PKD (R : Row) (f : Nat) (S : Sk) : Prop := (R f = S.2.2.2.2.2.2.2.1 ∧ R (f + 1) = S.2.2.2.2.2.1 ∧ R (f + 2) = S.2.2.2.2.2.2.1 ∧ R (f + 3) = S.2.2.2.1 ∧ R (f + 4) = S.2.2.2.2.1) ∧ (∀ k, k < 30 → R (f + 5 + k) = S.1 k) ∧ ∀ k, k < 6 → R (f + 35 + k) = S.2.1 k
theorem up_ne {f : Row} {k : Nat} {v : Int32} {j : Nat} (h : ¬ j = k) : up f k v j = f j := if_neg h
theorem up_eq {f : Row} {k : Nat} {v : Int32} : up f k v k = v := if_pos rfl
theorem n2_c {c : Int32} {m : Nat} (i : Nat) (hc : c = n2 m) : n2 i + c = n2 (i + m) := by rw [hc, n2_add]
theorem pack_93 {y : Lay} (hy : LY y) {M : Mem} {f : Nat} (hf : f + 41 ≤ 41) : wp (f_X12_pack y 73 93 (n2 f) M) (fun o => o.1 = 0 ∧ Eqx [93] M o.2 ∧ PKD (o.2.1 93) f (moV M) ∧ ∀ k, (k < f ∨ f + 41 ≤ k) → o.2.1 93 k = M.1 93 k) := by
  unfold f_X12_pack
  simp only [lT_s, jn_s, c0_s, cp_s, cx_s, cx_t, gK_t (k_73 hy), gN_t (r := 73) (by decide), r_73_0 hy, r_73_1 hy, r_73_2 hy, r_73_5 hy, r_73_6 hy, r_73_7 hy, r_73_8 hy, r_73_9 hy, r_73_10 hy, r_73_11 hy, r_73_12 hy, r_73_13 hy, r_73_14 hy, r_73_28 hy, r_73_29 hy, r_73_30 hy, r_73_38 hy, r_73_39 hy, r_73_40 hy, r_73_42 hy, r_73_43 hy, r_73_44 hy, r_73_45 hy, r_73_46 hy, r_73_47 hy, r_73_48 hy, r_73_49 hy, r_73_50 hy, r_73_51 hy, r_73_53 hy, r_73_58 hy, r_73_59 hy, r_73_60 hy, r_73_61 hy, r_73_62 hy, r_73_63 hy, gN_t (r := 93) (by decide), gN_t (r := 87) (by decide), gN_t (r := 88) (by decide), n2_c f (show (1 : Int32) = n2 1 from rfl), n2_c f (show (2 : Int32) = n2 2 from rfl), n2_c f (show (3 : Int32) = n2 3 from rfl), n2_c f (show (4 : Int32) = n2 4 from rfl), n2_c f (show (5 : Int32) = n2 5 from rfl)]
  simp only [n2_c (f + 5) (show (30 : Int32) = n2 30 from rfl)]
  rw [gA_n (k_93 hy) (by omega) (by omega), gA_n (k_93 hy) (by omega) (by omega), gA_n (k_93 hy) (by omega) (by omega), gA_n (k_93 hy) (by omega) (by omega), gA_n (k_93 hy) (by omega) (by omega)]
  rw [n2_nat (show f < 2147483648 by omega), n2_nat (show f + 1 < 2147483648 by omega), n2_nat (show f + 2 < 2147483648 by omega), n2_nat (show f + 3 < 2147483648 by omega), n2_nat (show f + 4 < 2147483648 by omega)]
  simp only [wI_sr, sr_1, Nat.reduceEqDiff, if_false, if_true, ↓reduceIte, sr_sr]
  generalize hR : up (up (up (up (up (M.1 93) f (M.1 73 31)) (f + 1) (M.1 73 32)) (f + 2) (M.1 73 33)) (f + 3) (M.1 73 34)) (f + 4) (M.1 73 35) = R
  have hRk : ∀ k, (k < f ∨ f + 5 ≤ k) → R k = M.1 93 k := fun k hk => by rw [← hR, up_ne (by omega), up_ne (by omega), up_ne (by omega), up_ne (by omega), up_ne (by omega)]
  have hR0 : R f = M.1 73 31 ∧ R (f + 1) = M.1 73 32 ∧ R (f + 2) = M.1 73 33 ∧ R (f + 3) = M.1 73 34 ∧ R (f + 4) = M.1 73 35 := by
    rw [← hR]
    refine ⟨?_, ?_, ?_, ?_, ?_⟩
    · rw [up_ne (by omega), up_ne (by omega), up_ne (by omega), up_ne (by omega), up_eq]
    · rw [up_ne (by omega), up_ne (by omega), up_ne (by omega), up_eq]
    · rw [up_ne (by omega), up_ne (by omega), up_eq]
    · rw [up_ne (by omega), up_eq]
    · rw [up_eq]
  refine wp_for (i0 := 0) 30 (fun i s => Eqx [93] M s ∧ (∀ k, k < i → s.1 93 (f + 5 + k) = M.1 87 k) ∧ ∀ k, (k < f + 5 ∨ f + 5 + i ≤ k) → s.1 93 k = R k) (by decide) rfl (by omega) ⟨(Eqx.refl _ _).sr (by decide), fun k hk => absurd hk (Nat.not_lt_zero _), fun k hk => by rw [sr_ap]⟩ ?_ ?_
  · intro g i s hi hI hk
    refine wp_brf (nle_l (m := 30) rfl hi (by omega)) ?_
    rw [n2_add, gA_n (k_87 hy) hi (by omega), gA_n (k_93 hy) (by omega) (by omega), n2_nat (by omega), n2_nat (by omega), n2_s, hI.1.2 87 (by decide)]
    refine hk _ ⟨hI.1.sr (by decide), fun k hk => ?_, fun k hk => ?_⟩
    · rw [sr_ap]
      by_cases e : k = i
      · subst e; rw [up_eq]
      · rw [up_ne (by omega)]; exact hI.2.1 k (by omega)
    · rw [sr_ap, up_ne (by omega)]
      exact hI.2.2 k (by omega)
  intro g s hI
  refine wp_brt (le_l (m := 30) rfl (by omega) (by omega)) ?_
  refine wp_for (i0 := 0) 6 (fun i z => Eqx [93] M z ∧ (∀ k, k < i → z.1 93 (f + 35 + k) = M.1 88 k) ∧ ∀ k, (k < f + 35 ∨ f + 35 + i ≤ k) → z.1 93 k = s.1 93 k) (by decide) rfl (by omega) ⟨hI.1, fun k hk => absurd hk (Nat.not_lt_zero _), fun k hk => rfl⟩ ?_ ?_
  · intro g i z hi hJ hk
    refine wp_brf (nle_l (m := 6) rfl hi (by omega)) ?_
    rw [n2_add, gA_n (k_88 hy) hi (by omega), gA_n (k_93 hy) (by omega) (by omega), n2_nat (by omega), n2_nat (by omega), n2_s, hJ.1.2 88 (by decide)]
    refine hk _ ⟨hJ.1.sr (by decide), fun k hk => ?_, fun k hk => ?_⟩
    · rw [sr_ap]
      by_cases e : k = i
      · subst e; rw [show f + 5 + 30 + k = f + 35 + k by omega, up_eq]
      · rw [up_ne (by omega)]; exact hJ.2.1 k (by omega)
    · rw [sr_ap, up_ne (by omega)]
      exact hJ.2.2 k (by omega)
  intro g z hJ
  refine wp_brt (le_l (m := 6) rfl (by omega) (by omega)) ?_
  refine wp_some ⟨rfl, hJ.1, ⟨⟨?_, ?_, ?_, ?_, ?_⟩, fun k hk => ?_, fun k hk => ?_⟩, fun k hk => ?_⟩
  · rw [hJ.2.2 _ (by omega), hI.2.2 _ (by omega)]; exact hR0.1
  · rw [hJ.2.2 _ (by omega), hI.2.2 _ (by omega)]; exact hR0.2.1
  · rw [hJ.2.2 _ (by omega), hI.2.2 _ (by omega)]; exact hR0.2.2.1
  · rw [hJ.2.2 _ (by omega), hI.2.2 _ (by omega)]; exact hR0.2.2.2.1
  · rw [hJ.2.2 _ (by omega), hI.2.2 _ (by omega)]; exact hR0.2.2.2.2
  · rw [hJ.2.2 _ (by omega)]; exact hI.2.1 k hk
  · exact hJ.2.1 k hk
  · rw [hJ.2.2 k (by omega), hI.2.2 k (by omega), hRk k (by omega)]
theorem unpack_93 {y : Lay} (hy : LY y) {M : Mem} {f : Nat} (hf : f + 41 ≤ 41) {S : Sk} (hP : PKD (M.1 93) f S) (z1 : ∀ k, 30 ≤ k → M.1 87 k = S.1 k) (z2 : ∀ k, 6 ≤ k → M.1 88 k = S.2.1 k) : wp (f_X12_unpack y 73 93 (n2 f) M) (fun o => o.1 = 0 ∧ Eqx [73, 87, 88] M o.2 ∧ (o.2.1 87 = S.1 ∧ o.2.1 88 = S.2.1 ∧ o.2.1 73 34 = S.2.2.2.1 ∧ o.2.1 73 35 = S.2.2.2.2.1 ∧ o.2.1 73 32 = S.2.2.2.2.2.1 ∧ o.2.1 73 33 = S.2.2.2.2.2.2.1 ∧ o.2.1 73 31 = S.2.2.2.2.2.2.2.1) ∧ ∀ k, ¬ (31 ≤ k ∧ k ≤ 35) → o.2.1 73 k = M.1 73 k) := by
  obtain ⟨⟨p0, p1, p2, p3, p4⟩, p5, p6⟩ := hP
  unfold f_X12_unpack
  simp only [lT_s, jn_s, c0_s, cp_s, cx_s, cx_t, gK_t (k_73 hy), gN_t (r := 73) (by decide), r_73_0 hy, r_73_1 hy, r_73_2 hy, r_73_5 hy, r_73_6 hy, r_73_7 hy, r_73_8 hy, r_73_9 hy, r_73_10 hy, r_73_11 hy, r_73_12 hy, r_73_13 hy, r_73_14 hy, r_73_28 hy, r_73_29 hy, r_73_30 hy, r_73_38 hy, r_73_39 hy, r_73_40 hy, r_73_42 hy, r_73_43 hy, r_73_44 hy, r_73_45 hy, r_73_46 hy, r_73_47 hy, r_73_48 hy, r_73_49 hy, r_73_50 hy, r_73_51 hy, r_73_53 hy, r_73_58 hy, r_73_59 hy, r_73_60 hy, r_73_61 hy, r_73_62 hy, r_73_63 hy, gN_t (r := 93) (by decide), gN_t (r := 87) (by decide), gN_t (r := 88) (by decide), n2_c f (show (1 : Int32) = n2 1 from rfl), n2_c f (show (2 : Int32) = n2 2 from rfl), n2_c f (show (3 : Int32) = n2 3 from rfl), n2_c f (show (4 : Int32) = n2 4 from rfl), n2_c f (show (5 : Int32) = n2 5 from rfl)]
  simp only [n2_c (f + 5) (show (30 : Int32) = n2 30 from rfl)]
  rw [gA_n (k_93 hy) (by omega) (by omega), gA_n (k_93 hy) (by omega) (by omega), gA_n (k_93 hy) (by omega) (by omega), gA_n (k_93 hy) (by omega) (by omega), gA_n (k_93 hy) (by omega) (by omega)]
  rw [n2_nat (show f < 2147483648 by omega), n2_nat (show f + 1 < 2147483648 by omega), n2_nat (show f + 2 < 2147483648 by omega), n2_nat (show f + 3 < 2147483648 by omega), n2_nat (show f + 4 < 2147483648 by omega)]
  simp only [wI_sr, sr_1, Nat.reduceEqDiff, if_false, if_true, ↓reduceIte, sr_sr, p0, p1, p2, p3, p4]
  generalize hO : up (up (up (up (up (M.1 73) 31 S.2.2.2.2.2.2.2.1) 32 S.2.2.2.2.2.1) 33 S.2.2.2.2.2.2.1) 34 S.2.2.2.1) 35 S.2.2.2.2.1 = O
  refine wp_for (i0 := 0) 30 (fun i s => s = sr (sr M 73 O) 87 (rowTo i S.1 (M.1 87))) (by decide) rfl (by omega) (by rw [rowTo_0]; refine (sr_self _ 87).symm.trans ?_; rw [sr_ne (by decide)]) ?_ ?_
  · intro g i s hi hI hk
    subst hI
    refine wp_brf (nle_l (m := 30) rfl hi (by omega)) ?_
    rw [n2_add, gA_n (k_93 hy) (by omega) (by omega), gA_n (k_87 hy) hi (by omega), n2_nat (by omega), n2_nat (by omega), n2_s]
    refine hk _ ?_
    rw [sr_ap, sr_sr, sr_ne (by decide), sr_ne (by decide), p5 i hi, rowTo_s]
  intro g s hI
  subst hI
  refine wp_brt (le_l (m := 30) rfl (by omega) (by omega)) ?_
  refine wp_for (i0 := 0) 6 (fun i s => s = sr (sr (sr M 73 O) 87 (rowTo 30 S.1 (M.1 87))) 88 (rowTo i S.2.1 (M.1 88))) (by decide) rfl (by omega) (by rw [rowTo_0]; refine (sr_self _ 88).symm.trans ?_; rw [sr_ne (by decide), sr_ne (by decide)]) ?_ ?_
  · intro g i s hi hI hk
    subst hI
    refine wp_brf (nle_l (m := 6) rfl hi (by omega)) ?_
    rw [n2_add, gA_n (k_93 hy) (by omega) (by omega), gA_n (k_88 hy) hi (by omega), n2_nat (by omega), n2_nat (by omega), n2_s]
    refine hk _ ?_
    rw [sr_ap, sr_sr, sr_ne (by decide), sr_ne (by decide), sr_ne (by decide), show f + 5 + 30 + i = f + 35 + i by omega, p6 i hi, rowTo_s]
  intro g s hI
  subst hI
  refine wp_brt (le_l (m := 6) rfl (by omega) (by omega)) ?_
  have e1 : rowTo 30 S.1 (M.1 87) = S.1 := by
    funext k
    by_cases q : k < 30
    · exact rowTo_lt q
    · rw [rowTo_ge q]; exact z1 k (by omega)
  have e2 : rowTo 6 S.2.1 (M.1 88) = S.2.1 := by
    funext k
    by_cases q : k < 6
    · exact rowTo_lt q
    · rw [rowTo_ge q]; exact z2 k (by omega)
  rw [e1, e2]
  refine wp_some ⟨rfl, ⟨rfl, ?_⟩, ⟨?_, ?_, ?_, ?_, ?_, ?_, ?_⟩, ?_⟩
  · intro p hp
    simp only [List.mem_cons, List.not_mem_nil, not_or, or_false] at hp
    simp only [sr_1, if_neg hp.1, if_neg hp.2.1, if_neg hp.2.2]
  · rfl
  · rfl
  · rw [sr_ne (by decide), sr_ne (by decide), sr_ap, ← hO]; rfl
  · rw [sr_ne (by decide), sr_ne (by decide), sr_ap, ← hO]; rfl
  · rw [sr_ne (by decide), sr_ne (by decide), sr_ap, ← hO]; rfl
  · rw [sr_ne (by decide), sr_ne (by decide), sr_ap, ← hO]; rfl
  · rw [sr_ne (by decide), sr_ne (by decide), sr_ap, ← hO]; rfl
  · intro k hk
    rw [sr_ne (by decide), sr_ne (by decide), sr_ap, ← hO, up_ne (by omega), up_ne (by omega), up_ne (by omega), up_ne (by omega), up_ne (by omega)]
theorem pack_100 {y : Lay} (hy : LY y) {M : Mem} {f : Nat} (hf : f + 41 ≤ 41) : wp (f_X12_pack y 73 100 (n2 f) M) (fun o => o.1 = 0 ∧ Eqx [100] M o.2 ∧ PKD (o.2.1 100) f (moV M) ∧ ∀ k, (k < f ∨ f + 41 ≤ k) → o.2.1 100 k = M.1 100 k) := by
  unfold f_X12_pack
  simp only [lT_s, jn_s, c0_s, cp_s, cx_s, cx_t, gK_t (k_73 hy), gN_t (r := 73) (by decide), r_73_0 hy, r_73_1 hy, r_73_2 hy, r_73_5 hy, r_73_6 hy, r_73_7 hy, r_73_8 hy, r_73_9 hy, r_73_10 hy, r_73_11 hy, r_73_12 hy, r_73_13 hy, r_73_14 hy, r_73_28 hy, r_73_29 hy, r_73_30 hy, r_73_38 hy, r_73_39 hy, r_73_40 hy, r_73_42 hy, r_73_43 hy, r_73_44 hy, r_73_45 hy, r_73_46 hy, r_73_47 hy, r_73_48 hy, r_73_49 hy, r_73_50 hy, r_73_51 hy, r_73_53 hy, r_73_58 hy, r_73_59 hy, r_73_60 hy, r_73_61 hy, r_73_62 hy, r_73_63 hy, gN_t (r := 100) (by decide), gN_t (r := 87) (by decide), gN_t (r := 88) (by decide), n2_c f (show (1 : Int32) = n2 1 from rfl), n2_c f (show (2 : Int32) = n2 2 from rfl), n2_c f (show (3 : Int32) = n2 3 from rfl), n2_c f (show (4 : Int32) = n2 4 from rfl), n2_c f (show (5 : Int32) = n2 5 from rfl)]
  simp only [n2_c (f + 5) (show (30 : Int32) = n2 30 from rfl)]
  rw [gA_n (k_100 hy) (by omega) (by omega), gA_n (k_100 hy) (by omega) (by omega), gA_n (k_100 hy) (by omega) (by omega), gA_n (k_100 hy) (by omega) (by omega), gA_n (k_100 hy) (by omega) (by omega)]
  rw [n2_nat (show f < 2147483648 by omega), n2_nat (show f + 1 < 2147483648 by omega), n2_nat (show f + 2 < 2147483648 by omega), n2_nat (show f + 3 < 2147483648 by omega), n2_nat (show f + 4 < 2147483648 by omega)]
  simp only [wI_sr, sr_1, Nat.reduceEqDiff, if_false, if_true, ↓reduceIte, sr_sr]
  generalize hR : up (up (up (up (up (M.1 100) f (M.1 73 31)) (f + 1) (M.1 73 32)) (f + 2) (M.1 73 33)) (f + 3) (M.1 73 34)) (f + 4) (M.1 73 35) = R
  have hRk : ∀ k, (k < f ∨ f + 5 ≤ k) → R k = M.1 100 k := fun k hk => by rw [← hR, up_ne (by omega), up_ne (by omega), up_ne (by omega), up_ne (by omega), up_ne (by omega)]
  have hR0 : R f = M.1 73 31 ∧ R (f + 1) = M.1 73 32 ∧ R (f + 2) = M.1 73 33 ∧ R (f + 3) = M.1 73 34 ∧ R (f + 4) = M.1 73 35 := by
    rw [← hR]
    refine ⟨?_, ?_, ?_, ?_, ?_⟩
    · rw [up_ne (by omega), up_ne (by omega), up_ne (by omega), up_ne (by omega), up_eq]
    · rw [up_ne (by omega), up_ne (by omega), up_ne (by omega), up_eq]
    · rw [up_ne (by omega), up_ne (by omega), up_eq]
    · rw [up_ne (by omega), up_eq]
    · rw [up_eq]
  refine wp_for (i0 := 0) 30 (fun i s => Eqx [100] M s ∧ (∀ k, k < i → s.1 100 (f + 5 + k) = M.1 87 k) ∧ ∀ k, (k < f + 5 ∨ f + 5 + i ≤ k) → s.1 100 k = R k) (by decide) rfl (by omega) ⟨(Eqx.refl _ _).sr (by decide), fun k hk => absurd hk (Nat.not_lt_zero _), fun k hk => by rw [sr_ap]⟩ ?_ ?_
  · intro g i s hi hI hk
    refine wp_brf (nle_l (m := 30) rfl hi (by omega)) ?_
    rw [n2_add, gA_n (k_87 hy) hi (by omega), gA_n (k_100 hy) (by omega) (by omega), n2_nat (by omega), n2_nat (by omega), n2_s, hI.1.2 87 (by decide)]
    refine hk _ ⟨hI.1.sr (by decide), fun k hk => ?_, fun k hk => ?_⟩
    · rw [sr_ap]
      by_cases e : k = i
      · subst e; rw [up_eq]
      · rw [up_ne (by omega)]; exact hI.2.1 k (by omega)
    · rw [sr_ap, up_ne (by omega)]
      exact hI.2.2 k (by omega)
  intro g s hI
  refine wp_brt (le_l (m := 30) rfl (by omega) (by omega)) ?_
  refine wp_for (i0 := 0) 6 (fun i z => Eqx [100] M z ∧ (∀ k, k < i → z.1 100 (f + 35 + k) = M.1 88 k) ∧ ∀ k, (k < f + 35 ∨ f + 35 + i ≤ k) → z.1 100 k = s.1 100 k) (by decide) rfl (by omega) ⟨hI.1, fun k hk => absurd hk (Nat.not_lt_zero _), fun k hk => rfl⟩ ?_ ?_
  · intro g i z hi hJ hk
    refine wp_brf (nle_l (m := 6) rfl hi (by omega)) ?_
    rw [n2_add, gA_n (k_88 hy) hi (by omega), gA_n (k_100 hy) (by omega) (by omega), n2_nat (by omega), n2_nat (by omega), n2_s, hJ.1.2 88 (by decide)]
    refine hk _ ⟨hJ.1.sr (by decide), fun k hk => ?_, fun k hk => ?_⟩
    · rw [sr_ap]
      by_cases e : k = i
      · subst e; rw [show f + 5 + 30 + k = f + 35 + k by omega, up_eq]
      · rw [up_ne (by omega)]; exact hJ.2.1 k (by omega)
    · rw [sr_ap, up_ne (by omega)]
      exact hJ.2.2 k (by omega)
  intro g z hJ
  refine wp_brt (le_l (m := 6) rfl (by omega) (by omega)) ?_
  refine wp_some ⟨rfl, hJ.1, ⟨⟨?_, ?_, ?_, ?_, ?_⟩, fun k hk => ?_, fun k hk => ?_⟩, fun k hk => ?_⟩
  · rw [hJ.2.2 _ (by omega), hI.2.2 _ (by omega)]; exact hR0.1
  · rw [hJ.2.2 _ (by omega), hI.2.2 _ (by omega)]; exact hR0.2.1
  · rw [hJ.2.2 _ (by omega), hI.2.2 _ (by omega)]; exact hR0.2.2.1
  · rw [hJ.2.2 _ (by omega), hI.2.2 _ (by omega)]; exact hR0.2.2.2.1
  · rw [hJ.2.2 _ (by omega), hI.2.2 _ (by omega)]; exact hR0.2.2.2.2
  · rw [hJ.2.2 _ (by omega)]; exact hI.2.1 k hk
  · exact hJ.2.1 k hk
  · rw [hJ.2.2 k (by omega), hI.2.2 k (by omega), hRk k (by omega)]
theorem unpack_100 {y : Lay} (hy : LY y) {M : Mem} {f : Nat} (hf : f + 41 ≤ 41) {S : Sk} (hP : PKD (M.1 100) f S) (z1 : ∀ k, 30 ≤ k → M.1 87 k = S.1 k) (z2 : ∀ k, 6 ≤ k → M.1 88 k = S.2.1 k) : wp (f_X12_unpack y 73 100 (n2 f) M) (fun o => o.1 = 0 ∧ Eqx [73, 87, 88] M o.2 ∧ (o.2.1 87 = S.1 ∧ o.2.1 88 = S.2.1 ∧ o.2.1 73 34 = S.2.2.2.1 ∧ o.2.1 73 35 = S.2.2.2.2.1 ∧ o.2.1 73 32 = S.2.2.2.2.2.1 ∧ o.2.1 73 33 = S.2.2.2.2.2.2.1 ∧ o.2.1 73 31 = S.2.2.2.2.2.2.2.1) ∧ ∀ k, ¬ (31 ≤ k ∧ k ≤ 35) → o.2.1 73 k = M.1 73 k) := by
  obtain ⟨⟨p0, p1, p2, p3, p4⟩, p5, p6⟩ := hP
  unfold f_X12_unpack
  simp only [lT_s, jn_s, c0_s, cp_s, cx_s, cx_t, gK_t (k_73 hy), gN_t (r := 73) (by decide), r_73_0 hy, r_73_1 hy, r_73_2 hy, r_73_5 hy, r_73_6 hy, r_73_7 hy, r_73_8 hy, r_73_9 hy, r_73_10 hy, r_73_11 hy, r_73_12 hy, r_73_13 hy, r_73_14 hy, r_73_28 hy, r_73_29 hy, r_73_30 hy, r_73_38 hy, r_73_39 hy, r_73_40 hy, r_73_42 hy, r_73_43 hy, r_73_44 hy, r_73_45 hy, r_73_46 hy, r_73_47 hy, r_73_48 hy, r_73_49 hy, r_73_50 hy, r_73_51 hy, r_73_53 hy, r_73_58 hy, r_73_59 hy, r_73_60 hy, r_73_61 hy, r_73_62 hy, r_73_63 hy, gN_t (r := 100) (by decide), gN_t (r := 87) (by decide), gN_t (r := 88) (by decide), n2_c f (show (1 : Int32) = n2 1 from rfl), n2_c f (show (2 : Int32) = n2 2 from rfl), n2_c f (show (3 : Int32) = n2 3 from rfl), n2_c f (show (4 : Int32) = n2 4 from rfl), n2_c f (show (5 : Int32) = n2 5 from rfl)]
  simp only [n2_c (f + 5) (show (30 : Int32) = n2 30 from rfl)]
  rw [gA_n (k_100 hy) (by omega) (by omega), gA_n (k_100 hy) (by omega) (by omega), gA_n (k_100 hy) (by omega) (by omega), gA_n (k_100 hy) (by omega) (by omega), gA_n (k_100 hy) (by omega) (by omega)]
  rw [n2_nat (show f < 2147483648 by omega), n2_nat (show f + 1 < 2147483648 by omega), n2_nat (show f + 2 < 2147483648 by omega), n2_nat (show f + 3 < 2147483648 by omega), n2_nat (show f + 4 < 2147483648 by omega)]
  simp only [wI_sr, sr_1, Nat.reduceEqDiff, if_false, if_true, ↓reduceIte, sr_sr, p0, p1, p2, p3, p4]
  generalize hO : up (up (up (up (up (M.1 73) 31 S.2.2.2.2.2.2.2.1) 32 S.2.2.2.2.2.1) 33 S.2.2.2.2.2.2.1) 34 S.2.2.2.1) 35 S.2.2.2.2.1 = O
  refine wp_for (i0 := 0) 30 (fun i s => s = sr (sr M 73 O) 87 (rowTo i S.1 (M.1 87))) (by decide) rfl (by omega) (by rw [rowTo_0]; refine (sr_self _ 87).symm.trans ?_; rw [sr_ne (by decide)]) ?_ ?_
  · intro g i s hi hI hk
    subst hI
    refine wp_brf (nle_l (m := 30) rfl hi (by omega)) ?_
    rw [n2_add, gA_n (k_100 hy) (by omega) (by omega), gA_n (k_87 hy) hi (by omega), n2_nat (by omega), n2_nat (by omega), n2_s]
    refine hk _ ?_
    rw [sr_ap, sr_sr, sr_ne (by decide), sr_ne (by decide), p5 i hi, rowTo_s]
  intro g s hI
  subst hI
  refine wp_brt (le_l (m := 30) rfl (by omega) (by omega)) ?_
  refine wp_for (i0 := 0) 6 (fun i s => s = sr (sr (sr M 73 O) 87 (rowTo 30 S.1 (M.1 87))) 88 (rowTo i S.2.1 (M.1 88))) (by decide) rfl (by omega) (by rw [rowTo_0]; refine (sr_self _ 88).symm.trans ?_; rw [sr_ne (by decide), sr_ne (by decide)]) ?_ ?_
  · intro g i s hi hI hk
    subst hI
    refine wp_brf (nle_l (m := 6) rfl hi (by omega)) ?_
    rw [n2_add, gA_n (k_100 hy) (by omega) (by omega), gA_n (k_88 hy) hi (by omega), n2_nat (by omega), n2_nat (by omega), n2_s]
    refine hk _ ?_
    rw [sr_ap, sr_sr, sr_ne (by decide), sr_ne (by decide), sr_ne (by decide), show f + 5 + 30 + i = f + 35 + i by omega, p6 i hi, rowTo_s]
  intro g s hI
  subst hI
  refine wp_brt (le_l (m := 6) rfl (by omega) (by omega)) ?_
  have e1 : rowTo 30 S.1 (M.1 87) = S.1 := by
    funext k
    by_cases q : k < 30
    · exact rowTo_lt q
    · rw [rowTo_ge q]; exact z1 k (by omega)
  have e2 : rowTo 6 S.2.1 (M.1 88) = S.2.1 := by
    funext k
    by_cases q : k < 6
    · exact rowTo_lt q
    · rw [rowTo_ge q]; exact z2 k (by omega)
  rw [e1, e2]
  refine wp_some ⟨rfl, ⟨rfl, ?_⟩, ⟨?_, ?_, ?_, ?_, ?_, ?_, ?_⟩, ?_⟩
  · intro p hp
    simp only [List.mem_cons, List.not_mem_nil, not_or, or_false] at hp
    simp only [sr_1, if_neg hp.1, if_neg hp.2.1, if_neg hp.2.2]
  · rfl
  · rfl
  · rw [sr_ne (by decide), sr_ne (by decide), sr_ap, ← hO]; rfl
  · rw [sr_ne (by decide), sr_ne (by decide), sr_ap, ← hO]; rfl
  · rw [sr_ne (by decide), sr_ne (by decide), sr_ap, ← hO]; rfl
  · rw [sr_ne (by decide), sr_ne (by decide), sr_ap, ← hO]; rfl
  · rw [sr_ne (by decide), sr_ne (by decide), sr_ap, ← hO]; rfl
  · intro k hk
    rw [sr_ne (by decide), sr_ne (by decide), sr_ap, ← hO, up_ne (by omega), up_ne (by omega), up_ne (by omega), up_ne (by omega), up_ne (by omega)]
theorem pack_104 {y : Lay} (hy : LY y) {M : Mem} {f : Nat} (hf : f + 41 ≤ 41) : wp (f_X12_pack y 73 104 (n2 f) M) (fun o => o.1 = 0 ∧ Eqx [104] M o.2 ∧ PKD (o.2.1 104) f (moV M) ∧ ∀ k, (k < f ∨ f + 41 ≤ k) → o.2.1 104 k = M.1 104 k) := by
  unfold f_X12_pack
  simp only [lT_s, jn_s, c0_s, cp_s, cx_s, cx_t, gK_t (k_73 hy), gN_t (r := 73) (by decide), r_73_0 hy, r_73_1 hy, r_73_2 hy, r_73_5 hy, r_73_6 hy, r_73_7 hy, r_73_8 hy, r_73_9 hy, r_73_10 hy, r_73_11 hy, r_73_12 hy, r_73_13 hy, r_73_14 hy, r_73_28 hy, r_73_29 hy, r_73_30 hy, r_73_38 hy, r_73_39 hy, r_73_40 hy, r_73_42 hy, r_73_43 hy, r_73_44 hy, r_73_45 hy, r_73_46 hy, r_73_47 hy, r_73_48 hy, r_73_49 hy, r_73_50 hy, r_73_51 hy, r_73_53 hy, r_73_58 hy, r_73_59 hy, r_73_60 hy, r_73_61 hy, r_73_62 hy, r_73_63 hy, gN_t (r := 104) (by decide), gN_t (r := 87) (by decide), gN_t (r := 88) (by decide), n2_c f (show (1 : Int32) = n2 1 from rfl), n2_c f (show (2 : Int32) = n2 2 from rfl), n2_c f (show (3 : Int32) = n2 3 from rfl), n2_c f (show (4 : Int32) = n2 4 from rfl), n2_c f (show (5 : Int32) = n2 5 from rfl)]
  simp only [n2_c (f + 5) (show (30 : Int32) = n2 30 from rfl)]
  rw [gA_n (k_104 hy) (by omega) (by omega), gA_n (k_104 hy) (by omega) (by omega), gA_n (k_104 hy) (by omega) (by omega), gA_n (k_104 hy) (by omega) (by omega), gA_n (k_104 hy) (by omega) (by omega)]
  rw [n2_nat (show f < 2147483648 by omega), n2_nat (show f + 1 < 2147483648 by omega), n2_nat (show f + 2 < 2147483648 by omega), n2_nat (show f + 3 < 2147483648 by omega), n2_nat (show f + 4 < 2147483648 by omega)]
  simp only [wI_sr, sr_1, Nat.reduceEqDiff, if_false, if_true, ↓reduceIte, sr_sr]
  generalize hR : up (up (up (up (up (M.1 104) f (M.1 73 31)) (f + 1) (M.1 73 32)) (f + 2) (M.1 73 33)) (f + 3) (M.1 73 34)) (f + 4) (M.1 73 35) = R
  have hRk : ∀ k, (k < f ∨ f + 5 ≤ k) → R k = M.1 104 k := fun k hk => by rw [← hR, up_ne (by omega), up_ne (by omega), up_ne (by omega), up_ne (by omega), up_ne (by omega)]
  have hR0 : R f = M.1 73 31 ∧ R (f + 1) = M.1 73 32 ∧ R (f + 2) = M.1 73 33 ∧ R (f + 3) = M.1 73 34 ∧ R (f + 4) = M.1 73 35 := by
    rw [← hR]
    refine ⟨?_, ?_, ?_, ?_, ?_⟩
    · rw [up_ne (by omega), up_ne (by omega), up_ne (by omega), up_ne (by omega), up_eq]
    · rw [up_ne (by omega), up_ne (by omega), up_ne (by omega), up_eq]
    · rw [up_ne (by omega), up_ne (by omega), up_eq]
    · rw [up_ne (by omega), up_eq]
    · rw [up_eq]
  refine wp_for (i0 := 0) 30 (fun i s => Eqx [104] M s ∧ (∀ k, k < i → s.1 104 (f + 5 + k) = M.1 87 k) ∧ ∀ k, (k < f + 5 ∨ f + 5 + i ≤ k) → s.1 104 k = R k) (by decide) rfl (by omega) ⟨(Eqx.refl _ _).sr (by decide), fun k hk => absurd hk (Nat.not_lt_zero _), fun k hk => by rw [sr_ap]⟩ ?_ ?_
  · intro g i s hi hI hk
    refine wp_brf (nle_l (m := 30) rfl hi (by omega)) ?_
    rw [n2_add, gA_n (k_87 hy) hi (by omega), gA_n (k_104 hy) (by omega) (by omega), n2_nat (by omega), n2_nat (by omega), n2_s, hI.1.2 87 (by decide)]
    refine hk _ ⟨hI.1.sr (by decide), fun k hk => ?_, fun k hk => ?_⟩
    · rw [sr_ap]
      by_cases e : k = i
      · subst e; rw [up_eq]
      · rw [up_ne (by omega)]; exact hI.2.1 k (by omega)
    · rw [sr_ap, up_ne (by omega)]
      exact hI.2.2 k (by omega)
  intro g s hI
  refine wp_brt (le_l (m := 30) rfl (by omega) (by omega)) ?_
  refine wp_for (i0 := 0) 6 (fun i z => Eqx [104] M z ∧ (∀ k, k < i → z.1 104 (f + 35 + k) = M.1 88 k) ∧ ∀ k, (k < f + 35 ∨ f + 35 + i ≤ k) → z.1 104 k = s.1 104 k) (by decide) rfl (by omega) ⟨hI.1, fun k hk => absurd hk (Nat.not_lt_zero _), fun k hk => rfl⟩ ?_ ?_
  · intro g i z hi hJ hk
    refine wp_brf (nle_l (m := 6) rfl hi (by omega)) ?_
    rw [n2_add, gA_n (k_88 hy) hi (by omega), gA_n (k_104 hy) (by omega) (by omega), n2_nat (by omega), n2_nat (by omega), n2_s, hJ.1.2 88 (by decide)]
    refine hk _ ⟨hJ.1.sr (by decide), fun k hk => ?_, fun k hk => ?_⟩
    · rw [sr_ap]
      by_cases e : k = i
      · subst e; rw [show f + 5 + 30 + k = f + 35 + k by omega, up_eq]
      · rw [up_ne (by omega)]; exact hJ.2.1 k (by omega)
    · rw [sr_ap, up_ne (by omega)]
      exact hJ.2.2 k (by omega)
  intro g z hJ
  refine wp_brt (le_l (m := 6) rfl (by omega) (by omega)) ?_
  refine wp_some ⟨rfl, hJ.1, ⟨⟨?_, ?_, ?_, ?_, ?_⟩, fun k hk => ?_, fun k hk => ?_⟩, fun k hk => ?_⟩
  · rw [hJ.2.2 _ (by omega), hI.2.2 _ (by omega)]; exact hR0.1
  · rw [hJ.2.2 _ (by omega), hI.2.2 _ (by omega)]; exact hR0.2.1
  · rw [hJ.2.2 _ (by omega), hI.2.2 _ (by omega)]; exact hR0.2.2.1
  · rw [hJ.2.2 _ (by omega), hI.2.2 _ (by omega)]; exact hR0.2.2.2.1
  · rw [hJ.2.2 _ (by omega), hI.2.2 _ (by omega)]; exact hR0.2.2.2.2
  · rw [hJ.2.2 _ (by omega)]; exact hI.2.1 k hk
  · exact hJ.2.1 k hk
  · rw [hJ.2.2 k (by omega), hI.2.2 k (by omega), hRk k (by omega)]
theorem unpack_104 {y : Lay} (hy : LY y) {M : Mem} {f : Nat} (hf : f + 41 ≤ 41) {S : Sk} (hP : PKD (M.1 104) f S) (z1 : ∀ k, 30 ≤ k → M.1 87 k = S.1 k) (z2 : ∀ k, 6 ≤ k → M.1 88 k = S.2.1 k) : wp (f_X12_unpack y 73 104 (n2 f) M) (fun o => o.1 = 0 ∧ Eqx [73, 87, 88] M o.2 ∧ (o.2.1 87 = S.1 ∧ o.2.1 88 = S.2.1 ∧ o.2.1 73 34 = S.2.2.2.1 ∧ o.2.1 73 35 = S.2.2.2.2.1 ∧ o.2.1 73 32 = S.2.2.2.2.2.1 ∧ o.2.1 73 33 = S.2.2.2.2.2.2.1 ∧ o.2.1 73 31 = S.2.2.2.2.2.2.2.1) ∧ ∀ k, ¬ (31 ≤ k ∧ k ≤ 35) → o.2.1 73 k = M.1 73 k) := by
  obtain ⟨⟨p0, p1, p2, p3, p4⟩, p5, p6⟩ := hP
  unfold f_X12_unpack
  simp only [lT_s, jn_s, c0_s, cp_s, cx_s, cx_t, gK_t (k_73 hy), gN_t (r := 73) (by decide), r_73_0 hy, r_73_1 hy, r_73_2 hy, r_73_5 hy, r_73_6 hy, r_73_7 hy, r_73_8 hy, r_73_9 hy, r_73_10 hy, r_73_11 hy, r_73_12 hy, r_73_13 hy, r_73_14 hy, r_73_28 hy, r_73_29 hy, r_73_30 hy, r_73_38 hy, r_73_39 hy, r_73_40 hy, r_73_42 hy, r_73_43 hy, r_73_44 hy, r_73_45 hy, r_73_46 hy, r_73_47 hy, r_73_48 hy, r_73_49 hy, r_73_50 hy, r_73_51 hy, r_73_53 hy, r_73_58 hy, r_73_59 hy, r_73_60 hy, r_73_61 hy, r_73_62 hy, r_73_63 hy, gN_t (r := 104) (by decide), gN_t (r := 87) (by decide), gN_t (r := 88) (by decide), n2_c f (show (1 : Int32) = n2 1 from rfl), n2_c f (show (2 : Int32) = n2 2 from rfl), n2_c f (show (3 : Int32) = n2 3 from rfl), n2_c f (show (4 : Int32) = n2 4 from rfl), n2_c f (show (5 : Int32) = n2 5 from rfl)]
  simp only [n2_c (f + 5) (show (30 : Int32) = n2 30 from rfl)]
  rw [gA_n (k_104 hy) (by omega) (by omega), gA_n (k_104 hy) (by omega) (by omega), gA_n (k_104 hy) (by omega) (by omega), gA_n (k_104 hy) (by omega) (by omega), gA_n (k_104 hy) (by omega) (by omega)]
  rw [n2_nat (show f < 2147483648 by omega), n2_nat (show f + 1 < 2147483648 by omega), n2_nat (show f + 2 < 2147483648 by omega), n2_nat (show f + 3 < 2147483648 by omega), n2_nat (show f + 4 < 2147483648 by omega)]
  simp only [wI_sr, sr_1, Nat.reduceEqDiff, if_false, if_true, ↓reduceIte, sr_sr, p0, p1, p2, p3, p4]
  generalize hO : up (up (up (up (up (M.1 73) 31 S.2.2.2.2.2.2.2.1) 32 S.2.2.2.2.2.1) 33 S.2.2.2.2.2.2.1) 34 S.2.2.2.1) 35 S.2.2.2.2.1 = O
  refine wp_for (i0 := 0) 30 (fun i s => s = sr (sr M 73 O) 87 (rowTo i S.1 (M.1 87))) (by decide) rfl (by omega) (by rw [rowTo_0]; refine (sr_self _ 87).symm.trans ?_; rw [sr_ne (by decide)]) ?_ ?_
  · intro g i s hi hI hk
    subst hI
    refine wp_brf (nle_l (m := 30) rfl hi (by omega)) ?_
    rw [n2_add, gA_n (k_104 hy) (by omega) (by omega), gA_n (k_87 hy) hi (by omega), n2_nat (by omega), n2_nat (by omega), n2_s]
    refine hk _ ?_
    rw [sr_ap, sr_sr, sr_ne (by decide), sr_ne (by decide), p5 i hi, rowTo_s]
  intro g s hI
  subst hI
  refine wp_brt (le_l (m := 30) rfl (by omega) (by omega)) ?_
  refine wp_for (i0 := 0) 6 (fun i s => s = sr (sr (sr M 73 O) 87 (rowTo 30 S.1 (M.1 87))) 88 (rowTo i S.2.1 (M.1 88))) (by decide) rfl (by omega) (by rw [rowTo_0]; refine (sr_self _ 88).symm.trans ?_; rw [sr_ne (by decide), sr_ne (by decide)]) ?_ ?_
  · intro g i s hi hI hk
    subst hI
    refine wp_brf (nle_l (m := 6) rfl hi (by omega)) ?_
    rw [n2_add, gA_n (k_104 hy) (by omega) (by omega), gA_n (k_88 hy) hi (by omega), n2_nat (by omega), n2_nat (by omega), n2_s]
    refine hk _ ?_
    rw [sr_ap, sr_sr, sr_ne (by decide), sr_ne (by decide), sr_ne (by decide), show f + 5 + 30 + i = f + 35 + i by omega, p6 i hi, rowTo_s]
  intro g s hI
  subst hI
  refine wp_brt (le_l (m := 6) rfl (by omega) (by omega)) ?_
  have e1 : rowTo 30 S.1 (M.1 87) = S.1 := by
    funext k
    by_cases q : k < 30
    · exact rowTo_lt q
    · rw [rowTo_ge q]; exact z1 k (by omega)
  have e2 : rowTo 6 S.2.1 (M.1 88) = S.2.1 := by
    funext k
    by_cases q : k < 6
    · exact rowTo_lt q
    · rw [rowTo_ge q]; exact z2 k (by omega)
  rw [e1, e2]
  refine wp_some ⟨rfl, ⟨rfl, ?_⟩, ⟨?_, ?_, ?_, ?_, ?_, ?_, ?_⟩, ?_⟩
  · intro p hp
    simp only [List.mem_cons, List.not_mem_nil, not_or, or_false] at hp
    simp only [sr_1, if_neg hp.1, if_neg hp.2.1, if_neg hp.2.2]
  · rfl
  · rfl
  · rw [sr_ne (by decide), sr_ne (by decide), sr_ap, ← hO]; rfl
  · rw [sr_ne (by decide), sr_ne (by decide), sr_ap, ← hO]; rfl
  · rw [sr_ne (by decide), sr_ne (by decide), sr_ap, ← hO]; rfl
  · rw [sr_ne (by decide), sr_ne (by decide), sr_ap, ← hO]; rfl
  · rw [sr_ne (by decide), sr_ne (by decide), sr_ap, ← hO]; rfl
  · intro k hk
    rw [sr_ne (by decide), sr_ne (by decide), sr_ap, ← hO, up_ne (by omega), up_ne (by omega), up_ne (by omega), up_ne (by omega), up_ne (by omega)]
theorem pack_89 {y : Lay} (hy : LY y) {M : Mem} {f : Nat} (hf : f + 41 ≤ 1640) : wp (f_X12_pack y 73 89 (n2 f) M) (fun o => o.1 = 0 ∧ Eqx [89] M o.2 ∧ PKD (o.2.1 89) f (moV M) ∧ ∀ k, (k < f ∨ f + 41 ≤ k) → o.2.1 89 k = M.1 89 k) := by
  unfold f_X12_pack
  simp only [lT_s, jn_s, c0_s, cp_s, cx_s, cx_t, gK_t (k_73 hy), gN_t (r := 73) (by decide), r_73_0 hy, r_73_1 hy, r_73_2 hy, r_73_5 hy, r_73_6 hy, r_73_7 hy, r_73_8 hy, r_73_9 hy, r_73_10 hy, r_73_11 hy, r_73_12 hy, r_73_13 hy, r_73_14 hy, r_73_28 hy, r_73_29 hy, r_73_30 hy, r_73_38 hy, r_73_39 hy, r_73_40 hy, r_73_42 hy, r_73_43 hy, r_73_44 hy, r_73_45 hy, r_73_46 hy, r_73_47 hy, r_73_48 hy, r_73_49 hy, r_73_50 hy, r_73_51 hy, r_73_53 hy, r_73_58 hy, r_73_59 hy, r_73_60 hy, r_73_61 hy, r_73_62 hy, r_73_63 hy, gN_t (r := 89) (by decide), gN_t (r := 87) (by decide), gN_t (r := 88) (by decide), n2_c f (show (1 : Int32) = n2 1 from rfl), n2_c f (show (2 : Int32) = n2 2 from rfl), n2_c f (show (3 : Int32) = n2 3 from rfl), n2_c f (show (4 : Int32) = n2 4 from rfl), n2_c f (show (5 : Int32) = n2 5 from rfl)]
  simp only [n2_c (f + 5) (show (30 : Int32) = n2 30 from rfl)]
  rw [gA_n (k_89 hy) (by omega) (by omega), gA_n (k_89 hy) (by omega) (by omega), gA_n (k_89 hy) (by omega) (by omega), gA_n (k_89 hy) (by omega) (by omega), gA_n (k_89 hy) (by omega) (by omega)]
  rw [n2_nat (show f < 2147483648 by omega), n2_nat (show f + 1 < 2147483648 by omega), n2_nat (show f + 2 < 2147483648 by omega), n2_nat (show f + 3 < 2147483648 by omega), n2_nat (show f + 4 < 2147483648 by omega)]
  simp only [wI_sr, sr_1, Nat.reduceEqDiff, if_false, if_true, ↓reduceIte, sr_sr]
  generalize hR : up (up (up (up (up (M.1 89) f (M.1 73 31)) (f + 1) (M.1 73 32)) (f + 2) (M.1 73 33)) (f + 3) (M.1 73 34)) (f + 4) (M.1 73 35) = R
  have hRk : ∀ k, (k < f ∨ f + 5 ≤ k) → R k = M.1 89 k := fun k hk => by rw [← hR, up_ne (by omega), up_ne (by omega), up_ne (by omega), up_ne (by omega), up_ne (by omega)]
  have hR0 : R f = M.1 73 31 ∧ R (f + 1) = M.1 73 32 ∧ R (f + 2) = M.1 73 33 ∧ R (f + 3) = M.1 73 34 ∧ R (f + 4) = M.1 73 35 := by
    rw [← hR]
    refine ⟨?_, ?_, ?_, ?_, ?_⟩
    · rw [up_ne (by omega), up_ne (by omega), up_ne (by omega), up_ne (by omega), up_eq]
    · rw [up_ne (by omega), up_ne (by omega), up_ne (by omega), up_eq]
    · rw [up_ne (by omega), up_ne (by omega), up_eq]
    · rw [up_ne (by omega), up_eq]
    · rw [up_eq]
  refine wp_for (i0 := 0) 30 (fun i s => Eqx [89] M s ∧ (∀ k, k < i → s.1 89 (f + 5 + k) = M.1 87 k) ∧ ∀ k, (k < f + 5 ∨ f + 5 + i ≤ k) → s.1 89 k = R k) (by decide) rfl (by omega) ⟨(Eqx.refl _ _).sr (by decide), fun k hk => absurd hk (Nat.not_lt_zero _), fun k hk => by rw [sr_ap]⟩ ?_ ?_
  · intro g i s hi hI hk
    refine wp_brf (nle_l (m := 30) rfl hi (by omega)) ?_
    rw [n2_add, gA_n (k_87 hy) hi (by omega), gA_n (k_89 hy) (by omega) (by omega), n2_nat (by omega), n2_nat (by omega), n2_s, hI.1.2 87 (by decide)]
    refine hk _ ⟨hI.1.sr (by decide), fun k hk => ?_, fun k hk => ?_⟩
    · rw [sr_ap]
      by_cases e : k = i
      · subst e; rw [up_eq]
      · rw [up_ne (by omega)]; exact hI.2.1 k (by omega)
    · rw [sr_ap, up_ne (by omega)]
      exact hI.2.2 k (by omega)
  intro g s hI
  refine wp_brt (le_l (m := 30) rfl (by omega) (by omega)) ?_
  refine wp_for (i0 := 0) 6 (fun i z => Eqx [89] M z ∧ (∀ k, k < i → z.1 89 (f + 35 + k) = M.1 88 k) ∧ ∀ k, (k < f + 35 ∨ f + 35 + i ≤ k) → z.1 89 k = s.1 89 k) (by decide) rfl (by omega) ⟨hI.1, fun k hk => absurd hk (Nat.not_lt_zero _), fun k hk => rfl⟩ ?_ ?_
  · intro g i z hi hJ hk
    refine wp_brf (nle_l (m := 6) rfl hi (by omega)) ?_
    rw [n2_add, gA_n (k_88 hy) hi (by omega), gA_n (k_89 hy) (by omega) (by omega), n2_nat (by omega), n2_nat (by omega), n2_s, hJ.1.2 88 (by decide)]
    refine hk _ ⟨hJ.1.sr (by decide), fun k hk => ?_, fun k hk => ?_⟩
    · rw [sr_ap]
      by_cases e : k = i
      · subst e; rw [show f + 5 + 30 + k = f + 35 + k by omega, up_eq]
      · rw [up_ne (by omega)]; exact hJ.2.1 k (by omega)
    · rw [sr_ap, up_ne (by omega)]
      exact hJ.2.2 k (by omega)
  intro g z hJ
  refine wp_brt (le_l (m := 6) rfl (by omega) (by omega)) ?_
  refine wp_some ⟨rfl, hJ.1, ⟨⟨?_, ?_, ?_, ?_, ?_⟩, fun k hk => ?_, fun k hk => ?_⟩, fun k hk => ?_⟩
  · rw [hJ.2.2 _ (by omega), hI.2.2 _ (by omega)]; exact hR0.1
  · rw [hJ.2.2 _ (by omega), hI.2.2 _ (by omega)]; exact hR0.2.1
  · rw [hJ.2.2 _ (by omega), hI.2.2 _ (by omega)]; exact hR0.2.2.1
  · rw [hJ.2.2 _ (by omega), hI.2.2 _ (by omega)]; exact hR0.2.2.2.1
  · rw [hJ.2.2 _ (by omega), hI.2.2 _ (by omega)]; exact hR0.2.2.2.2
  · rw [hJ.2.2 _ (by omega)]; exact hI.2.1 k hk
  · exact hJ.2.1 k hk
  · rw [hJ.2.2 k (by omega), hI.2.2 k (by omega), hRk k (by omega)]
theorem unpack_89 {y : Lay} (hy : LY y) {M : Mem} {f : Nat} (hf : f + 41 ≤ 1640) {S : Sk} (hP : PKD (M.1 89) f S) (z1 : ∀ k, 30 ≤ k → M.1 87 k = S.1 k) (z2 : ∀ k, 6 ≤ k → M.1 88 k = S.2.1 k) : wp (f_X12_unpack y 73 89 (n2 f) M) (fun o => o.1 = 0 ∧ Eqx [73, 87, 88] M o.2 ∧ (o.2.1 87 = S.1 ∧ o.2.1 88 = S.2.1 ∧ o.2.1 73 34 = S.2.2.2.1 ∧ o.2.1 73 35 = S.2.2.2.2.1 ∧ o.2.1 73 32 = S.2.2.2.2.2.1 ∧ o.2.1 73 33 = S.2.2.2.2.2.2.1 ∧ o.2.1 73 31 = S.2.2.2.2.2.2.2.1) ∧ ∀ k, ¬ (31 ≤ k ∧ k ≤ 35) → o.2.1 73 k = M.1 73 k) := by
  obtain ⟨⟨p0, p1, p2, p3, p4⟩, p5, p6⟩ := hP
  unfold f_X12_unpack
  simp only [lT_s, jn_s, c0_s, cp_s, cx_s, cx_t, gK_t (k_73 hy), gN_t (r := 73) (by decide), r_73_0 hy, r_73_1 hy, r_73_2 hy, r_73_5 hy, r_73_6 hy, r_73_7 hy, r_73_8 hy, r_73_9 hy, r_73_10 hy, r_73_11 hy, r_73_12 hy, r_73_13 hy, r_73_14 hy, r_73_28 hy, r_73_29 hy, r_73_30 hy, r_73_38 hy, r_73_39 hy, r_73_40 hy, r_73_42 hy, r_73_43 hy, r_73_44 hy, r_73_45 hy, r_73_46 hy, r_73_47 hy, r_73_48 hy, r_73_49 hy, r_73_50 hy, r_73_51 hy, r_73_53 hy, r_73_58 hy, r_73_59 hy, r_73_60 hy, r_73_61 hy, r_73_62 hy, r_73_63 hy, gN_t (r := 89) (by decide), gN_t (r := 87) (by decide), gN_t (r := 88) (by decide), n2_c f (show (1 : Int32) = n2 1 from rfl), n2_c f (show (2 : Int32) = n2 2 from rfl), n2_c f (show (3 : Int32) = n2 3 from rfl), n2_c f (show (4 : Int32) = n2 4 from rfl), n2_c f (show (5 : Int32) = n2 5 from rfl)]
  simp only [n2_c (f + 5) (show (30 : Int32) = n2 30 from rfl)]
  rw [gA_n (k_89 hy) (by omega) (by omega), gA_n (k_89 hy) (by omega) (by omega), gA_n (k_89 hy) (by omega) (by omega), gA_n (k_89 hy) (by omega) (by omega), gA_n (k_89 hy) (by omega) (by omega)]
  rw [n2_nat (show f < 2147483648 by omega), n2_nat (show f + 1 < 2147483648 by omega), n2_nat (show f + 2 < 2147483648 by omega), n2_nat (show f + 3 < 2147483648 by omega), n2_nat (show f + 4 < 2147483648 by omega)]
  simp only [wI_sr, sr_1, Nat.reduceEqDiff, if_false, if_true, ↓reduceIte, sr_sr, p0, p1, p2, p3, p4]
  generalize hO : up (up (up (up (up (M.1 73) 31 S.2.2.2.2.2.2.2.1) 32 S.2.2.2.2.2.1) 33 S.2.2.2.2.2.2.1) 34 S.2.2.2.1) 35 S.2.2.2.2.1 = O
  refine wp_for (i0 := 0) 30 (fun i s => s = sr (sr M 73 O) 87 (rowTo i S.1 (M.1 87))) (by decide) rfl (by omega) (by rw [rowTo_0]; refine (sr_self _ 87).symm.trans ?_; rw [sr_ne (by decide)]) ?_ ?_
  · intro g i s hi hI hk
    subst hI
    refine wp_brf (nle_l (m := 30) rfl hi (by omega)) ?_
    rw [n2_add, gA_n (k_89 hy) (by omega) (by omega), gA_n (k_87 hy) hi (by omega), n2_nat (by omega), n2_nat (by omega), n2_s]
    refine hk _ ?_
    rw [sr_ap, sr_sr, sr_ne (by decide), sr_ne (by decide), p5 i hi, rowTo_s]
  intro g s hI
  subst hI
  refine wp_brt (le_l (m := 30) rfl (by omega) (by omega)) ?_
  refine wp_for (i0 := 0) 6 (fun i s => s = sr (sr (sr M 73 O) 87 (rowTo 30 S.1 (M.1 87))) 88 (rowTo i S.2.1 (M.1 88))) (by decide) rfl (by omega) (by rw [rowTo_0]; refine (sr_self _ 88).symm.trans ?_; rw [sr_ne (by decide), sr_ne (by decide)]) ?_ ?_
  · intro g i s hi hI hk
    subst hI
    refine wp_brf (nle_l (m := 6) rfl hi (by omega)) ?_
    rw [n2_add, gA_n (k_89 hy) (by omega) (by omega), gA_n (k_88 hy) hi (by omega), n2_nat (by omega), n2_nat (by omega), n2_s]
    refine hk _ ?_
    rw [sr_ap, sr_sr, sr_ne (by decide), sr_ne (by decide), sr_ne (by decide), show f + 5 + 30 + i = f + 35 + i by omega, p6 i hi, rowTo_s]
  intro g s hI
  subst hI
  refine wp_brt (le_l (m := 6) rfl (by omega) (by omega)) ?_
  have e1 : rowTo 30 S.1 (M.1 87) = S.1 := by
    funext k
    by_cases q : k < 30
    · exact rowTo_lt q
    · rw [rowTo_ge q]; exact z1 k (by omega)
  have e2 : rowTo 6 S.2.1 (M.1 88) = S.2.1 := by
    funext k
    by_cases q : k < 6
    · exact rowTo_lt q
    · rw [rowTo_ge q]; exact z2 k (by omega)
  rw [e1, e2]
  refine wp_some ⟨rfl, ⟨rfl, ?_⟩, ⟨?_, ?_, ?_, ?_, ?_, ?_, ?_⟩, ?_⟩
  · intro p hp
    simp only [List.mem_cons, List.not_mem_nil, not_or, or_false] at hp
    simp only [sr_1, if_neg hp.1, if_neg hp.2.1, if_neg hp.2.2]
  · rfl
  · rfl
  · rw [sr_ne (by decide), sr_ne (by decide), sr_ap, ← hO]; rfl
  · rw [sr_ne (by decide), sr_ne (by decide), sr_ap, ← hO]; rfl
  · rw [sr_ne (by decide), sr_ne (by decide), sr_ap, ← hO]; rfl
  · rw [sr_ne (by decide), sr_ne (by decide), sr_ap, ← hO]; rfl
  · rw [sr_ne (by decide), sr_ne (by decide), sr_ap, ← hO]; rfl
  · intro k hk
    rw [sr_ne (by decide), sr_ne (by decide), sr_ap, ← hO, up_ne (by omega), up_ne (by omega), up_ne (by omega), up_ne (by omega), up_ne (by omega)]
