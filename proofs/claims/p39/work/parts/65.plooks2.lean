/-! ===== calls: steady, band, streak ===== -/
abbrev eqR (B C : Row) (n : Nat) : Prop := ∀ k, k < n → B k = C k
def stQ (A : St) : Nat → Bool := fun k => decide (eqR (sB (pDays (aK A) (aS A) (k + 1))) (sB (pDays (aK A) (aS A) k)) 30)
def stR (A : St) : Int32 := enc1 (fst (stQ A) 40)
theorem asMorning_s {y : Lay} (hy : LY y) {M : Mem} : f_X8_isAsInTheMorning y 58 M = some (if eqR (M.1 59) (M.1 60) 30 then 1 else 0) := by
  unfold f_X8_isAsInTheMorning
  simp only [lT_s, jn_s, c0_s, cp_s, cx_s, cx_t, gK_t (k_58 hy), gN_t (r := 58) (by decide), r_58_0 hy, r_58_1 hy, r_58_2 hy, r_58_3 hy, r_58_4 hy, r_58_5 hy, r_58_6 hy, gN_t (r := 59) (by decide), gN_t (r := 60) (by decide)]
  refine wp_eq ?_
  refine wp_for0 (i0 := 0) 30 (fun i => eqR (M.1 59) (M.1 60) i) (by decide) rfl (by omega) (fun k hk => absurd hk (Nat.not_lt_zero _)) ?_ ?_
  · intro f i hi hI hk
    refine wp_brf (nle_l (m := 30) rfl hi (by omega)) ?_
    rw [gA_n (k_59 hy) hi (by omega), gA_n (k_60 hy) hi (by omega), n2_nat (by omega)]
    refine wp_br (fun q => ?_) (fun q => wp_some ?_)
    · rw [n2_s]
      refine hk (fun k hk => ?_)
      by_cases e : k = i
      · rw [e]; exact q
      · exact hI k (by omega)
    · rw [if_neg (fun z => q (z i hi))]
  · intro f hI
    refine wp_brt (le_l (m := 30) rfl (by omega) (by omega)) (wp_some ?_)
    rw [if_pos hI]
theorem steady_c {y : Lay} (hy : LY y) {A : St} {M : Mem} (h : CR A M) (v : VAL A) : wp (f_X11_steady y 1 M) (OD A (stR A) M) := by
  unfold f_X11_steady
  rw [gK_t (k_1 hy)]
  refine wp_c0 _ (la_c hy h v (d := 0) (by decide)) (fun r M1 q => ?_)
  obtain ⟨q1, q2, T, q3, q5, q4⟩ := q
  dsimp only at q1 q2 q4
  simp only [gK_t (k_1 hy), gN_t (r := 1) (by decide), r_1_0 hy, r_1_1 hy, r_1_2 hy, r_1_3 hy, r_1_4 hy, r_1_5 hy, r_1_6 hy, r_1_7 hy, r_1_8 hy, r_1_9 hy, r_1_10 hy, gK_t (k_58 hy), gN_t (r := 58) (by decide), r_58_0 hy, r_58_1 hy, r_58_2 hy, r_58_3 hy, r_58_4 hy, r_58_5 hy, r_58_6 hy]
  refine wp_fork (κ := Int32 → Mem → Option (Int32 × Mem)) (fun f j s => f (n2 (j + 1)) s) (fun j s => CR A s ∧ kM M s ∧ skV s 58 59 62 63 = pDays (aK A) T j ∧ fst (stQ A) j = none) 40 (by decide) (i0 := 0) (by decide) ⟨q1, q2, q4, rfl⟩ ?_ ?_
  · intro f j s hj hI hk
    obtain ⟨i1, i2, i3, i4⟩ := hI
    refine wp_brf (by rw [show (40 : Int32) = n2 40 from rfl, n2_lt (by decide) (by omega)]; omega) ?_
    refine wp_c0 _ (tday_c hy i1 v (by rw [i3]; exact pDays_ok v.1 q5 j)) (fun r M2 q => ?_)
    obtain ⟨w1, w2, w3, w4⟩ := q
    dsimp only at w1 w2 w3 w4
    have w3' : skV M2 58 59 62 63 = pDays (aK A) T (j + 1) := by rw [w3, i3]; rfl
    rw [asMorning_s hy, cp_s]
    have e59 : M2.1 59 = sB (pDays (aK A) (aS A) (j + 1)) := by
      have e : M2.1 59 = sB (skV M2 58 59 62 63) := rfl
      rw [e, w3', pDays_1 q3]
    have e60 : ∀ k, k < 30 → M2.1 60 k = sB (pDays (aK A) (aS A) j) k := fun k hk => by
      have e : s.1 59 = sB (skV s 58 59 62 63) := rfl
      rw [w4, va_00 hk, e, i3, b_eqo (pDays_eqo q3 j)]
    have key : eqR (M2.1 59) (M2.1 60) 30 ↔ eqR (sB (pDays (aK A) (aS A) (j + 1))) (sB (pDays (aK A) (aS A) j)) 30 := by
      rw [e59]
      exact ⟨fun z k hk => (z k hk).trans (e60 k hk), fun z k hk => (z k hk).trans (e60 k hk).symm⟩
    by_cases u : eqR (M2.1 59) (M2.1 60) 30
    · rw [if_pos u]
      refine wp_brf (by decide) (wp_some ⟨?_, w1, i2.trans w2⟩)
      unfold stR
      rw [fst_yes i4 (decide_eq_true (key.mp u)) 40 hj]
      rfl
    · rw [if_neg u]
      refine wp_brt rfl ?_
      rw [n2_s]
      exact hk _ ⟨w1, i2.trans w2, w3', fst_no i4 (fun z => u (key.mpr (of_decide_eq_true z)))⟩
  · intro f s hI
    obtain ⟨i1, i2, i3, i4⟩ := hI
    refine wp_brt (by decide) (wp_some ⟨?_, i1, i2⟩)
    unfold stR
    rw [i4]; rfl
theorem steady_m {y : Lay} (hy : LY y) {A : St} {M : Mem} (h : MR A M) (v : VAL A) : wp (f_X12_steady y 73 M) (OM A (0, stR A) M) := by
  unfold f_X12_steady
  have h30 := v.1.n30
  rw [gK_t (k_73 hy)]
  refine OM.start hy h (fun M0 h0 g0 hc0 => ?_)
  have hS0 := h0.sok v
  simp only [gN_t (r := 93) (by decide), r_73_42 hy]
  refine look_in hy (fun r M1 hL hV => ?_)
  simp only [lT_s, jn_s, c0_s, cp_s, cx_s, cx_t, gN_t (r := 87) (by decide), gN_t (r := 94) (by decide), r_73_43 hy, r_73_28 hy]
  refine wp_fork (κ := Int32 → Int32 → Mem → Option (Int32 × Mem)) (S := Int32 × Mem) (fun f j s => f s.1 (n2 (j + 1)) s.2) (fun j s => LK M0 s.2 ∧ SOK (aK A) (moV s.2) ∧ ((s.1 = -1 ∧ fst (stQ A) j = none ∧ moV s.2 = pDays (aK A) (moV M0) j) ∨ (¬ s.1 = -1 ∧ s.1 = enc1 (fst (stQ A) 40)))) 40 (by decide) (i0 := 0) (s0 := (-1, M1)) (by decide) ⟨hL, by rw [hV]; exact hS0, Or.inl ⟨rfl, rfl, hV⟩⟩ ?_ ?_
  · intro f j s hj hI hk
    obtain ⟨b, s⟩ := s
    obtain ⟨i1, i2, i3⟩ := hI
    dsimp only at i1 i2 i3 hk ⊢
    refine wp_brf (by rw [show (40 : Int32) = n2 40 from rfl, n2_lt (by decide) (by omega)]; omega) ?_
    rcases i3 with ⟨rfl, i4, i5⟩ | ⟨i4, i5⟩
    · refine wp_brt rfl ?_
      rw [copyTo_g (k_94 hy) (k_87 hy) (by decide) (by decide), c0_s]
      have hL2 : LK M0 (sr s 94 (rowTo 30 (s.1 87) (s.1 94))) := i1.step ((Eqx.refl _ _).sr (by decide)) (F73.row (sr_ne (by decide)))
      have hm : moV (sr s 94 (rowTo 30 (s.1 87) (s.1 94))) = moV s := rfl
      have r94 : (sr s 94 (rowTo 30 (s.1 87) (s.1 94))).1 94 = rowTo 30 (s.1 87) (s.1 94) := sr_ap _ _ _
      generalize sr s 94 (rowTo 30 (s.1 87) (s.1 94)) = s2 at hL2 hm r94
      refine wp_c0 _ (lday_m hy h0 v hL2 (by rw [hm]; exact i2)) (fun r M2 q => ?_)
      obtain ⟨w1, w2, w4⟩ := q
      dsimp only at w1 w2 w4
      have w3 : moV M2 = pDays (aK A) (moV M0) (j + 1) := by rw [w2, hm, i5]; rfl
      have hS2 : SOK (aK A) (moV M2) := by rw [w2, hm]; exact pDay_ok v.1 i2
      have e87 : M2.1 87 = sB (pDays (aK A) (aS A) (j + 1)) := by
        have e : M2.1 87 = sB (moV M2) := rfl
        rw [e, w3, pDays_1 h0.2.1.1]
      have e94 : ∀ k, k < 30 → M2.1 94 k = sB (pDays (aK A) (aS A) j) k := fun k hk => by
        have e : s.1 87 = sB (moV s) := rfl
        rw [w4.2 94 (by decide), r94, rowTo_lt hk, e, i5, b_eqo (pDays_eqo h0.2.1.1 j)]
      have zA : SOK (aK A) (pDays (aK A) (aS A) j) := pDays_ok v.1 v.2.1.1.1 j
      have zB : SOK (aK A) (pDays (aK A) (aS A) (j + 1)) := pDays_ok v.1 v.2.1.1.1 (j + 1)
      have key : eqR (M2.1 87) (M2.1 94) (kn (aK A)) ↔ eqR (sB (pDays (aK A) (aS A) (j + 1))) (sB (pDays (aK A) (aS A) j)) 30 := by
        rw [e87]
        constructor
        · intro z k hk
          by_cases hkn : k < kn (aK A)
          · exact (z k hkn).trans (e94 k hk)
          · exact (zB.1.1.2 k (by omega)).trans (zA.1.1.2 k (by omega)).symm
        · intro z k hk
          exact (z k (by omega)).trans (e94 k (by omega)).symm
      have g := (w1.com h0.1).geo v.1
      simp only [cellsG hy g]
      have fin : ∀ x : Int32, x = (if eqR (M2.1 87) (M2.1 94) (kn (aK A)) then 1 else 0) → wp (br (x = 0) (f (-1) (n2 (j + 1) + 1) M2) (f (n2 (j + 1)) (n2 (j + 1) + 1) M2)) (OM A (0, stR A) M) := fun x hx => by
        rw [hx, n2_s]
        by_cases u : eqR (M2.1 87) (M2.1 94) (kn (aK A))
        · rw [if_pos u]
          refine wp_brf (by decide) ?_
          refine hk (n2 (j + 1), M2) ⟨w1, hS2, Or.inr ⟨enc1_ne j (by omega), ?_⟩⟩
          rw [fst_yes i4 (decide_eq_true (key.mp u)) 40 hj]
          rfl
        · rw [if_neg u]
          exact wp_brt rfl (hk (-1, M2) ⟨w1, hS2, Or.inl ⟨rfl, fst_no i4 (fun z => u (key.mpr (of_decide_eq_true z))), w3⟩⟩)
      refine wp_for2 (i0 := 0) (kn (aK A)) (fun i x => x = (if eqR (M2.1 87) (M2.1 94) i then 1 else 0)) (by have : FUEL = 100000 := rfl; omega) rfl (by omega) ?_ ?_ ?_
      · rw [if_pos (fun k hk => absurd hk (Nat.not_lt_zero _))]
      · intro f2 i x hi hJ hk2
        refine wp_brf (by show ¬ n2 (kn (aK A)) ≤ n2 i; rw [n2_le (by omega) (by omega)]; omega) ?_
        have nx : ∀ x2, (x2 = (if eqR (M2.1 87) (M2.1 94) (i + 1) then (1 : Int32) else 0)) → wp (f2 x2 (n2 i + 1)) (OM A (0, stR A) M) := fun x2 h2 => by rw [n2_s]; exact hk2 _ h2
        by_cases u : eqR (M2.1 87) (M2.1 94) i
        · rw [if_pos u] at hJ
          subst hJ
          refine wp_brf (by decide) ?_
          rw [gA_n (k_87 hy) (show i < 30 by omega) (by omega), gA_n (k_94 hy) (show i < 30 by omega) (by omega), n2_nat (show i < 2147483648 by omega)]
          refine wp_br (fun q => nx _ ?_) (fun q => nx _ ?_)
          · rw [if_pos (fun k hk => by
              by_cases e : k = i
              · rw [e]; exact q
              · exact u k (by omega))]
          · rw [if_neg (fun z => q (z i (Nat.lt_succ_self i)))]
        · rw [if_neg u] at hJ
          subst hJ
          refine wp_brt rfl (nx _ ?_)
          rw [if_neg (fun z => u (fun k hk => z k (by omega)))]
      · intro f2 x hJ
        refine wp_brt (Int32.le_refl _) ?_
        exact fin x hJ
    · refine wp_brf i4 ?_
      exact look_out hy h0 v g0 hc0 i1 i2 (fun _ N n1 n2 n3 _ => OM.ret' i5 n1 n2 n3)
  · intro f s hI
    obtain ⟨b, s⟩ := s
    obtain ⟨i1, i2, i3⟩ := hI
    dsimp only at i1 i2 i3 ⊢
    refine wp_brt (by decide) ?_
    refine look_out hy h0 v g0 hc0 i1 i2 (fun _ N n1 n2 n3 _ => OM.ret' ?_ n1 n2 n3)
    rcases i3 with ⟨rfl, i4, i5⟩ | ⟨i4, i5⟩
    · unfold stR; rw [i4]; rfl
    · exact i5
/-! band -/
/-- blue of x cells of a row -/
def rwB (w : Nat) (B : Row) (y x : Nat) : Int32 := it (fun k a => a + B (w * y + k)) 0 x
theorem rwB_s (w : Nat) (B : Row) (y x : Nat) : rwB w B y (x + 1) = rwB w B y x + B (w * y + x) := rfl
theorem rwB_n {w n : Nat} {B : Row} (h : BOK n B) (y : Nat) : ∀ x, ∃ u, u ≤ 99 * x ∧ rwB w B y x = n2 u := by
  intro x
  induction x with
  | zero => exact ⟨0, by omega, rfl⟩
  | succ x ih =>
    obtain ⟨u, h1, h2⟩ := ih
    obtain ⟨t, h3, h4⟩ := h.1 (w * y + x)
    exact ⟨u + t, by omega, by rw [rwB_s, h2, h4, n2_add]⟩
theorem div_row {w : Nat} (hw : 0 < w) (i y : Nat) : i / w = y ↔ w * y ≤ i ∧ i < w * y + w := by
  constructor
  · intro h
    subst h
    exact ⟨Nat.mul_div_le i w, by have := Nat.lt_mul_div_succ i hw; rw [Nat.mul_add, Nat.mul_one] at this; exact this⟩
  · intro ⟨h1, h2⟩
    rw [Nat.mul_comm] at h1 h2
    exact Nat.div_eq_of_lt_le h1 (by rw [Nat.succ_mul]; exact h2)
theorem rowBlue_s {y : Lay} (hy : LY y) {A : St} {M : Mem} (h : CR A M) (v : VAL A) {r : Nat} (hr : r < kh (aK A)) : f_X8_rowBlue y 58 (n2 r) M = some (rwB (kw (aK A)) (M.1 59) r (kw (aK A))) := by
  unfold f_X8_rowBlue
  have h30 := v.1.n30
  have hw := v.1.1.1.1
  have hw6 := v.1.1.1.2
  have hh5 := v.1.1.2.2
  have g := h.1.geo v.1
  have hin : kw (aK A) * r + kw (aK A) ≤ kn (aK A) := by
    have : kw (aK A) * (r + 1) ≤ kw (aK A) * kh (aK A) := Nat.mul_le_mul_left _ hr
    rw [Nat.mul_add, Nat.mul_one] at this
    exact this
  simp only [lT_s, jn_s, c0_s, cp_s, cx_s, cx_t, gK_t (k_58 hy), gN_t (r := 58) (by decide), r_58_0 hy, r_58_1 hy, r_58_2 hy, r_58_3 hy, r_58_4 hy, r_58_5 hy, r_58_6 hy, gK_t (k_4 hy), gN_t (r := 4) (by decide), r_4_6 hy, r_4_7 hy, r_4_8 hy, cells_4 hy g]
  refine wp_eq ?_
  refine wp_for2 (i0 := 0) (kn (aK A)) (fun i a => a = rwB (kw (aK A)) (M.1 59) r (min (i - kw (aK A) * r) (kw (aK A)))) (by have : FUEL = 100000 := rfl; omega) rfl (by omega) ?_ ?_ ?_
  · rw [show min (0 - kw (aK A) * r) (kw (aK A)) = 0 by omega]; rfl
  · intro f i a hi hI hk
    subst hI
    refine wp_brf (by show ¬ n2 (kn (aK A)) ≤ n2 i; rw [n2_le (by omega) (by omega)]; omega) ?_
    rw [rowOf_4 hy g (show i < 64 by omega), cp_s]
    have hd : i / kw (aK A) ≤ i := Nat.div_le_self _ _
    have hdr := div_row hw i r
    refine wp_br (fun q => ?_) (fun q => ?_)
    · rw [n2_inj (by omega) (by omega)] at q
      obtain ⟨d1, d2⟩ := hdr.mp q
      rw [blueOf_58 hy (show i < 30 by omega), cp_s, n2_s]
      refine hk _ ?_
      rw [show min (i + 1 - kw (aK A) * r) (kw (aK A)) = (i - kw (aK A) * r) + 1 by omega, show min (i - kw (aK A) * r) (kw (aK A)) = i - kw (aK A) * r by omega, rwB_s, show kw (aK A) * r + (i - kw (aK A) * r) = i by omega]
    · rw [n2_inj (by omega) (by omega)] at q
      rw [n2_s]
      refine hk _ ?_
      have : ¬ (kw (aK A) * r ≤ i ∧ i < kw (aK A) * r + kw (aK A)) := fun z => q (hdr.mpr z)
      rw [show min (i + 1 - kw (aK A) * r) (kw (aK A)) = min (i - kw (aK A) * r) (kw (aK A)) by omega]
  · intro f a hI
    subst hI
    refine wp_brt (Int32.le_refl _) (wp_some ?_)
    rw [show min (kn (aK A) - kw (aK A) * r) (kw (aK A)) = kw (aK A) by omega]
def bndF (w : Nat) (B : Row) : Nat → Nat → Nat := fun k b => if rwB w B b w < rwB w B (k + 1) w then k + 1 else b
def bndB (w : Nat) (B : Row) (n : Nat) : Nat := it (bndF w B) 0 n
theorem bndB_s (w : Nat) (B : Row) (n : Nat) : bndB w B (n + 1) = bndF w B n (bndB w B n) := rfl
theorem bndB_le (w : Nat) (B : Row) : ∀ n, bndB w B n ≤ n := by
  intro n
  induction n with
  | zero => exact Nat.le_refl 0
  | succ n ih => rw [bndB_s]; unfold bndF; split <;> omega
def bandP (A : St) (n : Int32) : Nat × Int32 := if inR 0 40 n then (0, n2 (bndB (kw (aK A)) (sB (pDays (aK A) (aS A) n.toInt.toNat)) (kh (aK A) - 1))) else (2, 0)
def bandPm (A : St) (n : Int32) : Nat × Int32 := if inR 0 40 n then (0, n2 (bndB (kw (aK A)) (sB (pDays (aK A) (aS A) n.toInt.toNat)) (kh (aK A) - 1))) else (1, 0)
theorem band_c {y : Lay} (hy : LY y) {A : St} {M : Mem} (h : CR A M) (v : VAL A) (n : Int32) : wp (f_X11_band y 1 n M) (OC A (bandP A n) M) := by
  unfold f_X11_band bandP
  rw [gK_t (k_1 hy)]
  have hh1 := v.1.1.2.1
  have hh5 := v.1.1.2.2
  rcases needWithin_s (y := y) (M := M) (a := 0) (b := 40) (by decide) (by decide) n with ⟨u, e⟩ | ⟨u, e⟩
  · have e : f_X11_needWithin y 1 n 0 40 M = some (0, 0, M) := e
    rw [e, cx_s, if_pos u]
    obtain ⟨u1, u2, u3⟩ := inR_n u
    generalize n.toInt.toNat = nn at u1 u2 u3 ⊢
    subst u1
    refine wp_c0 _ (la_c hy h v u3) (fun r M1 q => ?_)
    obtain ⟨q1, q2, T, q3, -, q4⟩ := q
    dsimp only at q1 q2 q4
    have e59 : M1.1 59 = sB (pDays (aK A) (aS A) nn) := by
      have e : M1.1 59 = sB (skV M1 58 59 62 63) := rfl
      rw [e, q4, b_eqo (pDays_eqo q3 nn)]
    simp only [lT_s, jn_s, c0_s, cp_s, cx_s, cx_t, gK_t (k_1 hy), gN_t (r := 1) (by decide), r_1_0 hy, r_1_1 hy, r_1_2 hy, r_1_3 hy, r_1_4 hy, r_1_5 hy, r_1_6 hy, r_1_7 hy, r_1_8 hy, r_1_9 hy, r_1_10 hy, gK_t (k_4 hy), gN_t (r := 4) (by decide), r_4_6 hy, r_4_7 hy, r_4_8 hy, gK_t (k_58 hy), gN_t (r := 58) (by decide), r_58_0 hy, r_58_1 hy, r_58_2 hy, r_58_3 hy, r_58_4 hy, r_58_5 hy, r_58_6 hy, q1.1.1.2.1]
    rw [← e59]
    refine wp_fork (κ := Int32 → Int32 → Option (Nat × Int32 × Mem)) (S := Int32) (fun f j b => f b (n2 (j + 1))) (fun j b => b = n2 (bndB (kw (aK A)) (M1.1 59) j)) (kh (aK A) - 1) (by have : FUEL = 100000 := rfl; omega) (i0 := 0) (s0 := 0) (by omega) rfl ?_ ?_
    · intro f j b hj hI hk
      subst hI
      refine wp_brf (by rw [n2_le (by omega) (by omega)]; omega) ?_
      have hb := bndB_le (kw (aK A)) (M1.1 59) j
      rw [rowBlue_s hy q1 v (show j + 1 < kh (aK A) by omega), cp_s, rowBlue_s hy q1 v (show bndB (kw (aK A)) (M1.1 59) j < kh (aK A) by omega), cp_s]
      rw [bndB_s] at hk
      unfold bndF at hk
      refine wp_br (fun q => ?_) (fun q => ?_)
      · rw [n2_s]
        refine hk _ ?_
        rw [if_neg (by rw [i_lt]; rw [i_le] at q; omega)]
      · rw [n2_s]
        refine hk _ ?_
        rw [if_pos (by rw [i_lt]; rw [i_le] at q; omega)]
    · intro f b hI
      subst hI
      refine wp_brt (by rw [n2_le (by omega) (by omega)]; omega) (OC.ret q1 q2)
  · have e : f_X11_needWithin y 1 n 0 40 M = some (2, 0, M) := e
    rw [e, if_neg u]
    exact OC.thr h (by decide)
theorem band_m {y : Lay} (hy : LY y) {A : St} {M : Mem} (h : MR A M) (v : VAL A) (n : Int32) : wp (f_X12_band y 73 n M) (OM A (bandPm A n) M) := by
  unfold f_X12_band bandPm
  rw [gK_t (k_73 hy)]
  refine OM.start hy h (fun M0 h0 g0 hc0 => ?_)
  have hS0 := h0.sok v
  have h30 := v.1.n30
  have hw6 := v.1.1.1.2
  have hh1 := v.1.1.2.1
  have hh5 := v.1.1.2.2
  rcases isIn_r (y := y) (M := M0) (a := 0) (b := 40) (la := 0) (lb := 40) (by decide) (by decide) n with ⟨u, e⟩ | ⟨u, e⟩
  · rw [e, cp_s, if_pos u]
    refine wp_brf (by decide) ?_
    obtain ⟨u1, u2, u3⟩ := inR_n u
    generalize n.toInt.toNat = nn at u1 u2 u3 ⊢
    subst u1
    simp only [gN_t (r := 93) (by decide), r_73_42 hy]
    refine look_in hy (fun r M1 hL hV => ?_)
    refine wp_c0 _ (lgo_m hy h0 v hL (by rw [hV]; exact hS0) u3) (fun r M2 p => ?_)
    obtain ⟨q1, q2⟩ := p
    dsimp only at q1 q2
    have hS2 : SOK (aK A) (moV M2) := by rw [q2, hV]; exact pDays_ok v.1 hS0 nn
    have e87 : M2.1 87 = sB (pDays (aK A) (aS A) nn) := by
      have e : M2.1 87 = sB (moV M2) := rfl
      rw [e, q2, hV, b_eqo (pDays_eqo h0.2.1.1 nn)]
    have hC2 := q1.com h0.1
    simp only [lT_s, jn_s, c0_s, cp_s, cx_s, cx_t, gN_t (r := 77) (by decide), gN_t (r := 87) (by decide), r_73_5 hy, r_73_28 hy, zc0, zc1, hC2.1.1, hC2.1.2.1]
    rw [← e87]
    have hB : BOK (kn (aK A)) (M2.1 87) := hS2.1.1
    have bnd : ∀ k, (rwB (kw (aK A)) (M2.1 87) k (kw (aK A))).toInt ≥ 0 := fun k => by
      obtain ⟨z, z1, z2⟩ := rwB_n (w := kw (aK A)) hB k (kw (aK A))
      rw [z2, n2_int (by omega)]
      omega
    refine wp_fork (κ := Int32 → Int32 → Int32 → Option (Int32 × Mem)) (S := Int32 × Int32) (fun f j s => f s.1 s.2 (n2 j)) (fun j s => (j = 0 ∧ s = (0, -1)) ∨ (0 < j ∧ s = (n2 (bndB (kw (aK A)) (M2.1 87) (j - 1)), rwB (kw (aK A)) (M2.1 87) (bndB (kw (aK A)) (M2.1 87) (j - 1)) (kw (aK A))))) (kh (aK A)) (by have : FUEL = 100000 := rfl; omega) (i0 := 0) (s0 := (0, -1)) (by omega) (Or.inl ⟨rfl, rfl⟩) ?_ ?_
    · intro f j s hj hI hk
      obtain ⟨b, m⟩ := s
      dsimp only at hk ⊢
      rw [gA_t (k_77 hy) (by decide)]
      refine wp_brf (by rw [n2_le (by omega) (by omega)]; omega) ?_
      have hin : kw (aK A) * j + kw (aK A) ≤ kn (aK A) := by
        have : kw (aK A) * (j + 1) ≤ kw (aK A) * kh (aK A) := Nat.mul_le_mul_left _ hj
        rw [Nat.mul_add, Nat.mul_one] at this
        exact this
      refine wp_for2 (i0 := 0) (kw (aK A)) (fun x a => a = rwB (kw (aK A)) (M2.1 87) j x) (by have : FUEL = 100000 := rfl; omega) rfl (by omega) rfl ?_ ?_
      · intro f2 x a hx hJ hk2
        subst hJ
        rw [gA_t (k_77 hy) (by decide)]
        refine wp_brf (by rw [n2_le (by omega) (by omega)]; omega) ?_
        rw [gA_t (k_77 hy) (by decide), n2_mul, n2_add, gA_n (k_87 hy) (show kw (aK A) * j + x < 30 by omega) (by omega), n2_nat (by omega), n2_s]
        exact hk2 _ rfl
      · intro f2 a hJ
        subst hJ
        rw [gA_t (k_77 hy) (by decide)]
        refine wp_brt (Int32.le_refl _) ?_
        rcases hI with ⟨rfl, hs⟩ | ⟨hj0, hs⟩
        · cases hs
          refine wp_brt ?_ ?_
          · have := bnd 0
            have z : (-1 : Int32).toInt = -1 := by decide
            rw [i_lt, z]
            omega
          · rw [n2_s]
            exact hk (n2 0, _) (Or.inr ⟨by omega, rfl⟩)
        · cases hs
          have hS : bndB (kw (aK A)) (M2.1 87) j = bndF (kw (aK A)) (M2.1 87) (j - 1) (bndB (kw (aK A)) (M2.1 87) (j - 1)) := by
            have := bndB_s (kw (aK A)) (M2.1 87) (j - 1)
            rw [show j - 1 + 1 = j by omega] at this
            exact this
          unfold bndF at hS
          rw [show j - 1 + 1 = j by omega] at hS
          refine wp_br (fun q => ?_) (fun q => ?_)
          · rw [if_pos q] at hS
            rw [n2_s]
            exact hk (n2 j, rwB (kw (aK A)) (M2.1 87) j (kw (aK A))) (Or.inr ⟨by omega, by rw [show j + 1 - 1 = j by omega, hS]⟩)
          · rw [if_neg q] at hS
            rw [n2_s]
            exact hk (n2 (bndB (kw (aK A)) (M2.1 87) (j - 1)), rwB (kw (aK A)) (M2.1 87) (bndB (kw (aK A)) (M2.1 87) (j - 1)) (kw (aK A))) (Or.inr ⟨by omega, by rw [show j + 1 - 1 = j by omega, hS]⟩)
    · intro f s hI
      obtain ⟨b, m⟩ := s
      dsimp only
      rw [gA_t (k_77 hy) (by decide)]
      refine wp_brt (Int32.le_refl _) ?_
      refine look_out hy h0 v g0 hc0 q1 hS2 (fun _ N n1 n2 n3 _ => OM.ret' ?_ n1 n2 n3)
      rcases hI with ⟨hz, -⟩ | ⟨-, hs⟩
      · omega
      · cases hs; rfl
  · rw [e, cp_s, if_neg u]
    exact wp_brt rfl (OM.fail hy rfl (by decide) h0 g0)
/-! streak -/
def okR (w : Nat) (B : Row) (c : Nat) : Nat → Bool := fun k => decide (c % w + (k + 1) < w ∧ B (c + (k + 1)) = B c)
def runO (w : Nat) (B : Row) (c : Nat) : Option Nat := fst (fun k => !(okR w B c k)) 6
def runN (w : Nat) (B : Row) (c : Nat) : Int32 := match runO w B c with
  | none => 7
  | some k => n2 (k + 1)
theorem not_ok {b : Bool} : ((!b) = true) ↔ ¬ b = true := by cases b <;> simp
theorem run_some {w : Nat} {B : Row} {c k : Nat} (h : fst (fun k => !(okR w B c k)) k = none) (hk : k < 6) (q : ¬ okR w B c k = true) : runN w B c = n2 (k + 1) := by
  unfold runN runO
  rw [fst_yes h (not_ok.mpr q) 6 hk]
theorem run_go {w : Nat} {B : Row} {c k : Nat} (h : fst (fun k => !(okR w B c k)) k = none) (q : okR w B c k = true) : fst (fun k => !(okR w B c k)) (k + 1) = none := fst_no h (fun z => not_ok.mp z q)
theorem rowmod {w : Nat} (hw : 0 < w) (c m : Nat) : (c + m) / w = c / w ↔ c % w + m < w := by
  rw [div_row hw]
  have e := Nat.div_add_mod c w
  constructor
  · intro ⟨_, h2⟩; omega
  · intro h; omega
theorem runFrom_s {y : Lay} (hy : LY y) {A : St} {M : Mem} (h : CR A M) (v : VAL A) {c : Nat} (hc : c < kn (aK A)) : f_X8_runFrom y 37 (n2 c) M = some (runN (kw (aK A)) (sB (aS A)) c) := by
  unfold f_X8_runFrom
  have h30 := v.1.n30
  have hw := v.1.1.1.1
  have hw6 := v.1.1.1.2
  have g := h.1.geo v.1
  simp only [lT_s, jn_s, c0_s, cp_s, cx_s, cx_t, gK_t (k_37 hy), gN_t (r := 37) (by decide), r_37_0 hy, r_37_1 hy, r_37_2 hy, r_37_3 hy, r_37_4 hy, r_37_5 hy, r_37_6 hy, gK_t (k_4 hy), gN_t (r := 4) (by decide), r_4_6 hy, r_4_7 hy, r_4_8 hy, cells_4 hy g, n2_s]
  refine wp_eq ?_
  refine wp_fork (κ := Int32 → Int32 → Option Int32) (S := Unit) (fun f k _ => f (n2 (k + 1)) (n2 (c + (k + 1)))) (fun k _ => fst (fun k => !(okR (kw (aK A)) (sB (aS A)) c k)) k = none) 6 (by decide) (i0 := 0) (s0 := ()) (by decide) rfl ?_ ?_
  · intro f k _ hk6 hI hk
    have stop : (¬ c % kw (aK A) + (k + 1) < kw (aK A) ∨ ¬ sB (aS A) (c + (k + 1)) = sB (aS A) c) → wp (some (n2 (k + 1))) (fun r => r = runN (kw (aK A)) (sB (aS A)) c) := fun q => by
      refine wp_some ?_
      rw [run_some hI hk6 (fun z => by
        have := of_decide_eq_true z
        rcases q with q | q
        · exact q this.1
        · exact q this.2)]
    refine wp_br (fun q => stop (Or.inl (fun z => ?_))) (fun q => ?_)
    · have q : n2 (kn (aK A)) ≤ n2 (c + (k + 1)) := q
      rw [n2_le (by omega) (by omega)] at q
      have h2 : c / kw (aK A) < kh (aK A) := by
        rw [Nat.div_lt_iff_lt_mul hw, Nat.mul_comm]; exact hc
      have e := Nat.div_add_mod c (kw (aK A))
      have : kw (aK A) * (c / kw (aK A) + 1) ≤ kw (aK A) * kh (aK A) := Nat.mul_le_mul_left _ h2
      rw [Nat.mul_add, Nat.mul_one] at this
      have : kw (aK A) * kh (aK A) = kn (aK A) := rfl
      omega
    · have q : ¬ n2 (kn (aK A)) ≤ n2 (c + (k + 1)) := q
      rw [n2_le (by omega) (by omega)] at q
      have d1 : (c + (k + 1)) / kw (aK A) ≤ c + (k + 1) := Nat.div_le_self _ _
      have d2 : c / kw (aK A) ≤ c := Nat.div_le_self _ _
      rw [rowOf_4 hy g (show c + (k + 1) < 64 by omega), cp_s, rowOf_4 hy g (show c < 64 by omega), cp_s]
      refine wp_br (fun q2 => ?_) (fun q2 => ?_)
      · rw [n2_inj (by omega) (by omega), rowmod hw] at q2
        rw [blueOf_37 hy (show c + (k + 1) < 30 by omega), cp_s, blueOf_37 hy (show c < 30 by omega), cp_s, h.v.1.1]
        refine wp_br (fun q3 => ?_) (fun q3 => stop (Or.inr q3))
        rw [n2_s, n2_s]
        exact hk () (run_go hI (decide_eq_true ⟨q2, q3⟩))
      · rw [n2_inj (by omega) (by omega), rowmod hw] at q2
        exact stop (Or.inl q2)
  · intro f _ hI
    exfalso
    have h5 : fst (fun k => !(okR (kw (aK A)) (sB (aS A)) c k)) 6 = none := hI
    rw [fst_s] at h5
    split at h5
    · cases h5
    · have : okR (kw (aK A)) (sB (aS A)) c 5 = false := decide_eq_false (fun z => by omega)
      rw [if_pos (by rw [this]; rfl)] at h5
      cases h5
theorem streakFrom_s {y : Lay} (hy : LY y) {A : St} {M : Mem} (h : MR A M) (v : VAL A) {c : Nat} (hc : c < kn (aK A)) : f_X12_streakFrom y 73 (n2 c) M = some (runN (kw (aK A)) (sB (aS A)) c) := by
  unfold f_X12_streakFrom
  have h30 := v.1.n30
  have hw := v.1.1.1.1
  have hw6 := v.1.1.1.2
  have g := h.1.geo v.1
  have m2 : c % kw (aK A) ≤ c := Nat.mod_le _ _
  simp only [lT_s, jn_s, c0_s, cp_s, cx_s, cx_t, gK_t (k_73 hy), gN_t (r := 73) (by decide), r_73_0 hy, r_73_1 hy, r_73_2 hy, r_73_5 hy, r_73_6 hy, r_73_7 hy, r_73_8 hy, r_73_9 hy, r_73_10 hy, r_73_11 hy, r_73_12 hy, r_73_13 hy, r_73_14 hy, r_73_28 hy, r_73_29 hy, r_73_30 hy, r_73_38 hy, r_73_39 hy, r_73_40 hy, r_73_42 hy, r_73_43 hy, r_73_44 hy, r_73_45 hy, r_73_46 hy, r_73_47 hy, r_73_48 hy, r_73_49 hy, r_73_50 hy, r_73_51 hy, r_73_53 hy, r_73_58 hy, r_73_59 hy, r_73_60 hy, r_73_61 hy, r_73_62 hy, r_73_63 hy, gN_t (r := 77) (by decide), gN_t (r := 87) (by decide), columnM hy g (show c < 64 by omega), zc0, h.1.1.1]
  refine wp_eq ?_
  refine wp_fork (κ := Int32 → Option Int32) (S := Unit) (fun f k _ => f (n2 (k + 1))) (fun k _ => fst (fun k => !(okR (kw (aK A)) (sB (aS A)) c k)) k = none) 6 (by decide) (i0 := 0) (s0 := ()) (by decide) rfl ?_ ?_
  · intro f k _ hk6 hI hk
    have stop : (¬ c % kw (aK A) + (k + 1) < kw (aK A) ∨ ¬ sB (aS A) (c + (k + 1)) = sB (aS A) c) → wp (some (n2 (k + 1))) (fun r => r = runN (kw (aK A)) (sB (aS A)) c) := fun q => by
      refine wp_some ?_
      rw [run_some hI hk6 (fun z => by
        have := of_decide_eq_true z
        rcases q with q | q
        · exact q this.1
        · exact q this.2)]
    rw [gA_t (k_77 hy) (by decide), n2_add, n2_add]
    refine wp_br (fun q => ?_) (fun q => ?_)
    · rw [n2_le (by omega) (by omega)] at q
      exact stop (Or.inl (by omega))
    · rw [n2_le (by omega) (by omega)] at q
      have hin : c + (k + 1) < kn (aK A) := by
        have h2 : c / kw (aK A) < kh (aK A) := by
          rw [Nat.div_lt_iff_lt_mul hw, Nat.mul_comm]; exact hc
        have e := Nat.div_add_mod c (kw (aK A))
        have : kw (aK A) * (c / kw (aK A) + 1) ≤ kw (aK A) * kh (aK A) := Nat.mul_le_mul_left _ h2
        rw [Nat.mul_add, Nat.mul_one] at this
        have : kw (aK A) * kh (aK A) = kn (aK A) := rfl
        omega
      rw [gA_n (k_87 hy) (show c + (k + 1) < 30 by omega) (by omega), gA_n (k_87 hy) (show c < 30 by omega) (by omega), n2_nat (show c + (k + 1) < 2147483648 by omega), n2_nat (show c < 2147483648 by omega), h.v.1.1]
      refine wp_br (fun q3 => ?_) (fun q3 => stop (Or.inr q3))
      rw [n2_s]
      exact hk () (run_go hI (decide_eq_true ⟨by omega, q3⟩))
  · intro f _ hI
    exfalso
    have h5 : fst (fun k => !(okR (kw (aK A)) (sB (aS A)) c k)) 6 = none := hI
    rw [fst_s] at h5
    split at h5
    · cases h5
    · have : okR (kw (aK A)) (sB (aS A)) c 5 = false := decide_eq_false (fun z => by omega)
      rw [if_pos (by rw [this]; rfl)] at h5
      cases h5
def skF (w : Nat) (B : Row) : Nat → Nat → Nat := fun k b => if runN w B (k + 1) ≤ runN w B b then b else k + 1
def skB (w : Nat) (B : Row) (n : Nat) : Nat := it (skF w B) 0 n
theorem skB_s (w : Nat) (B : Row) (n : Nat) : skB w B (n + 1) = skF w B n (skB w B n) := rfl
theorem skB_le (w : Nat) (B : Row) : ∀ n, skB w B n ≤ n := by
  intro n
  induction n with
  | zero => exact Nat.le_refl 0
  | succ n ih => rw [skB_s]; unfold skF; split <;> omega
theorem runN_pos (w : Nat) (B : Row) (c : Nat) : 0 < (runN w B c).toInt := by
  unfold runN
  have hlt : ∀ n k, fst (fun k => !(okR w B c k)) n = some k → k < n := by
    intro n
    induction n with
    | zero => intro k h; cases h
    | succ n ih =>
      intro k h
      rw [fst_s] at h
      split at h
      · rename_i j hj
        cases h; have := ih _ hj; omega
      · split at h
        · cases h; omega
        · cases h
  split
  · decide
  · rename_i k hk
    have := hlt 6 k hk
    rw [n2_int (by omega)]; omega
def strkP (A : St) (w : Int32) : Nat × Int32 := if inR 0 1 w then (0, if w = 0 then runN (kw (aK A)) (sB (aS A)) (skB (kw (aK A)) (sB (aS A)) (kn (aK A) - 1)) else n2 (skB (kw (aK A)) (sB (aS A)) (kn (aK A) - 1))) else (1, 0)
theorem streak_c {y : Lay} (hy : LY y) {A : St} {M : Mem} (h : CR A M) (v : VAL A) (w : Int32) : wp (f_X11_streak y 1 w M) (OC A (strkP A w) M) := by
  unfold f_X11_streak strkP
  rw [gK_t (k_1 hy)]
  have h30 := v.1.n30
  have h1 := v.1.n1
  rcases needWhat_s (y := y) (M := M) (m := 1) (by decide) w with ⟨q, e⟩ | ⟨q, e⟩
  · have e : f_X11_needWhat y 1 w 1 M = some (0, 0, M) := e
    have qq : inR 0 1 w := ⟨q.1, by have := q.2; omega⟩
    rw [e, cx_s, if_pos qq]
    simp only [lT_s, jn_s, c0_s, cp_s, cx_s, cx_t, gK_t (k_1 hy), gN_t (r := 1) (by decide), r_1_0 hy, r_1_1 hy, r_1_2 hy, r_1_3 hy, r_1_4 hy, r_1_5 hy, r_1_6 hy, r_1_7 hy, r_1_8 hy, r_1_9 hy, r_1_10 hy, gK_t (k_4 hy), gN_t (r := 4) (by decide), r_4_6 hy, r_4_7 hy, r_4_8 hy, gK_t (k_30 hy), gN_t (r := 30) (by decide), r_30_0 hy, r_30_1 hy, r_30_2 hy, r_30_3 hy, r_30_4 hy, r_30_5 hy, gK_t (k_37 hy), gN_t (r := 37) (by decide), r_37_0 hy, r_37_1 hy, r_37_2 hy, r_37_3 hy, r_37_4 hy, r_37_5 hy, r_37_6 hy, cells_4 hy (h.1.geo v.1)]
    refine wp_for3 (i0 := 0) (kn (aK A)) (fun i a b => (i = 0 ∧ a = 0 ∧ b = 0) ∨ (0 < i ∧ a = runN (kw (aK A)) (sB (aS A)) (skB (kw (aK A)) (sB (aS A)) (i - 1)) ∧ b = n2 (skB (kw (aK A)) (sB (aS A)) (i - 1)))) (by have : FUEL = 100000 := rfl; omega) rfl (by omega) (Or.inl ⟨rfl, rfl, rfl⟩) ?_ ?_
    · intro f i a b hi hI hk
      refine wp_brf (by show ¬ n2 (kn (aK A)) ≤ n2 i; rw [n2_le (by omega) (by omega)]; omega) ?_
      rw [runFrom_s hy h v hi, cp_s]
      rcases hI with ⟨rfl, rfl, rfl⟩ | ⟨i0, rfl, rfl⟩
      · refine wp_brf ?_ ?_
        · have := runN_pos (kw (aK A)) (sB (aS A)) 0
          have z : (0 : Int32).toInt = 0 := by decide
          rw [i_le, z]
          omega
        · rw [n2_s]
          exact hk _ _ (Or.inr ⟨by omega, rfl, rfl⟩)
      · have hS : skB (kw (aK A)) (sB (aS A)) i = skF (kw (aK A)) (sB (aS A)) (i - 1) (skB (kw (aK A)) (sB (aS A)) (i - 1)) := by
          have := skB_s (kw (aK A)) (sB (aS A)) (i - 1)
          rw [show i - 1 + 1 = i by omega] at this
          exact this
        unfold skF at hS
        rw [show i - 1 + 1 = i by omega] at hS
        refine wp_br (fun q => ?_) (fun q => ?_)
        · rw [if_pos q] at hS
          rw [n2_s]
          exact hk _ _ (Or.inr ⟨by omega, by rw [show i + 1 - 1 = i by omega, hS], by rw [show i + 1 - 1 = i by omega, hS]⟩)
        · rw [if_neg q] at hS
          rw [n2_s]
          exact hk _ _ (Or.inr ⟨by omega, by rw [show i + 1 - 1 = i by omega, hS], by rw [show i + 1 - 1 = i by omega, hS]⟩)
    · intro f a b hI
      refine wp_brt (Int32.le_refl _) ?_
      rcases hI with ⟨hz, -⟩ | ⟨-, rfl, rfl⟩
      · have : kn (aK A) = 0 := hz
        omega
      · refine wp_br (fun q => OC.ret' (by rw [if_pos q]) h (kM.refl M)) (fun q => OC.ret' (by rw [if_neg q]) h (kM.refl M))
  · have e : f_X11_needWhat y 1 w 1 M = some (1, 0, M) := e
    have qq : ¬ inR 0 1 w := fun z => q ⟨z.1, by have := z.2; omega⟩
    rw [e, if_neg qq]
    exact OC.thr h (by decide)
theorem streak_m {y : Lay} (hy : LY y) {A : St} {M : Mem} (h : MR A M) (v : VAL A) (w : Int32) : wp (f_X12_streak y 73 w M) (OM A (strkP A w) M) := by
  unfold f_X12_streak strkP
  rw [gK_t (k_73 hy)]
  have h30 := v.1.n30
  have h1 := v.1.n1
  refine OM.start hy h (fun M0 h0 g0 hc0 => ?_)
  simp only [lT_s, jn_s, c0_s, cp_s, cx_s, cx_t]
  have z0 : (0 : Int32).toInt = 0 := by decide
  have z1 : (1 : Int32).toInt = 1 := by decide
  refine wp_br (fun q => ?_) (fun q => wp_br (fun q2 => ?_) (fun q2 => ?_))
  · rw [if_neg (fun z => by rw [i_lt, z0] at q; have := z.1; omega)]
    exact OM.fail hy rfl (by decide) h0 g0
  · have qq : inR 0 1 w := ⟨by rw [i_lt, z0] at q; omega, by rw [i_le, z1] at q2; omega⟩
    rw [if_pos qq]
    simp only [cellsG hy (h0.1.geo v.1)]
    refine wp_fork (κ := Int32 → Int32 → Option (Int32 × Mem)) (S := Int32) (fun f j b => f b (n2 (j + 1))) (fun j b => b = n2 (skB (kw (aK A)) (sB (aS A)) j)) (kn (aK A) - 1) (by have : FUEL = 100000 := rfl; omega) (i0 := 0) (s0 := 0) (by omega) rfl ?_ ?_
    · intro f j b hj hI hk
      subst hI
      refine wp_brf (by show ¬ n2 (kn (aK A)) ≤ _; rw [n2_le (by omega) (by omega)]; omega) ?_
      have hb := skB_le (kw (aK A)) (sB (aS A)) j
      rw [streakFrom_s hy h0 v (show j + 1 < kn (aK A) by omega), cp_s, streakFrom_s hy h0 v (show skB (kw (aK A)) (sB (aS A)) j < kn (aK A) by omega), cp_s]
      rw [skB_s] at hk
      unfold skF at hk
      refine wp_br (fun q => ?_) (fun q => ?_)
      · rw [n2_s]
        exact hk _ (by rw [if_pos q])
      · rw [n2_s]
        exact hk _ (by rw [if_neg q])
    · intro f b hI
      subst hI
      have hb := skB_le (kw (aK A)) (sB (aS A)) (kn (aK A) - 1)
      refine wp_brt (by show n2 (kn (aK A)) ≤ _; rw [n2_le (by omega) (by omega)]; omega) ?_
      refine wp_br (fun q => ?_) (fun q => OM.ret' (by rw [if_neg q]) h0 g0 hc0)
      rw [streakFrom_s hy h0 v (show skB (kw (aK A)) (sB (aS A)) (kn (aK A) - 1) < kn (aK A) by omega), cp_s]
      exact OM.ret' (by rw [if_pos q]) h0 g0 hc0
  · rw [if_neg (fun z => by rw [i_le, z1] at q2; have := z.2; omega)]
    exact OM.fail hy rfl (by decide) h0 g0
