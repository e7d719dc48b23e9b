/-! ===== cells told ===== -/
theorem wp_lc {α β : Type} {Q : α → β → Prop} {X : Option α} {Z : Option β} (h : wp X (fun a => wp Z (fun b => Q a b))) : J X Z Q := by
  obtain ⟨a, e, b, f, h⟩ := h
  exact ⟨a, b, e, f, h⟩
theorem bt_0n {x : Int32} {c : Nat} (h : ¬ bt x c = 1) : bt x c = 0 := (bt01 x c).resolve_right h
theorem CS.any {T : Tx} {p : Nat} {D : Dr} {M0 M : Mem} (h : CS T p D M0 M) : CS T p (dAu D) M0 (sr M 12 (up (M.1 12) 6 1)) := by
  refine h.upd (by decide) ?_
  obtain ⟨a, b, c, d, e, f⟩ := h.2.2.1
  exact ⟨a, b, c, by rw [sr_ap, up_ne (by decide)]; exact d, by rw [sr_ap, up_ne (by decide)]; exact e, by rw [sr_ap, up_eq]; rfl⟩
theorem MS.any {T : Tx} {p : Nat} {D : Dr} {N0 N : Mem} (h : MS T p D N0 N) : MS T p (dAu D) N0 (sr N 73 (up (N.1 73) 26 1)) := by
  refine h.upd (by decide) ?_
  obtain ⟨a, b, c, d, e, f⟩ := h.2.2.1
  exact ⟨a, b, c, d, by rw [sr_ap, up_ne (by decide)]; exact e, by rw [sr_ap, up_eq]; rfl⟩
theorem DV.any {D : Dr} (h : DV D) : DV (dAu D) := ⟨h.1, h.2.1, h.2.2.1, h.2.2.2.1, h.2.2.2.2.1, fun z => by exact absurd z (by show ¬ true = false; decide)⟩
/-- the fault of a cell told -/
def clR (T : Tx) (p n : Nat) (tk : Int32) : Nat := if nmR T p 0 9999 = 0 then (if tV T p < n then (if bt tk (tV T p) = 1 then 4 else 0) else 3) else nmR T p 0 9999
theorem clR_le (T : Tx) (p n : Nat) (tk : Int32) : clR T p n tk = 0 ∨ clR T p n tk = 1 ∨ clR T p n tk = 2 ∨ clR T p n tk = 3 ∨ clR T p n tk = 4 := by
  unfold clR
  have := nmR_le T p 0 9999
  split
  · split
    · split
      · omega
      · omega
    · omega
  · omega
theorem readCell_c {y : Lay} (hy : LY y) {T : Tx} (hT : TOK T) {p : Nat} {D : Dr} {M0 M : Mem} (h : CS T p D M0 M) (hD : DV D) (tk : Int32) : wp (f_X2_readCell y 12 tk M) (fun o => if clR T p (kn (dK D)) tk = 0 then o.1 = n2 (tV T p) ∧ CS T (tE T p) (dAu D) M0 o.2 else o = (-1, rfC M (n2 (clR T p (kn (dK D)) tk)) (M.1 28 3))) := by
  have tc := h.1
  have hp := tc.2.1
  have h30 := hD.1.1.n30
  obtain ⟨e1, e2⟩ := tE_sp hT hp
  have h7 := hT.1
  have hw : ∀ f : Nat, 1 ≤ f → f ≤ 4 → clR T p (kn (dK D)) tk = f → wp (c0 (f_X2_refuseNumber y 12 (n2 f) M) fun (r9 : Int32) (M10 : Mem) => some (r9, M10)) (fun o => if clR T p (kn (dK D)) tk = 0 then o.1 = n2 (tV T p) ∧ CS T (tE T p) (dAu D) M0 o.2 else o = (-1, rfC M (n2 (clR T p (kn (dK D)) tk)) (M.1 28 3))) := by
    intro f hf hf2 e
    rw [refuseNumber_c hy h.2.1, c0_s]
    refine wp_some ?_
    rw [if_neg (by omega), e]
  unfold f_X2_readCell
  rw [gK_t (k_12 hy), r_12_0 hy, gN_t (by decide), gK_t (k_28 hy), tc.2.2.2.1]
  refine wp_br (fun w => ?_) (fun w => ?_)
  · have k2 := (kCl_k hT hp).2.2.mp w
    refine wp_lt ?_
    rw [isTooLong_c hy hT tc k2, cp_s]
    refine wp_br (fun w2 => ?_) (fun w2 => ?_)
    · rw [b01_0, decide_eq_true_eq] at w2
      have hv := tV_lt hT hp k2 (by omega)
      have n0 : nmR T p 0 9999 = 0 := by unfold nmR; rw [if_pos k2, if_neg (by omega)]
      rw [tc.2.2.2.2 k2 (by omega), r_12_2 hy, gN_t (by decide), gK_t (k_13 hy), cells_g (k_13 hy), cp_s, h.2.2.1.1.1, h.2.2.1.1.2.1, n2_mul]
      refine wp_br (fun w3 => ?_) (fun w3 => ?_)
      · rw [n2_lt (by omega) (by have : kw (dK D) * kh (dK D) ≤ 30 := h30; omega)] at w3
        refine wp_br (fun w4 => wp_lt ?_) (fun w4 => ?_)
        · have w4 : bt tk (tV T p) = 0 := w4
          rw [wI_sr]
          refine wp_c0 _ (h.any.adv hy hT) (fun r M1 q => wp_some ?_)
          rw [if_pos (by unfold clR; rw [if_pos n0, if_pos w3, if_neg (by rw [w4]; decide)])]
          exact ⟨rfl, q⟩
        · have w4 : bt tk (tV T p) = 1 := (bt01 tk (tV T p)).resolve_left w4
          exact hw 4 (by omega) (by omega) (by unfold clR; rw [if_pos n0, if_pos w3, if_pos w4])
      · rw [n2_lt (by omega) (by have : kw (dK D) * kh (dK D) ≤ 30 := h30; omega)] at w3
        exact hw 3 (by omega) (by omega) (by unfold clR; rw [if_pos n0, if_neg w3])
    · rw [b01_0, decide_eq_true_eq] at w2
      have n0 : nmR T p 0 9999 = 2 := by unfold nmR; rw [if_pos k2, if_pos (Or.inl (by omega))]
      exact hw 2 (by omega) (by omega) (by unfold clR; rw [if_neg (by omega), n0])
  · have n0 : nmR T p 0 9999 = 1 := by unfold nmR; rw [if_neg (fun z => w ((kCl_k hT hp).2.2.mpr z))]
    exact hw 1 (by omega) (by omega) (by unfold clR; rw [if_neg (by omega), n0])
theorem cellNow_m {y : Lay} (hy : LY y) {T : Tx} (hT : TOK T) {p : Nat} {D : Dr} {N0 N : Mem} (h : MS T p D N0 N) (hD : DV D) (tk : Int32) : f_X12_cellNow y 73 tk N = some (if clR T p (kn (dK D)) tk = 0 then (n2 (tV T p), sr N 73 (up (N.1 73) 26 1)) else (0, sr (rfM N (n2 (clR T p (kn (dK D)) tk)) (N.1 73 20)) 73 (up ((rfM N (n2 (clR T p (kn (dK D)) tk)) (N.1 73 20)).1 73) 26 1))) := by
  have tm := h.1
  have hp := tm.2.1
  have h30 := hD.1.1.n30
  have h7 := hT.1
  have nb : ∀ f : Nat, 1 ≤ f → f ≤ 4 → ¬ (rfM N (n2 f) (N.1 73 20)).1 73 22 = 0 := fun f h1 h2 => rfM_22 (by omega)
  have nb2 : ∀ f : Nat, 1 ≤ f → f ≤ 4 → ¬ (sr (rfM N (n2 f) (N.1 73 20)) 73 (up ((rfM N (n2 f) (N.1 73 20)).1 73) 26 1)).1 73 22 = 0 := fun f h1 h2 => by rw [sr_ap, up_ne (by decide)]; exact nb f h1 h2
  have fin : ∀ (f : Nat) (r2 : Int32), 1 ≤ f → f ≤ 4 → clR T p (kn (dK D)) tk = f → wp (lt (wI (rfM N (n2 f) (N.1 73 20)) 73 26 (1 : Int32)) fun (M8 : Mem) => jn (fun (v9 : Int32) => some (v9, M8)) fun j10 => br ((M8.1 73 22) = 0) (j10 r2) (j10 (0 : Int32))) (fun z => z = (if clR T p (kn (dK D)) tk = 0 then (n2 (tV T p), sr N 73 (up (N.1 73) 26 1)) else (0, sr (rfM N (n2 (clR T p (kn (dK D)) tk)) (N.1 73 20)) 73 (up ((rfM N (n2 (clR T p (kn (dK D)) tk)) (N.1 73 20)).1 73) 26 1)))) := by
    intro f r2 h1 h2 e
    refine wp_lt ?_
    rw [wI_sr]
    refine wp_jn (wp_brf (nb2 f h1 h2) (wp_some ?_))
    rw [e, if_neg (by omega)]
  refine wp_eq ?_
  unfold f_X12_cellNow
  rw [gK_t (k_73 hy), show (0 : Int32) = n2 0 from rfl, show (9999 : Int32) = n2 9999 from rfl, numberNow_m hy hT tm h.2.1 (by decide) (by decide)]
  by_cases n0 : nmR T p 0 9999 = 0
  · obtain ⟨k2, l4, -, -⟩ := nmR_0 n0
    have hv := tV_lt hT hp k2 l4
    rw [if_pos n0, c0_s]
    refine wp_jn (wp_brt h.2.1 ?_)
    rw [r_73_5 hy, gN_t (by decide), gA_t (k_77 hy) (by decide), gA_t (k_77 hy) (by decide)]
    have e9 : N.1 77 (9 : Int32).toNatClampNeg * N.1 77 (10 : Int32).toNatClampNeg = n2 (kn (dK D)) := by
      show N.1 77 9 * N.1 77 10 = _
      rw [h.2.2.1.1.1, h.2.2.1.1.2.1, n2_mul]
    rw [e9]
    by_cases w3 : tV T p < kn (dK D)
    · refine wp_brt (by rw [n2_lt (by omega) (by omega)]; exact w3) (wp_jn (wp_brt h.2.1 ?_))
      rw [isOf_s, cp_s]
      by_cases w4 : bt tk (tV T p) = 1
      · rw [if_pos w4]
        refine wp_brf (by decide) ?_
        rw [wrong_m hy h.2.1, c0_s]
        exact fin 4 (n2 (tV T p)) (by omega) (by omega) (by unfold clR; rw [if_pos n0, if_pos w3, if_pos w4])
      · rw [if_neg w4]
        refine wp_brt rfl (wp_lt ?_)
        rw [wI_sr]
        refine wp_jn (wp_brt ?_ (wp_some ?_))
        · rw [sr_ap, up_ne (by decide)]; exact h.2.1
        · have e : clR T p (kn (dK D)) tk = 0 := by unfold clR; rw [if_pos n0, if_pos w3, if_neg w4]
          rw [if_pos e]
    · refine wp_brf (by rw [n2_lt (by omega) (by omega)]; exact w3) ?_
      rw [wrong_m hy h.2.1, c0_s]
      refine wp_jn (wp_brf (nb 3 (by omega) (by omega)) ?_)
      exact fin 3 (n2 (tV T p)) (by omega) (by omega) (by unfold clR; rw [if_pos n0, if_neg w3])
  · have hle := nmR_le T p 0 9999
    rw [if_neg n0, c0_s]
    refine wp_jn (wp_brf (nb _ (by omega) (by omega)) (wp_jn (wp_brf (nb _ (by omega) (by omega)) ?_)))
    exact fin _ 0 (by omega) (by omega) (by unfold clR; rw [if_neg n0])
theorem cell_J {y : Lay} (hy : LY y) {T : Tx} (hT : TOK T) {p : Nat} {D : Dr} {M0 N0 M N : Mem} (h : CS T p D M0 M) (g : MS T p D N0 N) (hD : DV D) (tk : Int32) : J (f_X2_readCell y 12 tk M) (f_X12_cellNow y 73 tk N) (fun u v => (∃ c, (c < kn (dK D) ∧ bt tk c = 0) ∧ (u.1 = n2 c ∧ v.1 = n2 c) ∧ (p < tE T p ∧ tE T p ≤ T.2) ∧ CS T (tE T p) (dAu D) M0 u.2 ∧ MS T p (dAu D) N0 v.2) ∨ (u.1 = -1 ∧ v.1 = 0 ∧ LF M0 N0 u.2 v.2)) := by
  obtain ⟨o, e1, e2⟩ := readCell_c hy hT h hD tk
  refine ⟨o, _, e1, cellNow_m hy hT g hD tk, ?_⟩
  by_cases q : clR T p (kn (dK D)) tk = 0
  · rw [if_pos q] at e2 ⊢
    have q0 := q
    unfold clR at q
    by_cases n0 : nmR T p 0 9999 = 0
    · rw [if_pos n0] at q
      by_cases w3 : tV T p < kn (dK D)
      · rw [if_pos w3] at q
        by_cases w4 : bt tk (tV T p) = 1
        · rw [if_pos w4] at q; exact absurd q (by decide)
        · exact Or.inl ⟨tV T p, ⟨w3, bt_0n w4⟩, ⟨e2.1, rfl⟩, ⟨tE_gt hT h.1.2.1 (by rw [(nmR_0 n0).1]; decide), (tE_sp hT h.1.2.1).2⟩, e2.2, g.any⟩
      · rw [if_neg w3] at q; exact absurd q (by decide)
    · rw [if_neg n0] at q; exact absurd q n0
  · rw [if_neg q] at e2 ⊢
    rw [e2]
    have hle := clR_le T p (kn (dK D)) tk
    refine Or.inr ⟨rfl, rfl, (LF.mk h g ?_).upd (by decide)⟩
    rcases hle with z | z | z | z | z
    · exact absurd z q
    all_goals rw [z]; decide
