/-! ===== the model's beginning; both loops over the lines ===== -/
theorem J_wp {α β : Type} {Q : α → β → Prop} {X : Option α} {Z : Option β} (h : J X Z Q) : wp X (fun a => wp Z (fun b => Q a b)) := by
  obtain ⟨a, b, e, f, h⟩ := h
  exact ⟨a, e, b, f, h⟩
theorem J_wp' {α β : Type} {Q : α → β → Prop} {X : Option α} {Z : Option β} (h : J X Z Q) : wp Z (fun b => wp X (fun a => Q a b)) := by
  obtain ⟨a, b, e, f, h⟩ := h
  exact ⟨b, f, a, e, h⟩
theorem wp_rc {α β : Type} {Q : α → β → Prop} {X : Option α} {Z : Option β} (h : wp Z (fun b => wp X (fun a => Q a b))) : J X Z Q := by
  obtain ⟨b, f, a, e, h⟩ := h
  exact ⟨a, b, e, f, h⟩
theorem J_fixm {α β κ1 κ2 A : Type} {Q : α → β → Prop} {b1 : κ1} {b2 : κ2} {F : κ1 → κ1} {G : κ2 → κ2} (ap1 : κ1 → A → Option α) (ap2 : κ2 → A → Option β) (I : A → Prop) (mu : A → Nat) (hs : ∀ f g a, I a → (∀ b, I b → mu b < mu a → J (ap1 f b) (ap2 g b) Q) → J (ap1 (F f) a) (ap2 (G g) a) Q) (n : Nat) : ∀ a, I a → mu a < n → J (ap1 (fixN b1 F n) a) (ap2 (fixN b2 G n) a) Q := by
  induction n with
  | zero => intro a _ h; exact absurd h (Nat.not_lt_zero _)
  | succ n ih =>
    intro a ha hm
    exact hs _ _ a ha (fun b hb hlt => ih b hb (by omega))
theorem begin_m {y : Lay} (hy : LY y) {N : Mem} : wp (f_X12_begin y 73 9 N) (fun o => (∀ p, ¬ p = 77 → o.2.1 p = N.1 p) ∧ (∀ f, f < 9 → o.2.1 77 f = N.1 77 f) ∧ o.2.1 77 9 = 3 ∧ o.2.1 77 10 = 3 ∧ o.2.1 77 11 = 0 ∧ o.2.1 77 12 = 20 ∧ o.2.1 77 13 = 2 ∧ o.2.1 77 14 = 60 ∧ o.2.1 77 15 = 0 ∧ o.2.1 77 16 = 0 ∧ o.2.1 77 17 = 0) := by
  unfold f_X12_begin
  rw [gK_t (k_73 hy), r_73_5 hy, gN_t (by decide), gA_t (k_77 hy) (by decide)]
  refine wp_lt ?_
  rw [gA_t (k_77 hy) (by decide)]
  refine wp_lt ?_
  rw [gA_t (k_77 hy) (by decide)]
  refine wp_lt ?_
  rw [gA_t (k_77 hy) (by decide)]
  refine wp_lt ?_
  rw [gA_t (k_77 hy) (by decide)]
  refine wp_lt ?_
  rw [gA_t (k_77 hy) (by decide)]
  refine wp_lt ?_
  simp only [wI_sr, sr_ap, sr_sr]
  refine wp_for 9 (fun i s => 6 ≤ i ∧ (∀ p, ¬ p = 77 → s.1 p = N.1 p) ∧ (∀ f, f < 9 → s.1 77 f = N.1 77 f) ∧ (s.1 77 9 = 3 ∧ s.1 77 10 = 3 ∧ s.1 77 11 = 0 ∧ s.1 77 12 = 20 ∧ s.1 77 13 = 2 ∧ s.1 77 14 = 60) ∧ ∀ k, 6 ≤ k → k < i → s.1 77 (9 + k) = 0) (by decide) (i0 := 6) rfl (by decide) ⟨Nat.le_refl 6, fun p hp => sr_ne hp, fun f hf => ?_, ⟨by rw [sr_ap]; rfl, by rw [sr_ap]; rfl, by rw [sr_ap]; rfl, by rw [sr_ap]; rfl, by rw [sr_ap]; rfl, by rw [sr_ap]; rfl⟩, fun k h1 h2 => by omega⟩ ?_ ?_
  · rw [sr_ap]
    show up (up (up (up (up (up (N.1 77) 9 3) 10 3) 11 0) 12 20) 13 2) 14 60 f = N.1 77 f
    rw [up_ne (show ¬ f = 14 by omega), up_ne (show ¬ f = 13 by omega), up_ne (show ¬ f = 12 by omega), up_ne (show ¬ f = 11 by omega), up_ne (show ¬ f = 10 by omega), up_ne (show ¬ f = 9 by omega)]
  · intro f i s hi hI hk
    obtain ⟨h6, i1, i2, ⟨i3, i4, i5, i6, i7, i8⟩, i9⟩ := hI
    refine wp_brf (by rw [show (9 : Int32) = n2 9 from rfl, n2_le (by decide) (by omega)]; omega) ?_
    rw [show (9 : Int32) = n2 9 from rfl, n2_add, gA_n (k_77 hy) (by omega) (by omega), n2_nat (by omega)]
    refine wp_lt (wp_lt ?_)
    rw [n2_s]
    · refine hk _ ⟨by omega, fun p hp => by rw [sr_ne hp]; exact i1 p hp, fun f hf => by rw [sr_ap, up_ne (by omega)]; exact i2 f hf, ⟨?_, ?_, ?_, ?_, ?_, ?_⟩, fun k h1 h2 => ?_⟩
      · rw [sr_ap, up_ne (by omega)]; exact i3
      · rw [sr_ap, up_ne (by omega)]; exact i4
      · rw [sr_ap, up_ne (by omega)]; exact i5
      · rw [sr_ap, up_ne (by omega)]; exact i6
      · rw [sr_ap, up_ne (by omega)]; exact i7
      · rw [sr_ap, up_ne (by omega)]; exact i8
      · rw [sr_ap]
        by_cases e : k = i
        · rw [e, up_eq]
        · rw [up_ne (by omega)]; exact i9 k h1 (by omega)
  · intro f s hI
    obtain ⟨h6, i1, i2, ⟨i3, i4, i5, i6, i7, i8⟩, i9⟩ := hI
    exact wp_brt rfl (wp_some ⟨i1, i2, i3, i4, i5, i6, i7, i8, i9 6 (by decide) (by decide), i9 7 (by decide) (by decide), i9 8 (by decide) (by decide)⟩)
theorem start_m {y : Lay} (hy : LY y) {T : Tx} (hT : TOK T) {N : Mem} (hX : TXM T N) (h16 : N.1 73 16 = 0) (h22 : N.1 73 22 = 0) (h25 : N.1 73 25 = 0) (h26 : N.1 73 26 = 0) (C F : Row) {E : Mem → Option (Int32 × Mem)} {R : Int32 × Mem → Prop} (hk : ∀ N1, MS T 0 (D00 C F) N N1 → wp (E N1) R) : wp (c0 (f_X12_begin y 73 (9 : Int32) N) fun (r17 : Int32) (M18 : Mem) => fixN (fun _ _ => none) (fun (s21 : Int32 → Mem → Option (Int32 × Mem)) (v19 : Int32) (M20 : Mem) => br ((30 : Int32) ≤ v19) (c0 (f_X12_stepOn y 73 M20) fun (r25 : Int32) (M26 : Mem) => E M26) (gN (y.2.1 73 6) (gA y (y.2.1 73 6) 1 ((30 : Int32) + v19) (lt (wI M20 (y.2.1 73 6) ((30 : Int32) + v19).toNatClampNeg (0 : Int32)) fun (M49 : Mem) => lt (v19 + (1 : Int32)) fun (v50 : Int32) => s21 v50 M49)))) FUEL (0 : Int32) M18) R := by
  refine wp_c0 _ (begin_m hy) (fun r M1 q => ?_)
  obtain ⟨q1, q2, q9, q10, q11, q12, q13, q14, q15, q16, q17⟩ := q
  have q1 : ∀ p, ¬ p = 77 → M1.1 p = N.1 p := q1
  have q2 : ∀ f, f < 9 → M1.1 77 f = N.1 77 f := q2
  refine wp_for 30 (fun i s => (∀ p, ¬ p = 78 → s.1 p = M1.1 p) ∧ (∀ f, f < 30 → s.1 78 f = M1.1 78 f) ∧ ∀ k, k < i → s.1 78 (30 + k) = 0) (by decide) rfl (Nat.zero_le _) ⟨fun _ _ => rfl, fun _ _ => rfl, fun k hk => absurd hk (Nat.not_lt_zero k)⟩ ?_ ?_
  · intro f i s hi hI hk2
    obtain ⟨i1, i2, i3⟩ := hI
    refine wp_brf (by rw [show (30 : Int32) = n2 30 from rfl, n2_le (by decide) (by omega)]; omega) ?_
    rw [r_73_6 hy, gN_t (by decide), show (30 : Int32) = n2 30 from rfl, n2_add, gA_n (k_78 hy) (by omega) (by omega), n2_nat (by omega)]
    refine wp_lt (wp_lt ?_)
    rw [n2_s, wI_sr]
    refine hk2 _ ⟨fun p hp => by rw [sr_ne hp]; exact i1 p hp, fun f hf => by rw [sr_ap, up_ne (by omega)]; exact i2 f hf, fun k hk => ?_⟩
    rw [sr_ap]
    by_cases e : k = i
    · rw [e, up_eq]
    · rw [up_ne (by omega)]; exact i3 k (by omega)
  · intro f s hI
    obtain ⟨i1, i2, i3⟩ := hI
    refine wp_brt rfl ?_
    have r73 : s.1 73 = N.1 73 := (i1 73 (by decide)).trans (q1 73 (by decide))
    have r86 : s.1 86 = N.1 86 := (i1 86 (by decide)).trans (q1 86 (by decide))
    have r77 : s.1 77 = M1.1 77 := i1 77 (by decide)
    have tx : TXM T s := by
      unfold TXM at hX ⊢
      rw [r73, r86]
      exact hX
    refine wp_c0 _ (stepOn_m hy hT tx (p := 0) (Nat.zero_le _) (by rw [r73]; exact h16)) (fun r N1 q => ?_)
    obtain ⟨t1, g1⟩ := q
    have t1 : TM T N1 0 := t1
    have g1 : G73 s N1 := g1
    refine hk N1 ⟨t1, by rw [g1.2 22 (by omega), r73]; exact h22, ?_, ?_⟩
    · have hd : DM (D00 C F) s := by
        refine ⟨⟨?_, ?_, ?_, ?_, ?_, ?_, ?_⟩, fun g hg => absurd hg (Nat.not_lt_zero g), fun c hc => ⟨?_, fun _ => i3 c hc⟩, ⟨⟨?_, fun i hi => absurd hi (Nat.not_lt_zero i)⟩, ?_, fun i hi => absurd hi (Nat.not_lt_zero i)⟩, ?_, ?_⟩
        · rw [r77]; exact q9
        · rw [r77]; exact q10
        · rw [r77]; exact q13
        · rw [r77]; exact q14
        · rw [r77]; exact q11
        · rw [r77]; exact q12
        · rw [r77]; exact q17
        · rw [i3 c hc]
          show (0 : Int32) = if _ then 0 else 0
          split <;> rfl
        · rw [r77]; exact q15
        · rw [r77]; exact q16
        · rw [r73]; exact h25
        · rw [r73]; exact h26
      exact hd.frame (g1.2 25 (by omega)) (g1.2 26 (by omega)) (fun p h1 h2 => g1.1.2 p (by simp; omega))
    · have hf : FMl N s := by
        refine ⟨fun p hp => ?_, fun f _ => by rw [r73], fun f hf => by rw [r77]; exact q2 f hf, fun f hf => ?_, fun f hf => ?_, fun f hf => ?_⟩
        · rw [i1 p (by omega), q1 p (by omega)]
        · rw [i2 f hf, q1 78 (by decide)]
        · rw [i1 79 (by decide), q1 79 (by decide), i1 80 (by decide), q1 80 (by decide), i1 81 (by decide), q1 81 (by decide)]; exact ⟨rfl, rfl, rfl⟩
        · rw [i1 82 (by decide), q1 82 (by decide), i1 83 (by decide), q1 83 (by decide)]; exact ⟨rfl, rfl⟩
      exact hf.g73 g1
/-- line after line -/
theorem text_J {α : Type} {y : Lay} (hy : LY y) {T : Tx} (hT : TOK T) {M0 N0 M N : Mem} {D : Dr} (h : CS T 0 D M0 M) (g : MS T 0 D N0 N) (hD : DV D) (hd : dT D = 0) {l : Int32 → Mem → Option α} {E : Mem → Option (Int32 × Mem)} {Q : α → Int32 × Mem → Prop} (hgood : ∀ M' N' D', DV D' → M'.1 28 6 = 0 → M'.1 28 7 = -1 → DC D' M' → FCl M0 M' → N'.1 73 22 = 0 → DM D' N' → FMl N0 N' → J (l 0 M') (E N') Q) (hbad : ∀ M' N', LF M0 N0 M' N' → J (l (M'.1 28 6) M') (E N') Q) : J (c0 (fixN (fun _ _ _ => none) (fun (s20 : Int32 → Int32 → Mem → Option (Int32 × Mem)) (v17 : Int32) (v18 : Int32) (M19 : Mem) => jn (fun (_u : Unit) => some ((M19.1 28 6), M19)) fun j22 => br ((700 : Int32) ≤ v18) (j22 ()) (br (v17 = 0) (j22 ()) (br ((M19.1 28 2) = ((-1) : Int32)) (j22 ()) (c0 (f_X2_readLine y 12 M19) fun (r29 : Int32) (M30 : Mem) => lt (v18 + (1 : Int32)) fun (v31 : Int32) => s20 r29 v31 M30)))) FUEL (1 : Int32) (0 : Int32) M) l) (fixN (fun _ _ => none) (fun (s29 : Int32 → Mem → Option (Int32 × Mem)) (v27 : Int32) (M28 : Mem) => jn (fun (_u : Unit) => E M28) fun j31 => br ((M28.1 73 22) = 0) (br ((M28.1 73 18) = 0) (j31 ()) (c0 (f_X12_readLine y 73 v27 M28) fun (r45 : Int32) (M46 : Mem) => s29 r45 M46)) (j31 ())) FUEL (0 : Int32) N) Q := by
  have h7 := hT.1
  refine J_fixm (κ1 := Int32 → Int32 → Mem → Option (Int32 × Mem)) (κ2 := Int32 → Mem → Option (Int32 × Mem)) (A := Nat × Nat × Int32 × Int32 × Mem × Mem) (fun f a => c0 (f a.2.2.1 (n2 a.2.1) a.2.2.2.2.1) l) (fun f a => f a.2.2.2.1 a.2.2.2.2.2) (fun a => (a.1 ≤ T.2 ∧ a.2.2.1 = 1 ∧ a.2.1 ≤ a.1 ∧ ∃ D, DV D ∧ CS T a.1 D M0 a.2.2.2.2.1 ∧ MS T a.1 D N0 a.2.2.2.2.2 ∧ a.2.2.2.1 = dT D) ∨ (a.2.2.1 = 0 ∧ a.1 = T.2 + 1 ∧ LF M0 N0 a.2.2.2.2.1 a.2.2.2.2.2)) (fun a => T.2 + 1 - a.1) ?_ FUEL (0, 0, 1, 0, M, N) (Or.inl ⟨Nat.zero_le _, rfl, Nat.zero_le _, D, hD, h, g, hd.symm⟩) (by show T.2 + 1 - 0 < 100000; omega)
  intro f gg a hI hk
  obtain ⟨p, n, v, t, M1, N1⟩ := a
  rcases hI with ⟨i0, i1, i2, D1, i3, i4, i5, i6⟩ | ⟨i1, i2, i3⟩
  · have i0 : p ≤ T.2 := i0
    have i1 : v = 1 := i1
    have i2 : n ≤ p := i2
    have i4 : CS T p D1 M0 M1 := i4
    have i5 : MS T p D1 N0 N1 := i5
    have i6 : t = dT D1 := i6
    subst i1
    subst i6
    have fin : J (c0 (some ((M1.1 28 6), M1)) l) (E N1) Q := by
      rw [i4.2.1]
      exact hgood M1 N1 D1 i3 i4.2.1 i4.1.1.2.2.2 i4.2.2.1 i4.2.2.2 i5.2.1 i5.2.2.1 i5.2.2.2
    have kk := i4.1.2.2.2.1
    have km := i5.1.2.2.2.1
    show J (c0 (jn _ _) l) (jn _ _) Q
    refine J_lcj (J_rj (J_rt i5.2.1 ?_))
    by_cases k0 : tK T p = 0
    · refine J_rt (by rw [km]; exact (kMd_k T p).1.mpr k0) ?_
      by_cases n7 : 700 ≤ n
      · exact J_lct (by rw [show (700 : Int32) = n2 700 from rfl, n2_le (by decide) (by omega)]; exact n7) fin
      · exact J_lcf (by rw [show (700 : Int32) = n2 700 from rfl, n2_le (by decide) (by omega)]; exact n7) (J_lcf (show ¬ (1 : Int32) = 0 by decide) (J_lct (by rw [kk]; exact (kCl_k hT i4.1.2.1).1.mpr k0) fin))
    · have hs := tS_lt k0
      have hs2 : p ≤ tS T p := (tS_sp hT (p := p) i0).1
      refine J_rf (by rw [km]; exact fun z => k0 ((kMd_k T p).1.mp z)) ?_
      refine J_lcf (show ¬ (700 : Int32) ≤ n2 n by rw [show (700 : Int32) = n2 700 from rfl, n2_le (by decide) (by omega)]; omega) (J_lcf (show ¬ (1 : Int32) = 0 by decide) (J_lcf (by rw [kk]; exact fun z => k0 ((kCl_k hT i4.1.2.1).1.mp z)) (J_lcc ?_)))
      refine J_cc (readLine_J hy hT i4 i5 i3) (fun r2 M2 s2 N2 q => J_lcl ?_)
      rw [n2_s]
      rcases q with ⟨q1, p', D2, ⟨q2, q3⟩, q4, q5, q6, q7⟩ | ⟨q1, q2⟩
      · exact hk (p', n + 1, r2, s2, M2, N2) (Or.inl ⟨q3, q1, by show n + 1 ≤ p'; omega, D2, q4, q5, q6, q7⟩) (by show T.2 + 1 - p' < T.2 + 1 - p; omega)
      · exact hk (T.2 + 1, n + 1, r2, s2, M2, N2) (Or.inr ⟨q1, rfl, q2⟩) (by show T.2 + 1 - (T.2 + 1) < T.2 + 1 - p; omega)
  · have i1 : v = 0 := i1
    have i3 : LF M0 N0 M1 N1 := i3
    subst i1
    have fin := hbad M1 N1 i3
    show J (c0 (jn _ _) l) (jn _ _) Q
    refine J_lcj (J_rj (J_rf i3.1.bad ?_))
    by_cases n7 : (700 : Int32) ≤ n2 n
    · exact J_lct n7 fin
    · exact J_lcf n7 (J_lct rfl fin)
