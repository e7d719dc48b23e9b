/-! ===== lines: dyes and fades ===== -/
def dRu (e : Bool) (D : Dr) (C : Row) (L : Nat) : Dr := (((dK D).1, (dK D).2.1, (if e = true then (C, L) else (dK D).2.2.1), (if e = true then (dK D).2.2.2 else (C, L))), D.2)
theorem or_self_nz {t k : Int32} (h : ¬ k &&& k = 0) : ¬ (t ||| k) &&& k = 0 := fun z => h (or_and_z z).2
theorem DV.ru {D : Dr} (h : DV D) (e : Bool) {C : Row} {L : Nat} (hL : L ≤ 700) (hW : WFR (mm e) C L) : DV (dRu e (dTu D (dT D ||| kr1 e)) C L) := by
  obtain ⟨⟨⟨a, b, c, d⟩, s⟩, h2, h3, h4, ⟨h5, h5'⟩, h6⟩ := h
  cases e with
  | true =>
    refine ⟨⟨⟨a, b, ⟨hL, fun _ => hW⟩, d⟩, s⟩, h2, h3, h4, ⟨fun z => ?_, fun z => h5' (or_and_z z).1⟩, h6⟩
    exact absurd z (or_self_nz (by decide))
  | false =>
    refine ⟨⟨⟨a, b, c, ⟨hL, fun _ => hW⟩⟩, s⟩, h2, h3, h4, ⟨fun z => h5 (or_and_z z).1, fun z => ?_⟩, h6⟩
    exact absurd z (or_self_nz (by decide))
theorem WFP.wfr {m : Nat} {C C' : Row} {L : Nat} (h : WFP m C L 1) (e : ∀ i, i < L → C' i = C i) : WFR m C' L := by
  refine ⟨fun i hi => ?_, ?_⟩
  · rw [e i hi, dpt_eq i (fun j hj => e j (by omega))]
    exact h.1 i hi
  · rw [dpt_eq L e]; exact h.2
theorem J_lce {α β : Type} {Q : α → β → Prop} {Z : Option β} {l : Int32 → Mem → Option α} {e : Bool} {f : Int32 → Option (Int32 × Mem)} (h : J (c0 (f (de e)) l) Z Q) : J (c0 (br (kr1 e = (16 : Int32)) (f (1 : Int32)) (f (0 : Int32))) l) Z Q := by
  cases e with
  | true => rw [bR_t (show kr1 true = 16 from rfl)]; exact h
  | false => rw [bR_f (by decide)]; exact h
theorem J_rce {α β : Type} {Q : α → β → Prop} {X : Option α} {l : Int32 → Mem → Option β} {e : Bool} {f : Int32 → Option (Int32 × Mem)} (h : J X (c0 (f (fe e)) l) Q) : J X (c0 (br (kr1 e = (32 : Int32)) (f (1 : Int32)) (f (0 : Int32))) l) Q := by
  cases e with
  | true => rw [bR_f (by decide)]; exact h
  | false => rw [bR_t (show kr1 false = 32 from rfl)]; exact h
theorem J_rtb {α β : Type} {y : Lay} (hy : LY y) {Q : α → β → Prop} {X : Option α} {l : Int32 → Mem → Option β} {e : Bool} {f : Nat → Option (Int32 × Mem)} (h : J X (c0 (f (tb e)) l) Q) : J X (c0 (br (fe e = 0) (gN (y.2.1 73 1) (f (y.2.1 73 1))) (gN (y.2.1 73 2) (f (y.2.1 73 2)))) l) Q := by
  cases e with
  | true => rw [bR_t (show fe true = 0 from rfl), r_73_1 hy, gN_t (by decide)]; exact h
  | false => rw [bR_f (by decide), r_73_2 hy, gN_t (by decide)]; exact h
theorem LF.of {e : Bool} {M0 N0 M1 N1 M N : Mem} (h : EF e M1 N1 M N) (hM : FCl M0 M1) (hN : FMl N0 N1) : LF M0 N0 M N := by
  obtain ⟨h1, h2, h3, h3a, h3b, h3c⟩ := h
  obtain ⟨g1, g2, g3, g4, g5, g6⟩ := hN
  have dr : (ro e = 15 ∧ co e = 16) ∨ (ro e = 18 ∧ co e = 19) := by cases e; exact Or.inr ⟨rfl, rfl⟩; exact Or.inl ⟨rfl, rfl⟩
  have ds : sg e = 82 ∨ sg e = 83 := by cases e; exact Or.inr rfl; exact Or.inl rfl
  have dl : 15 ≤ lf e := by cases e <;> decide
  have rr : ∀ p, ¬ p = 73 → ¬ p = 77 → ¬ p = sg e → N.1 p = N1.1 p := fun p a b c => h3.2 p (by simp; exact ⟨a, b, c⟩)
  refine ⟨h1, fun p hp => ?_, fun p hp => ?_, fun f hf => ?_, fun f hf => ?_, fun f hf => ?_, fun f hf => ?_, fun f hf => ?_⟩
  · rw [h2.2 p (by simp; omega)]; exact hM p hp
  · rw [rr p (by omega) (by omega) (by omega)]; exact g1 p hp
  · rw [h3a f (by omega)]; exact g2 f hf
  · rw [h3b f (by omega)]; exact g3 f hf
  · rw [rr 78 (by decide) (by decide) (by omega)]; exact g4 f hf
  · rw [rr 79 (by decide) (by decide) (by omega), rr 80 (by decide) (by decide) (by omega), rr 81 (by decide) (by decide) (by omega)]; exact g5 f hf
  · have q := g6 f hf
    have w := h3c f hf
    rcases ds with z | z
    · rw [z] at w
      rw [w, rr 83 (by decide) (by decide) (by omega)]; exact q
    · rw [z] at w
      rw [w, rr 82 (by decide) (by decide) (by omega)]; exact q
theorem CS.of {e : Bool} {T : Tx} {p q L : Nat} {D : Dr} {C : Row} {M0 M1 M : Mem} (g : CS T q D M0 M1) (h : EC e T M1 p L C M) : CS T p (dRu e D (M.1 (co e)) L) M0 M := by
  obtain ⟨h1, h2, ⟨h3, -, -⟩, h4, h5⟩ := h
  have dr : (ro e = 15 ∧ co e = 16) ∨ (ro e = 18 ∧ co e = 19) := by cases e; exact Or.inr ⟨rfl, rfl⟩; exact Or.inl ⟨rfl, rfl⟩
  have rr : ∀ p, ¬ p = 28 → ¬ p = ro e → ¬ p = co e → M.1 p = M1.1 p := fun p a b c => h3.2 p (by simp; exact ⟨a, b, c⟩)
  refine ⟨h1, h2, ?_, fun p hp => ?_⟩
  · obtain ⟨a, b, c, d⟩ := g.2.2.1
    refine ⟨?_, ?_, ?_, ?_⟩
    · rw [rr 13 (by decide) (by omega) (by omega)]; exact a
    · cases e with
      | true =>
        have r18 := rr 18 (by decide) (by decide) (by decide)
        have r19 := rr 19 (by decide) (by decide) (by decide)
        rw [r18, r19]
        exact ⟨⟨h4, rfl⟩, b.2⟩
      | false =>
        have r18 := rr 15 (by decide) (by decide) (by decide)
        have r19 := rr 16 (by decide) (by decide) (by decide)
        rw [r18, r19]
        exact ⟨b.1, ⟨h4, rfl⟩⟩
    · unfold skZ at c ⊢
      rw [rr 21 (by decide) (by omega) (by omega), rr 22 (by decide) (by omega) (by omega), rr 25 (by decide) (by omega) (by omega), rr 26 (by decide) (by omega) (by omega)]; exact c
    · rw [rr 12 (by decide) (by omega) (by omega)]; exact d
  · rw [rr p (by omega) (by omega) (by omega)]; exact g.2.2.2 p hp
theorem MS.of {e : Bool} {T : Tx} {p q L : Nat} {D : Dr} {C C' : Row} {N0 N1 N : Mem} (g : MS T q D N0 N1) (h : EM e T N1 p L C N) (hC : ∀ i, i < L → C' i = C i) (fl : FL N N → False) : MS T p (dRu e D C' L) N0 N := by
  obtain ⟨h1, h2, ⟨⟨h3, h3a, h3b, h3c⟩, -, -⟩, h4, h5⟩ := h
  obtain ⟨g1, g2, g3, g4, g5, g6⟩ := g.2.2.2
  have ds : sg e = 82 ∨ sg e = 83 := by cases e; exact Or.inr rfl; exact Or.inl rfl
  have dl : lf e = 15 ∨ lf e = 16 := by cases e; exact Or.inr rfl; exact Or.inl rfl
  have rr : ∀ p, ¬ p = 73 → ¬ p = 77 → ¬ p = sg e → N.1 p = N1.1 p := fun p a b c => h3.2 p (by simp; exact ⟨a, b, c⟩)
  refine ⟨h1, h2, ?_, fun p hp => ?_, fun f hf => ?_, fun f hf => ?_, fun f hf => ?_, fun f hf => ?_, fun f hf => ?_⟩
  · obtain ⟨⟨a1, a2, a3, a4, a5, a6, a7⟩, b, c, d, f1, f2⟩ := g.2.2.1
    refine ⟨⟨?_, ?_, ?_, ?_, ?_, ?_, ?_⟩, fun k hk => ?_, fun k hk => ?_, ?_, ?_, ?_⟩
    · rw [h3b 9 (by omega)]; exact a1
    · rw [h3b 10 (by omega)]; exact a2
    · rw [h3b 13 (by omega)]; exact a3
    · rw [h3b 14 (by omega)]; exact a4
    · rw [h3b 11 (by omega)]; exact a5
    · rw [h3b 12 (by omega)]; exact a6
    · rw [h3b 17 (by omega)]; exact a7
    · rw [rr 79 (by decide) (by decide) (by omega), rr 80 (by decide) (by decide) (by omega), rr 81 (by decide) (by decide) (by omega)]; exact b k hk
    · rw [rr 78 (by decide) (by decide) (by omega)]; exact c k hk
    · cases e with
      | true =>
        have r18 := rr 83 (by decide) (by decide) (by decide)
        have r16 := h3b 16 (by decide)
        rw [r18, r16]
        exact ⟨⟨h4, fun i hi => by rw [show dc (dK (dRu true D C' L)) i = C' i from rfl, hC i hi]; exact h5 i hi⟩, d.2⟩
      | false =>
        have r18 := rr 82 (by decide) (by decide) (by decide)
        have r16 := h3b 15 (by decide)
        rw [r18, r16]
        exact ⟨d.1, ⟨h4, fun i hi => by rw [show fc (dK (dRu false D C' L)) i = C' i from rfl, hC i hi]; exact h5 i hi⟩⟩
    · rw [h3a 25 (by omega)]; exact f1
    · rw [h3a 26 (by omega)]; exact f2
  · rw [rr p (by omega) (by omega) (by omega)]; exact g1 p hp
  · rw [h3a f (by omega)]; exact g2 f hf
  · rw [h3b f (by omega)]; exact g3 f hf
  · rw [rr 78 (by decide) (by decide) (by omega)]; exact g4 f hf
  · rw [rr 79 (by decide) (by decide) (by omega), rr 80 (by decide) (by decide) (by omega), rr 81 (by decide) (by decide) (by omega)]; exact g5 f hf
  · have q := g6 f hf
    have w := h3c f hf
    rcases ds with z | z
    · rw [z] at w
      rw [w, rr 83 (by decide) (by decide) (by omega)]; exact q
    · rw [z] at w
      rw [w, rr 82 (by decide) (by decide) (by omega)]; exact q
theorem DC.one {D : Dr} {M N : Mem} (h : DC D M) (e : N.1 = M.1) : DC D N := h.frame (fun p _ => by rw [e])
theorem readRule_J {y : Lay} (hy : LY y) {T : Tx} (hT : TOK T) (e : Bool) {p : Nat} {D : Dr} {M0 N0 M N : Mem} (h : CS T p D M0 M) (g : MS T p D N0 N) (hD : DV D) (hk : dT D &&& kr1 e = 0) {x : Int32} (hx : x = dT D ||| kr1 e) : J (c0 (f_X2_readRule y 12 (kr1 e) (ro e) M) fun (r50 : Int32) (M51 : Mem) => gd (r50 = 0 ∨ r50 = 1) (some (r50, M51))) (c0 (f_X12_sayOnce y 73 (kr1 e) N) fun (r36 : Int32) (M37 : Mem) => c0 (f_X12_mark y 73 (59 : Int32) M37) fun (r13 : Int32) (M14 : Mem) => some (x, M14)) (LO T M0 N0 p) := by
  have hp : p ≤ tE T p := Nat.le_trans (tS_sp hT h.1.2.1).1 (tE_sp hT h.1.2.1).1
  have hd0 : (if e = true then dl (dK D) else fl (dK D)) = 0 := by
    cases e with
    | true => exact hD.2.2.2.2.1.1 hk
    | false => exact hD.2.2.2.2.1.2 hk
  unfold f_X2_readRule f_X12_sayOnce
  refine J_lcK (k_12 hy) (J_lcc (J_lc (once_c hy hT h hk) (fun r1 M1 q1 => ?_)))
  have e1 : r1 = 1 := q1.1
  have c1 : CS T (tE T p) (dTu D (dT D ||| kr1 e)) M0 M1 := q1.2
  rw [e1]
  refine J_lcf (by decide) ?_
  refine J_rcf (by cases e <;> decide) (J_rcf (by cases e <;> decide) (J_rcj (J_rce (f := fun v35 => gK y 73 (0, 12) (c0 (f_X12_sayRule y 73 v35 N) fun (r38 : Int32) (M39 : Mem) => some ((0 : Int32), M39))) (J_rcK (k_73 hy) (J_rcc ?_)))))
  unfold f_X12_sayRule
  refine J_rcK (k_73 hy) (J_rcc (J_rc (g.stp hy hT) (fun s1 N1 g1 => ?_)))
  have g1 : MS T (tE T p) (dTu D (dT D ||| kr1 e)) N0 N1 := g1
  refine J_rcg (by cases e; exact Or.inr rfl; exact Or.inl rfl) (J_rcl (J_rcj (J_rtb hy (f := fun v6 => gN v6 (lt (wR (wI N1 73 27 (fe e)) 73 3 v6) fun (M9 : Mem) => c0 (f_X12_readExpression y 73 (0 : Int32) M9) fun (r10 : Int32) (M11 : Mem) => some ((0 : Int32), M11))) (J_rcN (tb_n0 e) (J_rcl (J_rcc ?_))))))
  rw [r_12_1 hy, r_12_0 hy]
  refine J_lcN (by decide) (J_lcj (J_lce (f := fun v7 => gK y 29 (0, 6) (c0 (f_X6_begin y 29 (ro e) v7 M1) fun (r10 : Int32) (M11 : Mem) => c0 (f_X6_readExpr y 29 (0 : Int32) M11) fun (r12 : Int32) (M13 : Mem) => jn (fun (v14 : Int32) (M15 : Mem) => gd (v14 = 0 ∨ v14 = 1) (some (v14, M15))) fun j16 => jn (fun (M17 : Mem) => j16 (0 : Int32) M17) fun j18 => br (r12 = 0) (j18 M13) (gN 28 (gK y 28 (0, 10) (c0 (f_X10_passes y 28 (59 : Int32) M13) fun (r23 : Int32) (M24 : Mem) => br (r23 = 0) (j18 M24) (j16 (1 : Int32) M24)))))) (J_lcK (k_29 hy) (J_lcq (begin_c hy e M1) (J_lcc ?_)))))
  -- where the expression begins
  have dr : (ro e = 15 ∧ co e = 16) ∨ (ro e = 18 ∧ co e = 19) := by cases e; exact Or.inr ⟨rfl, rfl⟩; exact Or.inl ⟨rfl, rfl⟩
  have c2 : CS T (tE T p) (dTu D (dT D ||| kr1 e)) M0 (sr (sr (wR M1 29 1 (ro e)) 29 (up (M1.1 29) 2 (de e))) (ro e) (up (M1.1 (ro e)) 2 0)) := by
    obtain ⟨a1, a2, a3, a4⟩ := c1
    have r : ∀ q, ¬ q = 29 → ¬ q = ro e → (sr (sr (wR M1 29 1 (ro e)) 29 (up (M1.1 29) 2 (de e))) (ro e) (up (M1.1 (ro e)) 2 0)).1 q = M1.1 q := fun q x1 x2 => by rw [sr_ne x2, sr_ne x1, wR_1]
    refine ⟨a1.frame (r 28 (by decide) (by omega)) (r 2 (by decide) (by omega)) (r 3 (by decide) (by omega)), by rw [r 28 (by decide) (by omega)]; exact a2, ?_, fun q hq => ?_⟩
    · obtain ⟨b1, b2, b3, b4⟩ := a3
      refine ⟨?_, ?_, ?_, ?_⟩
      · rw [r 13 (by decide) (by omega)]; exact b1
      · cases e with
        | true =>
          have e0 : dl (dK D) = 0 := hd0
          refine ⟨⟨?_, b2.1.2⟩, b2.2⟩
          show (0 : Int32) = n2 (dl (dK D))
          rw [e0]; rfl
        | false =>
          have e0 : fl (dK D) = 0 := hd0
          refine ⟨b2.1, ⟨?_, b2.2.2⟩⟩
          show (0 : Int32) = n2 (fl (dK D))
          rw [e0]; rfl
      · unfold skZ at b3 ⊢
        rw [r 21 (by decide) (by omega), r 22 (by decide) (by omega), r 25 (by decide) (by omega), r 26 (by decide) (by omega)]; exact b3
      · rw [r 12 (by decide) (by omega)]; exact b4
    · rw [r q (by omega) (by omega)]; exact a4 q hq
  have ec : EC e T (sr (sr (wR M1 29 1 (ro e)) 29 (up (M1.1 29) 2 (de e))) (ro e) (up (M1.1 (ro e)) 2 0)) (tE T p) 0 (fun _ => 0) (sr (sr (wR M1 29 1 (ro e)) 29 (up (M1.1 29) 2 (de e))) (ro e) (up (M1.1 (ro e)) 2 0)) := by
    refine ⟨c2.1, c2.2.1, ⟨Eqx.refl _ _, ?_, ?_⟩, ?_, fun i hi => absurd hi (Nat.not_lt_zero i)⟩
    · show u2 M1.2.2 29 1 (ro e) 29 1 = ro e
      unfold u2
      exact if_pos ⟨rfl, rfl⟩
    · rw [sr_ne (by omega), sr_ap, up_eq]
    · rw [sr_ap, up_eq]; rfl
  have g2 : MS T (tE T p) (dTu D (dT D ||| kr1 e)) N0 (wI N1 73 27 (fe e)) := by
    rw [wI_sr]
    refine g1.upd (by decide) ?_
    obtain ⟨a, b, c, d, f1, f2⟩ := g1.2.2.1
    exact ⟨a, b, c, d, by rw [sr_ap, up_ne (by decide)]; exact f1, by rw [sr_ap, up_ne (by decide)]; exact f2⟩
  have g3 : MS T (tE T p) (dTu D (dT D ||| kr1 e)) N0 (wR (wI N1 73 27 (fe e)) 73 3 (tb e)) := g2
  have em : EM e T (wR (wI N1 73 27 (fe e)) 73 3 (tb e)) (tE T p) 0 (fun _ => 0) (wR (wI N1 73 27 (fe e)) 73 3 (tb e)) := by
    refine ⟨g3.1, g3.2.1, ⟨⟨Eqx.refl _ _, fun _ _ => rfl, fun _ _ => rfl, fun _ _ => rfl⟩, ?_, ?_⟩, ?_, fun i hi => absurd hi (Nat.not_lt_zero i)⟩
    · show u2 (wI N1 73 27 (fe e)).2.2 73 3 (tb e) 73 3 = tb e
      unfold u2
      exact if_pos ⟨rfl, rfl⟩
    · rw [wR_1, wI_sr, sr_ap, up_eq]
    · cases e with
      | true =>
        have e0 : dl (dK D) = 0 := hd0
        have q := g3.2.2.1.2.2.2.1.1.1
        rw [show dl (dK (dTu D (dT D ||| kr1 true))) = dl (dK D) from rfl, e0] at q
        exact q
      | false =>
        have e0 : fl (dK D) = 0 := hd0
        have q := g3.2.2.1.2.2.2.1.2.1
        rw [show fl (dK (dTu D (dT D ||| kr1 false))) = fl (dK D) from rfl, e0] at q
        exact q
  refine J_cc (readExpr_J hy hT (tE T p) 0 (fun _ => 0) 0 _ _ trivial ⟨fun i hi => absurd hi (Nat.not_lt_zero i), rfl⟩ (Nat.le_refl _) (Nat.zero_le _) ec em) (fun r3 M3 s3 N3 q3 => ?_)
  refine J_lcj (J_lcj ?_)
  refine J_rcs (J_rcs ?_)
  rcases q3 with ⟨q4, p', L', C', ⟨q5, q5'⟩, q6, q7, m3, n3⟩ | ⟨q4, q5⟩
  · have q4 : r3 = 1 := q4
    have m3 : EC e T _ p' L' C' M3 := m3
    have n3 : EM e T _ p' L' C' N3 := n3
    rw [q4]
    refine J_lcf (by decide) (J_lcN (by decide) (J_lcK (k_28 hy) (J_lcc ?_)))
    have c4 := c2.of m3
    have hC : ∀ i, i < L' → M3.1 (co e) i = C' i := m3.2.2.2.2
    have g4 := g3.of n3 hC (fun z => z.elim (fun f z => z.elim (fun s z => by
      have h0 := n3.2.1
      rw [z.2.2.1] at h0
      exact z.1 h0)))
    have h7 := hT.1
    have hv : DV (dRu e (dTu D (dT D ||| kr1 e)) (M3.1 (co e)) L') := hD.ru e (by omega) (q7.wfr hC)
    refine J_cc (pass_J hy hT c4.1 g4.1 c4.2.1 g4.2.1 (c := 59) (by decide) (by decide)) (fun r M5 s N5 q => ?_)
    rcases q with ⟨q8, q9, ⟨m5, g5⟩, n5, g6⟩ | ⟨q8, q9, m5, n5⟩
    · have q8 : r = 1 := q8
      rw [q8]
      have hlt := tE_gt hT c4.1.2.1 (by rw [(isS_iff.mp q9).1]; decide)
      refine J_lcf (by decide) (J_lcg (Or.inr rfl) (J_lcs (J_lg (Or.inr rfl) (J_s (Or.inl ⟨rfl, tE T p', _, ⟨by omega, (tE_sp hT c4.1.2.1).2⟩, hv, c4.g28 m5 g5, g4.g73 n5 g6, hx⟩)))))
    · have q8 : r = 0 := q8
      have m5 : M5 = _ := m5
      have n5 : N5 = _ := n5
      rw [q8, m5, n5]
      refine J_lct rfl (J_lcg (Or.inl rfl) (J_lcs (J_lg (Or.inl rfl) (J_s (Or.inr ⟨rfl, LF.mk c4 g4 (by decide)⟩)))))
  · have q4 : r3 = 0 := q4
    rw [q4]
    refine J_lct rfl (J_lcg (Or.inl rfl) (J_lcs (J_lg (Or.inl rfl) ?_)))
    exact bad_J hy (LF.of q5 c2.2.2.2 g3.2.2.2)
