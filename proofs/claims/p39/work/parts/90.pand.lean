/-! ===== expressions: and, or; the whole ===== -/
theorem readAnd_J {y : Lay} (hy : LY y) {T : Tx} (hT : TOK T) {e : Bool} {M0 N0 : Mem} {w D : Nat} (hD : D < 37) {RC RM : Lay → Nat → Int32 → Mem → Option (Int32 × Mem)} (HP : EX y e T M0 N0 w (D + 1) (fun _ => True) (f_X6_readNot RC) (f_X12_readNot RM)) : EX y e T M0 N0 w D (fun _ => True) (f_X6_readAnd RC) (f_X12_readAnd RM) := by
  intro p L C d M N _ hW hd hL hM hN
  have h7 := hT.1
  have hp := hM.1.2.1
  have hF : FUEL = 100000 := rfl
  unfold f_X6_readAnd f_X12_readAnd
  rw [gK_t (k_29 hy), gK_t (k_73 hy)]
  refine J_cc (HP p L C d M N trivial hW (by omega) hL hM hN) (fun r M1 s N1 q => ?_)
  rcases q with ⟨q3, p', L', C', ⟨q4, q4'⟩, q5, q6, m1, n1⟩ | ⟨q3, q4⟩
  · have q3 : r = 1 := q3
    rw [q3]
    refine J_lf (by decide) ?_
    refine J_loopb (fun N => ¬ N.1 73 22 = 0) (fun N => ((0 : Int32), N)) (fun g N hb => by rw [is_b hy hb, cp_s, bR_t rfl]) (fun p1 n M N => (n < p1 ∧ p < p1) ∧ ∃ L1 C1, L1 + p ≤ p1 + L ∧ WFP (mm e) C1 L1 (d + 1) ∧ EC e T M0 p1 L1 C1 M ∧ EM e T N0 p1 L1 C1 N) T.2 (by omega) (n0 := 0) rfl ⟨q4', ⟨by omega, q4⟩, L', C', q5, q6, m1, n1⟩ ?_
    clear m1 n1 q5 q6 q4 q4' L' C' p'
    intro f g p1 n M7 N7 hp1 hI hg hk
    obtain ⟨⟨i1, i2⟩, L1, C1, i3, i4, m1, n1⟩ := hI
    have tc := m1.1
    have tm := n1.1
    have wc : f_X10_isWord y 28 1016 M7 = some (b01 (isW T p1 (strB (1016 - 1000)))) := isWord_c hy hT tc (a := 1016) (by decide)
    have wm : f_X12_is y 73 1034 N7 = some (b01 (isW T p1 (strB (1016 - 1000)))) := is_m hy hT tm n1.2.1 (a := 1034) (by decide)
    refine J_lj (J_lf (by rw [show (700 : Int32) = n2 700 from rfl, n2_le (by decide) (by omega)]; omega) ?_)
    refine J_rp wm ?_
    have fin : ¬ isW T p1 (strB (1016 - 1000)) = true → EO e T M0 N0 p L d ((1 : Int32), M7) ((0 : Int32), N7) := fun _ => Or.inl ⟨rfl, p1, L1, C1, ⟨i2, hp1⟩, i3, i4, m1, n1⟩
    have go : isW T p1 (strB (1016 - 1000)) = true → J (c0 (f_X10_advance y 28 M7) fun (r18 : Int32) (M19 : Mem) => c0 (f_X6_readNot RC y 29 (n2 w) M19) fun (r20 : Int32) (M21 : Mem) => br (r20 = 0) (some ((0 : Int32), M21)) (gN (M21.2.2 29 1) (gK y (M21.2.2 29 1) (0, 5) (c0 (f_X5_put y (M21.2.2 29 1) (-12) M21) fun (r26 : Int32) (M27 : Mem) => lt (n2 n + (1 : Int32)) fun (v28 : Int32) => f v28 M27)))) (c0 (f_X12_stepOn y 73 N7) fun (r10 : Int32) (M11 : Mem) => c0 (f_X12_readNot RM y 73 (n2 w) M11) fun (r12 : Int32) (M13 : Mem) => c0 (f_X12_lay y 73 (mc (-12)) M13) fun (r14 : Int32) (M15 : Mem) => g M15) (EO e T M0 N0 p L d) := by
      intro qa
      have hlt := tE_gt hT tc.2.1 (by rw [(isW_iff.mp qa).1]; decide)
      have htE := (tE_sp hT tc.2.1).2
      refine J_lc (m1.adv hy hT) (fun r2 M2 m2 => J_rc (n1.stp hy hT) (fun s2 N2 n2' => ?_))
      refine J_cc (HP (tE T p1) L1 C1 (d + 1) M2 N2 trivial i4 (by omega) (by omega) m2 n2') (fun r3 M3 s3 N3 q2 => ?_)
      rcases q2 with ⟨q3, p', L', C', ⟨q4, q4'⟩, q5, q6, m3, n3⟩ | ⟨q3, q4⟩
      · have q3 : r3 = 1 := q3
        rw [q3]
        refine J_lf (by decide) ?_
        rw [m3.ref, gN_t (ro_n0 e), gK_t (k_ro hy e)]
        refine J_lc (put_c hy m3 (by omega) (-12)) (fun r4 M4 m4 => J_rc (lay_m hy n3 (by omega) (-12)) (fun s4 N4 n4 => J_ll ?_))
        rw [n2_s]
        exact hk p' M4 N4 (by omega) q4' ⟨⟨by omega, by omega⟩, L' + 1, up C' L' (-12), by omega, q6.bin (by omega) (by decide) (by decide), m4, n4⟩
      · have q3 : r3 = 0 := q3
        rw [q3]
        exact J_lt rfl (J_rq (lay_b hy q4.1.bad) (J_rg2 (hg _ q4.1.bad) (J_s (Or.inr ⟨rfl, q4⟩))))
    rw [r_29_0 hy]
    refine J_lN (by decide) (J_lK (k_28 hy) (J_lp wc ?_))
    by_cases qa : isW T p1 (strB (1016 - 1000)) = true
    · exact J_lf (by rw [b01_0]; exact fun z => z qa) (J_rf (by rw [b01_0]; exact fun z => z qa) (go qa))
    · exact J_lt (by rw [b01_0]; exact qa) (J_rt (by rw [b01_0]; exact qa) (J_s (fin qa)))
  · have q3 : r = 0 := q3
    rw [q3]
    refine J_lt rfl (J_rfx (J_rp (is_b hy q4.1.bad) (J_rt rfl (J_s (Or.inr ⟨rfl, q4⟩)))))
theorem readAnd_b {y : Lay} (hy : LY y) {RM : Lay → Nat → Int32 → Mem → Option (Int32 × Mem)} : EBad y (f_X12_readAnd RM) := by
  intro a N hb
  unfold f_X12_readAnd
  rw [gK_t (k_73 hy), readNot_b hy _ _ hb, c0_s, fxF, is_b hy hb, cp_s, bR_t rfl]
theorem readExpressionB_b {y : Lay} (hy : LY y) {RM : Lay → Nat → Int32 → Mem → Option (Int32 × Mem)} : EBad y (f_X12_readExpressionB RM) := by
  intro a N hb
  unfold f_X12_readExpressionB
  rw [gK_t (k_73 hy), bR_f hb]
/-! where nothing of an expression begins -/
def NO (T : Tx) (p : Nat) : Prop := ¬ tK T p = 1 ∧ ¬ tK T p = 2 ∧ ¬ isS T p 40 = true
theorem readPart_no {y : Lay} (hy : LY y) {T : Tx} (hT : TOK T) {RC : Lay → Nat → Int32 → Mem → Option (Int32 × Mem)} {a : Int32} {M : Mem} {p : Nat} (h : TC T M p) (hM : M.1 28 6 = 0) (no : NO T p) : f_X6_readPart RC y 29 a M = some (0, rfC M 1 (M.1 28 3)) := by
  refine wp_eq ?_
  unfold f_X6_readPart
  rw [gK_t (k_29 hy), r_29_0 hy, gN_t (by decide), gK_t (k_28 hy), h.2.2.2.1]
  refine wp_brf (fun z => no.2.1 ((kCl_k hT h.2.1).2.2.mp z)) (wp_brf (fun z => no.1 ((kCl_k hT h.2.1).2.1.mp z)) (wp_jn (wp_brf (fun z => no.2.2 ((kCl_c hT h.2.1 (c := 40) (by decide)).mp z)) ?_)))
  rw [refuse_t hy hM, c0_s]
  exact wp_gd (Or.inl rfl) (wp_some rfl)
theorem readProduct_no {y : Lay} (hy : LY y) {T : Tx} (hT : TOK T) {RC : Lay → Nat → Int32 → Mem → Option (Int32 × Mem)} {a : Int32} {M : Mem} {p : Nat} (h : TC T M p) (hM : M.1 28 6 = 0) (no : NO T p) : f_X6_readProduct RC y 29 a M = some (0, rfC M 1 (M.1 28 3)) := by
  unfold f_X6_readProduct
  rw [gK_t (k_29 hy), readPart_no hy hT h hM no, c0_s, bR_t rfl]
theorem readSum_no {y : Lay} (hy : LY y) {T : Tx} (hT : TOK T) {RC : Lay → Nat → Int32 → Mem → Option (Int32 × Mem)} {a : Int32} {M : Mem} {p : Nat} (h : TC T M p) (hM : M.1 28 6 = 0) (no : NO T p) : f_X6_readSum RC y 29 a M = some (0, rfC M 1 (M.1 28 3)) := by
  unfold f_X6_readSum
  rw [gK_t (k_29 hy), readProduct_no hy hT h hM no, c0_s, bR_t rfl]
theorem readTest_no {y : Lay} (hy : LY y) {T : Tx} (hT : TOK T) {RC : Lay → Nat → Int32 → Mem → Option (Int32 × Mem)} {a : Int32} {M : Mem} {p : Nat} (h : TC T M p) (hM : M.1 28 6 = 0) (no : NO T p) : f_X6_readTest RC y 29 a M = some (0, rfC M 1 (M.1 28 3)) := by
  unfold f_X6_readTest
  rw [gK_t (k_29 hy), readSum_no hy hT h hM no, c0_s, bR_t rfl]
theorem readNot_no {y : Lay} (hy : LY y) {T : Tx} (hT : TOK T) {RC : Lay → Nat → Int32 → Mem → Option (Int32 × Mem)} {a : Int32} {M : Mem} {p : Nat} (h : TC T M p) (hM : M.1 28 6 = 0) (no : NO T p) : f_X6_readNot RC y 29 a M = some (0, rfC M 1 (M.1 28 3)) := by
  have wc : f_X10_isWord y 28 1009 M = some (b01 (isW T p (strB 9))) := isWord_c hy hT h (a := 1009) (by decide)
  have nw : ¬ isW T p (strB 9) = true := fun z => no.1 (isW_iff.mp z).1
  refine wp_eq ?_
  unfold f_X6_readNot
  rw [fxF]
  refine wp_jn (wp_jn (wp_brf (by decide) ?_))
  rw [gK_t (k_29 hy), r_29_0 hy, gN_t (by decide), gK_t (k_28 hy), wc, cp_s]
  refine wp_brt (by rw [b01_0]; exact nw) (wp_brf (by decide) ?_)
  rw [gK_t (k_29 hy), readTest_no hy hT h hM no, c0_s]
  exact wp_brt rfl (wp_some rfl)
theorem readAnd_no {y : Lay} (hy : LY y) {T : Tx} (hT : TOK T) {RC : Lay → Nat → Int32 → Mem → Option (Int32 × Mem)} {a : Int32} {M : Mem} {p : Nat} (h : TC T M p) (hM : M.1 28 6 = 0) (no : NO T p) : f_X6_readAnd RC y 29 a M = some (0, rfC M 1 (M.1 28 3)) := by
  unfold f_X6_readAnd
  rw [gK_t (k_29 hy), readNot_no hy hT h hM no, c0_s, bR_t rfl]
theorem exprB_J {y : Lay} (hy : LY y) {T : Tx} (hT : TOK T) {e : Bool} {M0 N0 : Mem} {w D : Nat} (hD : D < 37) (hw : w ≤ 6) {RC RM : Lay → Nat → Int32 → Mem → Option (Int32 × Mem)} (HP : w < 6 → EX y e T M0 N0 w (D + 1) (fun _ => True) (f_X6_readAnd RC) (f_X12_readAnd RM)) : EX y e T M0 N0 w D (fun _ => True) (f_X6_readExprB RC) (f_X12_readExpressionB RM) := by
  intro p L C d M N _ hW hd hL hM hN
  have h7 := hT.1
  have hp := hM.1.2.1
  have hF : FUEL = 100000 := rfl
  have tc := hM.1
  have tm := hN.1
  have hF0 : ∀ (f : Int32) (r : Int32), ¬ f = 0 → EO e T M0 N0 p L d (0, rfC M f (M.1 28 3)) (r, rfM N f (N.1 73 20)) := fun f r hf => Or.inr ⟨rfl, EF.mk hM hN hf⟩
  unfold f_X6_readExprB f_X12_readExpressionB
  rw [gK_t (k_29 hy), r_29_0 hy, gN_t (by decide), gK_t (k_28 hy), gK_t (k_73 hy), tc.2.2.2.1, tm.2.2.2.1]
  refine J_rt hN.2.1 ?_
  -- where it opens
  have opn : J ((fun (v4 : Int32) => jn (fun (_u : Unit) => c0 (f_X6_readAnd RC y 29 (n2 w) M) fun (r7 : Int32) (M8 : Mem) => br (r7 = 0) (some ((0 : Int32), M8)) (fixN (fun _ _ => none) (fun (s13 : Int32 → Mem → Option (Int32 × Mem)) (v11 : Int32) (M12 : Mem) => jn (fun (_u : Unit) => some ((1 : Int32), M12)) fun j15 => br ((700 : Int32) ≤ v11) (j15 ()) (cp (f_X10_isWord y 28 1017 M12) fun (r18 : Int32) => br (r18 = 0) (j15 ()) (c0 (f_X10_advance y 28 M12) fun (r21 : Int32) (M22 : Mem) => c0 (f_X6_readAnd RC y 29 (n2 w) M22) fun (r23 : Int32) (M24 : Mem) => br (r23 = 0) (some ((0 : Int32), M24)) (gN (M24.2.2 29 1) (gK y (M24.2.2 29 1) (0, 5) (c0 (f_X5_put y (M24.2.2 29 1) ((-11) : Int32) M24) fun (r29 : Int32) (M30 : Mem) => lt (v11 + (1 : Int32)) fun (v31 : Int32) => s13 v31 M30)))))) FUEL (0 : Int32) M8)) fun j6 => br (n2 w < (6 : Int32)) (j6 ()) (br (v4 = 0) (j6 ()) (c0 (f_X10_refuse y 28 (2 : Int32) M) fun (r36 : Int32) (M37 : Mem) => gd (r36 = 0 ∨ r36 = 1) (some (r36, M37))))) (1 : Int32)) ((fun (v4 : Int32) => jn (fun (M6 : Mem) => c0 (f_X12_readAnd RM y 73 (n2 w) M6) fun (r8 : Int32) (M9 : Mem) => fixN (fun _ => none) (fun (s11 : Mem → Option (Int32 × Mem)) (M10 : Mem) => cp (f_X12_is y 73 1035 M10) fun (r13 : Int32) => br (r13 = 0) (some ((0 : Int32), M10)) (c0 (f_X12_stepOn y 73 M10) fun (r16 : Int32) (M17 : Mem) => c0 (f_X12_readAnd RM y 73 (n2 w) M17) fun (r18 : Int32) (M19 : Mem) => c0 (f_X12_lay y 73 ((-27) : Int32) M19) fun (r20 : Int32) (M21 : Mem) => s11 M21)) FUEL M9) fun j7 => br (v4 = 0) (c0 (f_X12_wrong y 73 (1 : Int32) N) fun (r28 : Int32) (M29 : Mem) => j7 M29) (br (n2 w = (6 : Int32)) (c0 (f_X12_wrong y 73 (2 : Int32) N) fun (r26 : Int32) (M27 : Mem) => j7 M27) (j7 N))) (1 : Int32)) (EO e T M0 N0 p L d) := by
    refine J_lj (J_rj (J_rf (by decide) ?_))
    by_cases w6 : w = 6
    · subst w6
      refine J_lf (by decide) (J_lf (by decide) (J_rt rfl ?_))
      refine J_lq (refuse_t hy hM.2.1) (J_rq (wrong_m hy hN.2.1) ?_)
      refine J_lg (Or.inl rfl) (J_rq (readAnd_b hy _ _ (rfM_nz (f := 2) (by decide))) (J_rfx (J_rp (is_b hy (rfM_nz (f := 2) (by decide))) (J_rt rfl (J_s (hF0 _ _ (by decide)))))))
    have HP := HP (by omega)
    refine J_lt (by rw [show (6 : Int32) = n2 6 from rfl, n2_lt (by omega) (by decide)]; omega) (J_rf (by rw [show (6 : Int32) = n2 6 from rfl, n2_inj (by omega) (by decide)]; exact w6) ?_)
    refine J_cc (HP p L C d M N trivial hW (by omega) hL hM hN) (fun r M1 s N1 q => ?_)
    rcases q with ⟨q3, p', L', C', ⟨q4, q4'⟩, q5, q6, m1, n1⟩ | ⟨q3, q4⟩
    · have q3 : r = 1 := q3
      rw [q3]
      refine J_lf (by decide) ?_
      refine J_loopb (fun N => ¬ N.1 73 22 = 0) (fun N => ((0 : Int32), N)) (fun g N hb => by rw [is_b hy hb, cp_s, bR_t rfl]) (fun p1 n M N => (n < p1 ∧ p < p1) ∧ ∃ L1 C1, L1 + p ≤ p1 + L ∧ WFP (mm e) C1 L1 (d + 1) ∧ EC e T M0 p1 L1 C1 M ∧ EM e T N0 p1 L1 C1 N) T.2 (by omega) (n0 := 0) rfl ⟨q4', ⟨by omega, q4⟩, L', C', q5, q6, m1, n1⟩ ?_
      clear m1 n1 q5 q6 q4 q4' L' C' p'
      intro f g p1 n M7 N7 hp1 hI hg hk
      obtain ⟨⟨i1, i2⟩, L1, C1, i3, i4, m1, n1⟩ := hI
      have tc := m1.1
      have tm := n1.1
      have wc : f_X10_isWord y 28 1017 M7 = some (b01 (isW T p1 (strB (1017 - 1000)))) := isWord_c hy hT tc (a := 1017) (by decide)
      have wm : f_X12_is y 73 1035 N7 = some (b01 (isW T p1 (strB (1017 - 1000)))) := is_m hy hT tm n1.2.1 (a := 1035) (by decide)
      refine J_lj (J_lf (by rw [show (700 : Int32) = n2 700 from rfl, n2_le (by decide) (by omega)]; omega) ?_)
      refine J_rp wm ?_
      have fin : ¬ isW T p1 (strB (1017 - 1000)) = true → EO e T M0 N0 p L d ((1 : Int32), M7) ((0 : Int32), N7) := fun _ => Or.inl ⟨rfl, p1, L1, C1, ⟨i2, hp1⟩, i3, i4, m1, n1⟩
      have go : isW T p1 (strB (1017 - 1000)) = true → J (c0 (f_X10_advance y 28 M7) fun (r18 : Int32) (M19 : Mem) => c0 (f_X6_readAnd RC y 29 (n2 w) M19) fun (r20 : Int32) (M21 : Mem) => br (r20 = 0) (some ((0 : Int32), M21)) (gN (M21.2.2 29 1) (gK y (M21.2.2 29 1) (0, 5) (c0 (f_X5_put y (M21.2.2 29 1) (-11) M21) fun (r26 : Int32) (M27 : Mem) => lt (n2 n + (1 : Int32)) fun (v28 : Int32) => f v28 M27)))) (c0 (f_X12_stepOn y 73 N7) fun (r10 : Int32) (M11 : Mem) => c0 (f_X12_readAnd RM y 73 (n2 w) M11) fun (r12 : Int32) (M13 : Mem) => c0 (f_X12_lay y 73 (mc (-11)) M13) fun (r14 : Int32) (M15 : Mem) => g M15) (EO e T M0 N0 p L d) := by
        intro qa
        have hlt := tE_gt hT tc.2.1 (by rw [(isW_iff.mp qa).1]; decide)
        have htE := (tE_sp hT tc.2.1).2
        refine J_lc (m1.adv hy hT) (fun r2 M2 m2 => J_rc (n1.stp hy hT) (fun s2 N2 n2' => ?_))
        refine J_cc (HP (tE T p1) L1 C1 (d + 1) M2 N2 trivial i4 (by omega) (by omega) m2 n2') (fun r3 M3 s3 N3 q2 => ?_)
        rcases q2 with ⟨q3, p', L', C', ⟨q4, q4'⟩, q5, q6, m3, n3⟩ | ⟨q3, q4⟩
        · have q3 : r3 = 1 := q3
          rw [q3]
          refine J_lf (by decide) ?_
          rw [m3.ref, gN_t (ro_n0 e), gK_t (k_ro hy e)]
          refine J_lc (put_c hy m3 (by omega) (-11)) (fun r4 M4 m4 => J_rc (lay_m hy n3 (by omega) (-11)) (fun s4 N4 n4 => J_ll ?_))
          rw [n2_s]
          exact hk p' M4 N4 (by omega) q4' ⟨⟨by omega, by omega⟩, L' + 1, up C' L' (-11), by omega, q6.bin (by omega) (by decide) (by decide), m4, n4⟩
        · have q3 : r3 = 0 := q3
          rw [q3]
          exact J_lt rfl (J_rq (lay_b hy q4.1.bad) (J_rg2 (hg _ q4.1.bad) (J_s (Or.inr ⟨rfl, q4⟩))))
      refine J_lp wc ?_
      by_cases qa : isW T p1 (strB (1017 - 1000)) = true
      · exact J_lf (by rw [b01_0]; exact fun z => z qa) (J_rf (by rw [b01_0]; exact fun z => z qa) (go qa))
      · exact J_lt (by rw [b01_0]; exact qa) (J_rt (by rw [b01_0]; exact qa) (J_s (fin qa)))
    · have q3 : r = 0 := q3
      rw [q3]
      refine J_lt rfl (J_rfx (J_rp (is_b hy q4.1.bad) (J_rt rfl (J_s (Or.inr ⟨rfl, q4⟩)))))
  refine J_lj (J_lj (J_rj (J_rj ?_)))
  by_cases k2 : tK T p = 2
  · exact J_lt ((kCl_k hT hp).2.2.mpr k2) (J_rt ((kMd_k T p).2.2.mpr k2) opn)
  refine J_lf (fun z => k2 ((kCl_k hT hp).2.2.mp z)) (J_rf (fun z => k2 ((kMd_k T p).2.2.mp z)) ?_)
  by_cases k1 : tK T p = 1
  · exact J_lt ((kCl_k hT hp).2.1.mpr k1) (J_rt ((kMd_k T p).2.1.mpr k1) opn)
  refine J_lf (fun z => k1 ((kCl_k hT hp).2.1.mp z)) (J_rf (fun z => k1 ((kMd_k T p).2.1.mp z)) ?_)
  refine J_rp (isMarked_m hy hT tm hN.2.1 (c := 40) (by decide) (by decide)) ?_
  by_cases qs : isS T p 40 = true
  · exact J_lt ((kCl_c hT hp (c := 40) (by decide)).mpr qs) (J_rf (by rw [b01_0]; exact fun z => z qs) opn)
  refine J_lf (fun z => qs ((kCl_c hT hp (c := 40) (by decide)).mp z)) (J_rt (by rw [b01_0]; exact qs) ?_)
  refine J_lj (J_rj (J_rt rfl (J_rq (wrong_m hy hN.2.1) (J_rq (readAnd_b hy _ _ (rfM_nz (f := 1) (by decide))) (J_rfx (J_rp (is_b hy (rfM_nz (f := 1) (by decide))) (J_rt rfl ?_)))))))
  have no := readAnd_no hy hT (RC := RC) (a := n2 w) tc hM.2.1 ⟨k1, k2, qs⟩
  have fin : J (c0 (f_X6_readAnd RC y 29 (n2 w) M) fun (r7 : Int32) (M8 : Mem) => br (r7 = 0) (some ((0 : Int32), M8)) (fixN (fun _ _ => none) (fun (s13 : Int32 → Mem → Option (Int32 × Mem)) (v11 : Int32) (M12 : Mem) => jn (fun (_u : Unit) => some ((1 : Int32), M12)) fun j15 => br ((700 : Int32) ≤ v11) (j15 ()) (cp (f_X10_isWord y 28 1017 M12) fun (r18 : Int32) => br (r18 = 0) (j15 ()) (c0 (f_X10_advance y 28 M12) fun (r21 : Int32) (M22 : Mem) => c0 (f_X6_readAnd RC y 29 (n2 w) M22) fun (r23 : Int32) (M24 : Mem) => br (r23 = 0) (some ((0 : Int32), M24)) (gN (M24.2.2 29 1) (gK y (M24.2.2 29 1) (0, 5) (c0 (f_X5_put y (M24.2.2 29 1) ((-11) : Int32) M24) fun (r29 : Int32) (M30 : Mem) => lt (v11 + (1 : Int32)) fun (v31 : Int32) => s13 v31 M30)))))) FUEL (0 : Int32) M8)) (some ((0 : Int32), rfM N 1 (N.1 73 20))) (EO e T M0 N0 p L d) := J_lq no (J_lt rfl (J_s (hF0 _ _ (by decide))))
  by_cases w6 : w = 6
  · subst w6
    exact J_lf (by decide) (J_lt rfl fin)
  · exact J_lt (by rw [show (6 : Int32) = n2 6 from rfl, n2_lt (by omega) (by decide)]; omega) fin
/-! all within one another -/
abbrev rcN (m : Nat) : Lay → Nat → Int32 → Mem → Option (Int32 × Mem) := fixN (fun _ _ _ _ => none) (fun R => f_X6_readExprB R) m
abbrev rmN (m : Nat) : Lay → Nat → Int32 → Mem → Option (Int32 × Mem) := fixN (fun _ _ _ _ => none) (fun R => f_X12_readExpressionB R) m
theorem rmN_b {y : Lay} (hy : LY y) (m : Nat) : EBad y (rmN (m + 1)) := readExpressionB_b hy
theorem expr_J {y : Lay} (hy : LY y) {T : Tx} (hT : TOK T) {e : Bool} {M0 N0 : Mem} : ∀ k w m, w + k = 6 → EX y e T M0 N0 w (5 * w) (fun _ => True) (rcN (m + k + 2)) (rmN (m + k + 2)) := by
  intro k
  induction k with
  | zero =>
    intro w m hw
    exact exprB_J hy hT (w := w) (by omega) (by omega) (RC := rcN (m + 1)) (RM := rmN (m + 1)) (fun q => by omega)
  | succ k ih =>
    intro w m hw
    have HR := ih (w + 1) m (by omega)
    have HPt := (readPart_J hy hT (w := w) (by omega) (fun _ => HR) (rmN_b hy (m + k + 1))).mono (D' := 5 * w + 5) (P' := fun _ => True) (Nat.le_refl _) (fun p _ => Or.inl (by omega))
    exact exprB_J hy hT (by omega) (by omega) (fun _ => readAnd_J hy hT (by omega) (readNot_J hy hT (by omega) (readSum_J hy hT (by omega) (readProduct_J hy hT (by omega) HPt))))
theorem readExpr_J {y : Lay} (hy : LY y) {T : Tx} (hT : TOK T) {e : Bool} {M0 N0 : Mem} : EX y e T M0 N0 0 0 (fun _ => True) f_X6_readExpr f_X12_readExpression := expr_J hy hT 6 0 4 rfl
