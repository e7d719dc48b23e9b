/-! ===== a line ===== -/
theorem isW_x {T : Tx} {p : Nat} {l l' : List Int32} (h : isW T p l = true) (h' : isW T p l' = true) : l = l' := by
  obtain ⟨-, a2, a3⟩ := isW_iff.mp h
  obtain ⟨-, b2, b3⟩ := isW_iff.mp h'
  have e : l.length = l'.length := by omega
  refine List.ext_getElem e (fun i h1 h2 => ?_)
  have x1 := a3 i h1
  have x2 := b3 i h2
  rw [List.getD_eq_getElem?_getD, List.getElem?_eq_getElem h1] at x1
  rw [List.getD_eq_getElem?_getD, List.getElem?_eq_getElem h2] at x2
  have x1 : n2 (T.1 (tS T p + i)) = l[i] := x1
  have x2 : n2 (T.1 (tS T p + i)) = l'[i] := x2
  rw [← x1, x2]
theorem isW_o {T : Tx} {p a b : Nat} (h : isW T p (strB a) = true) (hne : ¬ strB a = strB b) : ¬ isW T p (strB b) = true := fun z => hne (isW_x h z)
theorem which74 {y : Lay} (hy : LY y) {T : Tx} (hT : TOK T) {N : Mem} {p : Nat} (h : TM T N p) (hb : N.1 73 22 = 0) : f_X12_which y 73 74 N = some (if isW T p (strB 2) = true then 0 else if isW T p (strB 3) = true then 1 else -1) := by
  have w0 : f_X12_is y 73 1019 N = some (b01 (isW T p (strB 2))) := is_m hy hT h hb (a := 1019) (by decide)
  have w1 : f_X12_is y 73 1020 N = some (b01 (isW T p (strB 3))) := is_m hy hT h hb (a := 1020) (by decide)
  refine wp_eq ?_
  unfold f_X12_which
  rw [fxF, gT_t (by rw [k_74 hy]), k_74 hy]
  refine wp_brf (by decide) ?_
  rw [gA_t (k_74 hy) (by decide), show y.2.1 74 (0 : Int32).toNatClampNeg = 1019 from r_74_0 hy, gN_t (by decide), gK_t (k_73 hy), w0, cp_s]
  by_cases q : isW T p (strB 2) = true
  · rw [if_pos q]
    exact wp_brf (by rw [b01_0]; exact fun z => z q) (wp_some rfl)
  · rw [if_neg q]
    refine wp_brt (by rw [b01_0]; exact q) (wp_lt ?_)
    rw [show (99999 : Nat) = 99998 + 1 from rfl]
    show wp (gT y 74 4 _) _
    rw [gT_t (by rw [k_74 hy])]
    refine wp_brf (by decide) ?_
    rw [gA_t (k_74 hy) (by decide), show y.2.1 74 ((0 : Int32) + 1).toNatClampNeg = 1020 from r_74_1 hy, gN_t (by decide), gK_t (k_73 hy), w1, cp_s]
    by_cases q2 : isW T p (strB 3) = true
    · rw [if_pos q2]
      exact wp_brf (by rw [b01_0]; exact fun z => z q2) (wp_some rfl)
    · rw [if_neg q2]
      refine wp_brt (by rw [b01_0]; exact q2) (wp_lt ?_)
      try rw [show (99998 : Nat) = 99997 + 1 from rfl]
      show wp (gT y 74 4 _) _
      rw [gT_t (by rw [k_74 hy])]
      exact wp_brt (by decide) (wp_some rfl)
/-- behind what was wrong -/
theorem tail_b {y : Lay} (hy : LY y) {N : Mem} (hb : ¬ N.1 73 22 = 0) {x : Int32} : (br ((-1 : Int32) = ((-1) : Int32)) (cp (f_X12_is y 73 1021 N) fun (r18 : Int32) => br (r18 = 0) (cp (f_X12_is y 73 1036 N) fun (r21 : Int32) => br (r21 = 0) (c0 (f_X12_wrong y 73 (1 : Int32) N) fun (r24 : Int32) (M25 : Mem) => c0 (f_X12_mark y 73 (59 : Int32) M25) fun (r13 : Int32) (M14 : Mem) => some (x, M14)) (c0 (f_X12_sayPegs y 73 N) fun (r26 : Int32) (M27 : Mem) => c0 (f_X12_mark y 73 (59 : Int32) M27) fun (r13 : Int32) (M14 : Mem) => some (x, M14))) (c0 (f_X12_sayBlue y 73 N) fun (r28 : Int32) (M29 : Mem) => c0 (f_X12_mark y 73 (59 : Int32) M29) fun (r13 : Int32) (M14 : Mem) => some (x, M14))) (c0 (f_X12_sayWoman y 73 (-1) N) fun (r30 : Int32) (M31 : Mem) => c0 (f_X12_mark y 73 (59 : Int32) M31) fun (r13 : Int32) (M14 : Mem) => some (x, M14))) = some (x, N) := by
  rw [bR_t (show (-1 : Int32) = -1 from rfl), is_b hy hb, cp_s, bR_t (show (0 : Int32) = 0 from rfl), is_b hy hb, cp_s, bR_t (show (0 : Int32) = 0 from rfl), wrong_b hy hb, c0_s, mark_b hy hb, c0_s]
theorem J_bad {y : Lay} (hy : LY y) {T : Tx} {p : Nat} {M0 N0 M N : Mem} {x : Int32} {Z : Option (Int32 × Mem)} (e : Z = some (x, N)) (h : LF M0 N0 M N) : J (gd ((0 : Int32) = 0 ∨ (0 : Int32) = 1) (some ((0 : Int32), M))) Z (LO T M0 N0 p) := by
  rw [e]
  exact J_lg (Or.inl rfl) (J_s (Or.inr ⟨rfl, h⟩))
theorem readRule_w {y : Lay} (hy : LY y) (e : Bool) {T : Tx} {p : Nat} {D : Dr} {M0 M : Mem} (h : CS T p D M0 M) (hk : ¬ dT D &&& kr1 e = 0) : f_X2_readRule y 12 (kr1 e) (ro e) M = some (0, rfC M 5 (M.1 28 3)) := by
  unfold f_X2_readRule
  rw [gK_t (k_12 hy), once_w hy h hk, c0_s, bR_t rfl]
theorem readLine_J {y : Lay} (hy : LY y) {T : Tx} (hT : TOK T) {p : Nat} {D : Dr} {M0 N0 M N : Mem} (h : CS T p D M0 M) (g : MS T p D N0 N) (hD : DV D) : J (f_X2_readLine y 12 M) (f_X12_readLine y 73 (dT D) N) (LO T M0 N0 p) := by
  have c0 : f_X10_isWord y 28 1000 M = some (b01 (isW T p (strB 0))) := isWord_c hy hT h.1 (a := 1000) (by decide)
  have c1 : f_X10_isWord y 28 1001 M = some (b01 (isW T p (strB 1))) := isWord_c hy hT h.1 (a := 1001) (by decide)
  have c2 : f_X10_isWord y 28 1002 M = some (b01 (isW T p (strB 2))) := isWord_c hy hT h.1 (a := 1002) (by decide)
  have c3 : f_X10_isWord y 28 1003 M = some (b01 (isW T p (strB 3))) := isWord_c hy hT h.1 (a := 1003) (by decide)
  have c4 : f_X10_isWord y 28 1004 M = some (b01 (isW T p (strB 4))) := isWord_c hy hT h.1 (a := 1004) (by decide)
  have c5 : f_X10_isWord y 28 1005 M = some (b01 (isW T p (strB 5))) := isWord_c hy hT h.1 (a := 1005) (by decide)
  have c6 : f_X10_isWord y 28 1006 M = some (b01 (isW T p (strB 6))) := isWord_c hy hT h.1 (a := 1006) (by decide)
  have c7 : f_X10_isWord y 28 1007 M = some (b01 (isW T p (strB 7))) := isWord_c hy hT h.1 (a := 1007) (by decide)
  have c8 : f_X10_isWord y 28 1008 M = some (b01 (isW T p (strB 8))) := isWord_c hy hT h.1 (a := 1008) (by decide)
  have c18 : f_X10_isWord y 28 1018 M = some (b01 (isW T p (strB 18))) := isWord_c hy hT h.1 (a := 1018) (by decide)
  have m0 : f_X12_is y 73 1027 N = some (b01 (isW T p (strB 0))) := is_m hy hT g.1 g.2.1 (a := 1027) (by decide)
  have m5 : f_X12_is y 73 1028 N = some (b01 (isW T p (strB 5))) := is_m hy hT g.1 g.2.1 (a := 1028) (by decide)
  have m6 : f_X12_is y 73 1029 N = some (b01 (isW T p (strB 6))) := is_m hy hT g.1 g.2.1 (a := 1029) (by decide)
  have m7 : f_X12_is y 73 1030 N = some (b01 (isW T p (strB 7))) := is_m hy hT g.1 g.2.1 (a := 1030) (by decide)
  have m8 : f_X12_is y 73 1031 N = some (b01 (isW T p (strB 8))) := is_m hy hT g.1 g.2.1 (a := 1031) (by decide)
  have m18 : f_X12_is y 73 1032 N = some (b01 (isW T p (strB 18))) := is_m hy hT g.1 g.2.1 (a := 1032) (by decide)
  have m1 : f_X12_is y 73 1021 N = some (b01 (isW T p (strB 1))) := is_m hy hT g.1 g.2.1 (a := 1021) (by decide)
  have m4 : f_X12_is y 73 1036 N = some (b01 (isW T p (strB 4))) := is_m hy hT g.1 g.2.1 (a := 1036) (by decide)
  have mw := which74 hy hT g.1 g.2.1
  have z0 : dT D ||| 0 = dT D := Int32.or_zero
  unfold f_X2_readLine f_X12_readLine
  rw [r_12_0 hy, r_12_2 hy, r_73_0 hy]
  refine J_lK (k_12 hy) (J_lN (by decide) (J_lK (k_28 hy) ?_))
  refine J_rK (k_73 hy) (J_rN (by decide) (J_rp mw ?_))
  by_cases q0 : isW T p (strB 0) = true
  · -- sky
    have q1 : ¬ isW T p (strB 1) = true := isW_o q0 (by decide)
    have q2 : ¬ isW T p (strB 2) = true := isW_o q0 (by decide)
    have q3 : ¬ isW T p (strB 3) = true := isW_o q0 (by decide)
    have q4 : ¬ isW T p (strB 4) = true := isW_o q0 (by decide)
    have q5 : ¬ isW T p (strB 5) = true := isW_o q0 (by decide)
    have q6 : ¬ isW T p (strB 6) = true := isW_o q0 (by decide)
    have q7 : ¬ isW T p (strB 7) = true := isW_o q0 (by decide)
    have q8 : ¬ isW T p (strB 8) = true := isW_o q0 (by decide)
    have q18 : ¬ isW T p (strB 18) = true := isW_o q0 (by decide)
    refine J_lp c0 (J_lf (by rw [b01_0]; exact fun z => z q0) ?_)
    refine J_rp m0 (J_rj (J_rf (by rw [b01_0]; exact fun z => z q0) ?_))
    refine J_rj (J_rt rfl ?_)
    rw [if_neg q2, if_neg q3, g.2.2.1.2.2.2.2.2]
    cases hA : dA D with
    | true =>
      have w : f_X2_readSky y 12 M = some (0, rfC M 4 (M.1 28 3)) := by
        unfold f_X2_readSky
        rw [gK_t (k_12 hy), bR_f (by rw [h.2.2.1.2.2.2.2.2, hA]; decide), r_12_0 hy, gN_t (by decide), gK_t (k_28 hy), refuse_t hy h.2.1, c0_s]
        exact gd_t (Or.inl rfl)
      have nb : ¬ (rfM N 4 (N.1 73 20)).1 73 22 = 0 := rfM_nz (by decide)
      refine J_lq w (J_rf (by decide) (J_rq (wrong_m hy g.2.1) (J_rj ?_)))
      by_cases hk : (1 : Int32) &&& dT D = 0
      · refine J_rt hk (J_rj (J_rj (J_rf (by decide) (J_rf nb ?_))))
        exact J_bad hy (tail_b hy nb) (LF.mk h g (by decide))
      · refine J_rf hk (J_rq (wrong_b hy nb) (J_rj (J_rj (J_rf (by decide) (J_rf nb ?_)))))
        exact J_bad hy (tail_b hy nb) (LF.mk h g (by decide))
    | false =>
      refine J_rt rfl (J_rj ?_)
      by_cases hk : (1 : Int32) &&& dT D = 0
      · refine J_rt hk (J_rj (J_rj (J_rf (by decide) (J_rt g.2.1 ?_))))
        exact readSky_J hy hT h g hD hA (by rw [Int32.and_comm]; exact hk) rfl
      · have nb : ¬ (rfM N 5 (N.1 73 20)).1 73 22 = 0 := rfM_nz (by decide)
        have hk2 : ¬ dT D &&& 1 = 0 := by rw [Int32.and_comm]; exact hk
        have w : f_X2_readSky y 12 M = some (0, rfC M 5 (M.1 28 3)) := by
          unfold f_X2_readSky
          rw [gK_t (k_12 hy), bR_t (by rw [h.2.2.1.2.2.2.2.2, hA]; rfl), once_w hy h hk2, c0_s, bR_t rfl]
        refine J_lq w (J_rf hk (J_rq (wrong_m hy g.2.1) (J_rj (J_rj (J_rf (by decide) (J_rf nb ?_))))))
        exact J_bad hy (tail_b hy nb) (LF.mk h g (by decide))
  by_cases q1 : isW T p (strB 1) = true
  · -- blue
    have q2 : ¬ isW T p (strB 2) = true := isW_o q1 (by decide)
    have q3 : ¬ isW T p (strB 3) = true := isW_o q1 (by decide)
    have q4 : ¬ isW T p (strB 4) = true := isW_o q1 (by decide)
    have q5 : ¬ isW T p (strB 5) = true := isW_o q1 (by decide)
    have q6 : ¬ isW T p (strB 6) = true := isW_o q1 (by decide)
    have q7 : ¬ isW T p (strB 7) = true := isW_o q1 (by decide)
    have q8 : ¬ isW T p (strB 8) = true := isW_o q1 (by decide)
    have q18 : ¬ isW T p (strB 18) = true := isW_o q1 (by decide)
    refine J_lp c0 (J_lt (by rw [b01_0]; exact q0) (J_lp c1 (J_lf (by rw [b01_0]; exact fun z => z q1) ?_)))
    refine J_rp m0 (J_rj (J_rt (by rw [b01_0]; exact q0) (J_rp m5 (J_rt (by rw [b01_0]; exact q5) (J_rp m6 (J_rt (by rw [b01_0]; exact q6) (J_rp m7 (J_rt (by rw [b01_0]; exact q7) (J_rp m8 (J_rt (by rw [b01_0]; exact q8) (J_rp m18 (J_rt (by rw [b01_0]; exact q18) ?_))))))))))))
    refine J_rj (J_rf (by decide) (J_rj (J_rt Int32.zero_and (J_rj (J_rj (J_rt (by decide) ?_))))))
    rw [if_neg q2, if_neg q3]
    refine J_rt rfl (J_rp m1 (J_rf (by rw [b01_0]; exact fun z => z q1) ?_))
    exact readBlue_J hy hT h g hD z0
  by_cases q2 : isW T p (strB 2) = true
  · -- girl
    have q3 : ¬ isW T p (strB 3) = true := isW_o q2 (by decide)
    have q4 : ¬ isW T p (strB 4) = true := isW_o q2 (by decide)
    have q5 : ¬ isW T p (strB 5) = true := isW_o q2 (by decide)
    have q6 : ¬ isW T p (strB 6) = true := isW_o q2 (by decide)
    have q7 : ¬ isW T p (strB 7) = true := isW_o q2 (by decide)
    have q8 : ¬ isW T p (strB 8) = true := isW_o q2 (by decide)
    have q18 : ¬ isW T p (strB 18) = true := isW_o q2 (by decide)
    refine J_lp c0 (J_lt (by rw [b01_0]; exact q0) (J_lp c1 (J_lt (by rw [b01_0]; exact q1) (J_lp c2 (J_lf (by rw [b01_0]; exact fun z => z q2) ?_)))))
    refine J_rp m0 (J_rj (J_rt (by rw [b01_0]; exact q0) (J_rp m5 (J_rt (by rw [b01_0]; exact q5) (J_rp m6 (J_rt (by rw [b01_0]; exact q6) (J_rp m7 (J_rt (by rw [b01_0]; exact q7) (J_rp m8 (J_rt (by rw [b01_0]; exact q8) (J_rp m18 (J_rt (by rw [b01_0]; exact q18) ?_))))))))))))
    refine J_rj (J_rf (by decide) (J_rj (J_rt Int32.zero_and (J_rj (J_rj (J_rt (by decide) ?_))))))
    rw [if_pos q2]
    refine J_rf (by decide) ?_
    exact readGirl_J hy hT h g hD (Or.inl rfl) z0
  by_cases q3 : isW T p (strB 3) = true
  · -- old
    have q4 : ¬ isW T p (strB 4) = true := isW_o q3 (by decide)
    have q5 : ¬ isW T p (strB 5) = true := isW_o q3 (by decide)
    have q6 : ¬ isW T p (strB 6) = true := isW_o q3 (by decide)
    have q7 : ¬ isW T p (strB 7) = true := isW_o q3 (by decide)
    have q8 : ¬ isW T p (strB 8) = true := isW_o q3 (by decide)
    have q18 : ¬ isW T p (strB 18) = true := isW_o q3 (by decide)
    refine J_lp c0 (J_lt (by rw [b01_0]; exact q0) (J_lp c1 (J_lt (by rw [b01_0]; exact q1) (J_lp c2 (J_lt (by rw [b01_0]; exact q2) (J_lp c3 (J_lf (by rw [b01_0]; exact fun z => z q3) ?_)))))))
    refine J_rp m0 (J_rj (J_rt (by rw [b01_0]; exact q0) (J_rp m5 (J_rt (by rw [b01_0]; exact q5) (J_rp m6 (J_rt (by rw [b01_0]; exact q6) (J_rp m7 (J_rt (by rw [b01_0]; exact q7) (J_rp m8 (J_rt (by rw [b01_0]; exact q8) (J_rp m18 (J_rt (by rw [b01_0]; exact q18) ?_))))))))))))
    refine J_rj (J_rf (by decide) (J_rj (J_rt Int32.zero_and (J_rj (J_rj (J_rt (by decide) ?_))))))
    rw [if_neg q2, if_pos q3]
    refine J_rf (by decide) ?_
    exact readGirl_J hy hT h g hD (Or.inr rfl) z0
  by_cases q4 : isW T p (strB 4) = true
  · -- peg
    have q5 : ¬ isW T p (strB 5) = true := isW_o q4 (by decide)
    have q6 : ¬ isW T p (strB 6) = true := isW_o q4 (by decide)
    have q7 : ¬ isW T p (strB 7) = true := isW_o q4 (by decide)
    have q8 : ¬ isW T p (strB 8) = true := isW_o q4 (by decide)
    have q18 : ¬ isW T p (strB 18) = true := isW_o q4 (by decide)
    refine J_lp c0 (J_lt (by rw [b01_0]; exact q0) (J_lp c1 (J_lt (by rw [b01_0]; exact q1) (J_lp c2 (J_lt (by rw [b01_0]; exact q2) (J_lp c3 (J_lt (by rw [b01_0]; exact q3) (J_lp c4 (J_lf (by rw [b01_0]; exact fun z => z q4) ?_)))))))))
    refine J_rp m0 (J_rj (J_rt (by rw [b01_0]; exact q0) (J_rp m5 (J_rt (by rw [b01_0]; exact q5) (J_rp m6 (J_rt (by rw [b01_0]; exact q6) (J_rp m7 (J_rt (by rw [b01_0]; exact q7) (J_rp m8 (J_rt (by rw [b01_0]; exact q8) (J_rp m18 (J_rt (by rw [b01_0]; exact q18) ?_))))))))))))
    refine J_rj (J_rf (by decide) (J_rj (J_rt Int32.zero_and (J_rj (J_rj (J_rt (by decide) ?_))))))
    rw [if_neg q2, if_neg q3]
    refine J_rt rfl (J_rp m1 (J_rt (by rw [b01_0]; exact q1) (J_rp m4 (J_rf (by rw [b01_0]; exact fun z => z q4) ?_))))
    exact readPegs_J hy hT h g hD z0
  by_cases q5 : isW T p (strB 5) = true
  · -- knobs
    have q6 : ¬ isW T p (strB 6) = true := isW_o q5 (by decide)
    have q7 : ¬ isW T p (strB 7) = true := isW_o q5 (by decide)
    have q8 : ¬ isW T p (strB 8) = true := isW_o q5 (by decide)
    have q18 : ¬ isW T p (strB 18) = true := isW_o q5 (by decide)
    refine J_lp c0 (J_lt (by rw [b01_0]; exact q0) (J_lp c1 (J_lt (by rw [b01_0]; exact q1) (J_lp c2 (J_lt (by rw [b01_0]; exact q2) (J_lp c3 (J_lt (by rw [b01_0]; exact q3) (J_lp c4 (J_lt (by rw [b01_0]; exact q4) (J_lp c5 (J_lf (by rw [b01_0]; exact fun z => z q5) ?_)))))))))))
    refine J_rp m0 (J_rj (J_rt (by rw [b01_0]; exact q0) (J_rp m5 (J_rf (by rw [b01_0]; exact fun z => z q5) ?_))))
    refine J_rj (J_rf (by decide) (J_rj ?_))
    rw [if_neg q2, if_neg q3]
    by_cases hk : (2 : Int32) &&& dT D = 0
    · refine J_rt hk (J_rj (J_rj (J_rf (by decide) (J_rt g.2.1 ?_))))
      exact readKnobs_J hy hT h g hD (by rw [Int32.and_comm]; exact hk) rfl
    · have nb : ¬ (rfM N 5 (N.1 73 20)).1 73 22 = 0 := rfM_nz (by decide)
      refine J_lq (readKnobs_w hy h (by rw [Int32.and_comm]; exact hk)) (J_rf hk (J_rq (wrong_m hy g.2.1) (J_rj (J_rj (J_rf (by decide) (J_rf nb ?_))))))
      exact J_bad hy (tail_b hy nb) (LF.mk h g (by decide))
  by_cases q6 : isW T p (strB 6) = true
  · -- rinse
    have q7 : ¬ isW T p (strB 7) = true := isW_o q6 (by decide)
    have q8 : ¬ isW T p (strB 8) = true := isW_o q6 (by decide)
    have q18 : ¬ isW T p (strB 18) = true := isW_o q6 (by decide)
    refine J_lp c0 (J_lt (by rw [b01_0]; exact q0) (J_lp c1 (J_lt (by rw [b01_0]; exact q1) (J_lp c2 (J_lt (by rw [b01_0]; exact q2) (J_lp c3 (J_lt (by rw [b01_0]; exact q3) (J_lp c4 (J_lt (by rw [b01_0]; exact q4) (J_lp c5 (J_lt (by rw [b01_0]; exact q5) (J_lp c6 (J_lf (by rw [b01_0]; exact fun z => z q6) ?_)))))))))))))
    refine J_rp m0 (J_rj (J_rt (by rw [b01_0]; exact q0) (J_rp m5 (J_rt (by rw [b01_0]; exact q5) (J_rp m6 (J_rf (by rw [b01_0]; exact fun z => z q6) ?_))))))
    refine J_rj (J_rf (by decide) (J_rj ?_))
    rw [if_neg q2, if_neg q3]
    by_cases hk : (4 : Int32) &&& dT D = 0
    · refine J_rt hk (J_rj (J_rj (J_rf (by decide) (J_rt g.2.1 ?_))))
      exact readRinse_J hy hT h g hD (by rw [Int32.and_comm]; exact hk) rfl
    · have nb : ¬ (rfM N 5 (N.1 73 20)).1 73 22 = 0 := rfM_nz (by decide)
      refine J_lq (readRinse_w hy h (by rw [Int32.and_comm]; exact hk)) (J_rf hk (J_rq (wrong_m hy g.2.1) (J_rj (J_rj (J_rf (by decide) (J_rf nb ?_))))))
      exact J_bad hy (tail_b hy nb) (LF.mk h g (by decide))
  by_cases q7 : isW T p (strB 7) = true
  · -- bound
    have q8 : ¬ isW T p (strB 8) = true := isW_o q7 (by decide)
    have q18 : ¬ isW T p (strB 18) = true := isW_o q7 (by decide)
    refine J_lp c0 (J_lt (by rw [b01_0]; exact q0) (J_lp c1 (J_lt (by rw [b01_0]; exact q1) (J_lp c2 (J_lt (by rw [b01_0]; exact q2) (J_lp c3 (J_lt (by rw [b01_0]; exact q3) (J_lp c4 (J_lt (by rw [b01_0]; exact q4) (J_lp c5 (J_lt (by rw [b01_0]; exact q5) (J_lp c6 (J_lt (by rw [b01_0]; exact q6) (J_lp c7 (J_lf (by rw [b01_0]; exact fun z => z q7) ?_)))))))))))))))
    refine J_rp m0 (J_rj (J_rt (by rw [b01_0]; exact q0) (J_rp m5 (J_rt (by rw [b01_0]; exact q5) (J_rp m6 (J_rt (by rw [b01_0]; exact q6) (J_rp m7 (J_rf (by rw [b01_0]; exact fun z => z q7) ?_))))))))
    refine J_rj (J_rf (by decide) (J_rj ?_))
    rw [if_neg q2, if_neg q3]
    by_cases hk : (8 : Int32) &&& dT D = 0
    · refine J_rt hk (J_rj (J_rj (J_rf (by decide) (J_rt g.2.1 ?_))))
      exact readBound_J hy hT h g hD (by rw [Int32.and_comm]; exact hk) rfl
    · have nb : ¬ (rfM N 5 (N.1 73 20)).1 73 22 = 0 := rfM_nz (by decide)
      refine J_lq (readBound_w hy h (by rw [Int32.and_comm]; exact hk)) (J_rf hk (J_rq (wrong_m hy g.2.1) (J_rj (J_rj (J_rf (by decide) (J_rf nb ?_))))))
      exact J_bad hy (tail_b hy nb) (LF.mk h g (by decide))
  by_cases q8 : isW T p (strB 8) = true
  · -- dyes
    have q18 : ¬ isW T p (strB 18) = true := isW_o q8 (by decide)
    refine J_lp c0 (J_lt (by rw [b01_0]; exact q0) (J_lp c1 (J_lt (by rw [b01_0]; exact q1) (J_lp c2 (J_lt (by rw [b01_0]; exact q2) (J_lp c3 (J_lt (by rw [b01_0]; exact q3) (J_lp c4 (J_lt (by rw [b01_0]; exact q4) (J_lp c5 (J_lt (by rw [b01_0]; exact q5) (J_lp c6 (J_lt (by rw [b01_0]; exact q6) (J_lp c7 (J_lt (by rw [b01_0]; exact q7) (J_lp c8 (J_lf (by rw [b01_0]; exact fun z => z q8) ?_)))))))))))))))))
    refine J_rp m0 (J_rj (J_rt (by rw [b01_0]; exact q0) (J_rp m5 (J_rt (by rw [b01_0]; exact q5) (J_rp m6 (J_rt (by rw [b01_0]; exact q6) (J_rp m7 (J_rt (by rw [b01_0]; exact q7) (J_rp m8 (J_rf (by rw [b01_0]; exact fun z => z q8) ?_))))))))))
    rw [r_13_7 hy]
    refine J_lN (by decide) (J_lK (k_13 hy) (J_lN (by decide) ?_))
    refine J_rj (J_rf (by decide) (J_rj ?_))
    rw [if_neg q2, if_neg q3]
    by_cases hk : (16 : Int32) &&& dT D = 0
    · refine J_rt hk (J_rj (J_rj (J_rf (by decide) (J_rt g.2.1 ?_))))
      exact readRule_J hy hT true h g hD (by rw [Int32.and_comm]; exact hk) rfl
    · have nb : ¬ (rfM N 5 (N.1 73 20)).1 73 22 = 0 := rfM_nz (by decide)
      refine J_lq (readRule_w hy true h (by rw [Int32.and_comm]; exact hk)) (J_rf hk (J_rq (wrong_m hy g.2.1) (J_rj (J_rj (J_rf (by decide) (J_rf nb ?_))))))
      exact J_bad hy (tail_b hy nb) (LF.mk h g (by decide))
  by_cases q18 : isW T p (strB 18) = true
  · -- fades
    refine J_lp c0 (J_lt (by rw [b01_0]; exact q0) (J_lp c1 (J_lt (by rw [b01_0]; exact q1) (J_lp c2 (J_lt (by rw [b01_0]; exact q2) (J_lp c3 (J_lt (by rw [b01_0]; exact q3) (J_lp c4 (J_lt (by rw [b01_0]; exact q4) (J_lp c5 (J_lt (by rw [b01_0]; exact q5) (J_lp c6 (J_lt (by rw [b01_0]; exact q6) (J_lp c7 (J_lt (by rw [b01_0]; exact q7) (J_lp c8 (J_lt (by rw [b01_0]; exact q8) (J_lp c18 (J_lf (by rw [b01_0]; exact fun z => z q18) ?_)))))))))))))))))))
    refine J_rp m0 (J_rj (J_rt (by rw [b01_0]; exact q0) (J_rp m5 (J_rt (by rw [b01_0]; exact q5) (J_rp m6 (J_rt (by rw [b01_0]; exact q6) (J_rp m7 (J_rt (by rw [b01_0]; exact q7) (J_rp m8 (J_rt (by rw [b01_0]; exact q8) (J_rp m18 (J_rf (by rw [b01_0]; exact fun z => z q18) ?_))))))))))))
    rw [r_13_8 hy]
    refine J_lN (by decide) (J_lK (k_13 hy) (J_lN (by decide) ?_))
    refine J_rj (J_rf (by decide) (J_rj ?_))
    rw [if_neg q2, if_neg q3]
    by_cases hk : (32 : Int32) &&& dT D = 0
    · refine J_rt hk (J_rj (J_rj (J_rf (by decide) (J_rt g.2.1 ?_))))
      exact readRule_J hy hT false h g hD (by rw [Int32.and_comm]; exact hk) rfl
    · have nb : ¬ (rfM N 5 (N.1 73 20)).1 73 22 = 0 := rfM_nz (by decide)
      refine J_lq (readRule_w hy false h (by rw [Int32.and_comm]; exact hk)) (J_rf hk (J_rq (wrong_m hy g.2.1) (J_rj (J_rj (J_rf (by decide) (J_rf nb ?_))))))
      exact J_bad hy (tail_b hy nb) (LF.mk h g (by decide))
  -- no word of a line
  refine J_lp c0 (J_lt (by rw [b01_0]; exact q0) (J_lp c1 (J_lt (by rw [b01_0]; exact q1) (J_lp c2 (J_lt (by rw [b01_0]; exact q2) (J_lp c3 (J_lt (by rw [b01_0]; exact q3) (J_lp c4 (J_lt (by rw [b01_0]; exact q4) (J_lp c5 (J_lt (by rw [b01_0]; exact q5) (J_lp c6 (J_lt (by rw [b01_0]; exact q6) (J_lp c7 (J_lt (by rw [b01_0]; exact q7) (J_lp c8 (J_lt (by rw [b01_0]; exact q8) (J_lp c18 (J_lt (by rw [b01_0]; exact q18) ?_)))))))))))))))))))
  refine J_rp m0 (J_rj (J_rt (by rw [b01_0]; exact q0) (J_rp m5 (J_rt (by rw [b01_0]; exact q5) (J_rp m6 (J_rt (by rw [b01_0]; exact q6) (J_rp m7 (J_rt (by rw [b01_0]; exact q7) (J_rp m8 (J_rt (by rw [b01_0]; exact q8) (J_rp m18 (J_rt (by rw [b01_0]; exact q18) ?_))))))))))))
  refine J_rj (J_rf (by decide) (J_rj (J_rt Int32.zero_and (J_rj (J_rj (J_rt (by decide) ?_))))))
  rw [if_neg q2, if_neg q3]
  refine J_rt rfl (J_rp m1 (J_rt (by rw [b01_0]; exact q1) (J_rp m4 (J_rt (by rw [b01_0]; exact q4) ?_))))
  refine J_lq (refuse_t hy h.2.1) (J_rq (wrong_m hy g.2.1) (J_rq (mark_b hy (rfM_nz (f := 1) (by decide))) ?_))
  exact J_bad hy rfl (LF.mk h g (by decide))
