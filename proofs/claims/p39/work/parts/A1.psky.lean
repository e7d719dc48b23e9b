/-! ===== lines: sky, dyes and fades ===== -/
def dW (D : Dr) (w : Nat) : Dr := (((w, (dK D).1.2), (dK D).2), D.2)
def dH (D : Dr) (h : Nat) : Dr := (((kw (dK D), h, (dK D).1.2.2), (dK D).2), D.2)
theorem dW_m {T : Tx} {p : Nat} {D : Dr} {N0 N : Mem} (h : MS T p D N0 N) (w : Nat) : MS T p (dW D w) N0 (sr N 77 (up (N.1 77) 9 (n2 w))) := by
  refine h.upd (by decide) ?_
  obtain ⟨⟨a1, a2, a3, a4, a5, a6, a7⟩, b, c, d⟩ := h.2.2.1
  exact ⟨⟨rfl, a2, a3, a4, a5, a6, a7⟩, b, c, d⟩
theorem dH_m {T : Tx} {p : Nat} {D : Dr} {N0 N : Mem} (h : MS T p D N0 N) (w : Nat) : MS T p (dH D w) N0 (sr N 77 (up (N.1 77) 10 (n2 w))) := by
  refine h.upd (by decide) ?_
  obtain ⟨⟨a1, a2, a3, a4, a5, a6, a7⟩, b, c, d⟩ := h.2.2.1
  exact ⟨⟨a1, rfl, a3, a4, a5, a6, a7⟩, b, c, d⟩
theorem DV.sh {D : Dr} (h : DV D) (hA : dA D = false) {w hh : Nat} (hw : 1 ≤ w ∧ w ≤ 6) (h5 : 1 ≤ hh ∧ hh ≤ 5) : DV (dH (dW D w) hh) := by
  obtain ⟨⟨⟨-, a2, a3⟩, ⟨-, ⟨-, -⟩, ⟨-, -⟩, d⟩⟩, h2, h3, h4, h5', h6⟩ := h
  obtain ⟨g1, g2, g3, g4⟩ := h6 hA
  have z3 : ∀ g, sSp (dS D) g = 0 ∧ sSk (dS D) g = 0 := fun g => h3 g (by rw [g1]; exact Nat.zero_le _)
  have n1 : 1 ≤ w * hh := Nat.mul_le_mul hw.1 h5.1
  refine ⟨⟨⟨⟨hw, h5⟩, a2, a3⟩, ⟨⟨⟨fun k => ⟨0, by decide, g4 k⟩, fun k _ => g4 k⟩, fun k _ _ => g4 k⟩, ⟨fun k => ⟨0, n1, (z3 k).1⟩, fun k _ => (z3 k).1⟩, ⟨fun k => ⟨0, by decide, (z3 k).2⟩, fun k _ => (z3 k).2⟩, d⟩⟩, h2, h3, h4, h5', h6⟩
theorem CS.rows {T : Tx} {p : Nat} {D D' : Dr} {M0 M N : Mem} (h : CS T p D M0 M) (e : ∀ q, q < 12 ∨ 28 ≤ q → N.1 q = M.1 q) (hD : DC D' N) : CS T p D' M0 N := by
  refine ⟨h.1.frame (e 28 (by omega)) (e 2 (by omega)) (e 3 (by omega)), by rw [e 28 (by omega)]; exact h.2.1, hD, fun q hq => ?_⟩
  rw [e q (by omega)]
  exact h.2.2.2 q hq
theorem readSky_J {y : Lay} (hy : LY y) {T : Tx} (hT : TOK T) {p : Nat} {D : Dr} {M0 N0 M N : Mem} (h : CS T p D M0 M) (g : MS T p D N0 N) (hD : DV D) (hA : dA D = false) (hk : dT D &&& 1 = 0) {x : Int32} (hx : x = dT D ||| 1) : J (c0 (f_X2_readSky y 12 M) fun (r50 : Int32) (M51 : Mem) => gd (r50 = 0 ∨ r50 = 1) (some (r50, M51))) (c0 (f_X12_sayOnce y 73 1 N) fun (r36 : Int32) (M37 : Mem) => c0 (f_X12_mark y 73 (59 : Int32) M37) fun (r13 : Int32) (M14 : Mem) => some (x, M14)) (LO T M0 N0 p) := by
  have hp : p ≤ tE T p := Nat.le_trans (tS_sp hT h.1.2.1).1 (tE_sp hT h.1.2.1).1
  unfold f_X2_readSky f_X12_sayOnce
  refine J_lcK (k_12 hy) (J_lct (by rw [h.2.2.1.2.2.2.2.2, hA]; rfl) (J_lcc (J_lc (once_c hy hT h hk) (fun r1 M1 q1 => ?_))))
  have e1 : r1 = 1 := q1.1
  have c1 : CS T (tE T p) (dTu D (dT D ||| 1)) M0 M1 := q1.2
  rw [e1]
  refine J_lcf (by decide) ?_
  refine J_rct rfl (J_rcK (k_73 hy) (J_rcc ?_))
  unfold f_X12_saySky
  refine J_rcK (k_73 hy) (J_rcc (J_rc (g.stp hy hT) (fun s1 N1 g1 => ?_)))
  have g1 : MS T (tE T p) (dTu D (dT D ||| 1)) N0 N1 := g1
  rw [r_73_5 hy]
  refine J_rcN (by decide) ?_
  refine J_lcc (J_rcc (J_cc (num_J hy hT c1 g1 (a := 1) (b := 6) (by decide) (by decide)) (fun r2 M2 s2 N2 q2 => ?_)))
  rcases q2 with ⟨w, hw, ⟨e2, e3⟩, ⟨p1, p2⟩, c2, g2⟩ | ⟨e2, e3, bad⟩
  · have e2 : r2 = n2 w := e2
    have e3 : s2 = n2 w := e3
    have c2 : CS T (tE T (tE T p)) (dTu D (dT D ||| 1)) M0 M2 := c2
    have g2 : MS T (tE T (tE T p)) (dTu D (dT D ||| 1)) N0 N2 := g2
    rw [e2, e3]
    refine J_lcf (n2_n1 (by omega)) (J_rcA (k_77 hy) (by decide) (J_rcl ?_))
    have g3 : MS T (tE T (tE T p)) (dW (dTu D (dT D ||| 1)) w) N0 (wI N2 77 (9 : Int32).toNatClampNeg (n2 w)) := by
      rw [wI_sr]
      exact dW_m g2 w
    refine J_lcc (J_rcc (J_cc (num_J hy hT c2 g3 (a := 1) (b := 5) (by decide) (by decide)) (fun r4 M4 s4 N4 q4 => ?_)))
    rcases q4 with ⟨hh, hh5, ⟨e4, e5⟩, ⟨p3, p4⟩, c4, g4⟩ | ⟨e4, e5, bad⟩
    · have e4 : r4 = n2 hh := e4
      have e5 : s4 = n2 hh := e5
      have c4 : CS T (tE T (tE T (tE T p))) (dTu D (dT D ||| 1)) M0 M4 := c4
      have g4 : MS T (tE T (tE T (tE T p))) (dW (dTu D (dT D ||| 1)) w) N0 N4 := g4
      rw [e4, e5]
      refine J_lcf (n2_n1 (by omega)) (J_rcA (k_77 hy) (by decide) (J_rcl (J_rcs (J_rcs ?_))))
      have g5 : MS T (tE T (tE T (tE T p))) (dH (dW (dTu D (dT D ||| 1)) w) hh) N0 (wI N4 77 (10 : Int32).toNatClampNeg (n2 hh)) := by
        rw [wI_sr]
        exact dH_m g4 hh
      rw [r_12_2 hy]
      refine J_lcN (by decide) (J_lcK (k_13 hy) (J_lcc (J_lc (shape_13 hy hw hh5) (fun r5 M5 q5 => ?_))))
      obtain ⟨u1, u2, -⟩ := q5
      have u1 : Eqx [13, 14] M4 M5 := u1
      have u2 : M5.1 13 = up (up (M4.1 13) 0 (n2 w)) 1 (n2 hh) := u2
      have c5 : CS T (tE T (tE T (tE T p))) (dH (dW (dTu D (dT D ||| 1)) w) hh) M0 M5 := by
        refine c4.rows (fun q hq => u1.2 q (by simp; omega)) ?_
        obtain ⟨⟨a1, a2, a3, a4, a5, a6⟩, b, c, d⟩ := c4.2.2.1
        refine ⟨⟨?_, ?_, ?_, ?_, ?_, ?_⟩, ?_, ?_, ?_⟩
        · rw [u2, up_ne (by decide), up_eq]; rfl
        · rw [u2, up_eq]; rfl
        · rw [u2, up_ne (by decide), up_ne (by decide)]; exact a3
        · rw [u2, up_ne (by decide), up_ne (by decide)]; exact a4
        · rw [u2, up_ne (by decide), up_ne (by decide)]; exact a5
        · rw [u2, up_ne (by decide), up_ne (by decide)]; exact a6
        · rw [u1.2 15 (by decide), u1.2 16 (by decide), u1.2 18 (by decide), u1.2 19 (by decide)]; exact b
        · unfold skZ at c ⊢
          rw [u1.2 21 (by decide), u1.2 22 (by decide), u1.2 25 (by decide), u1.2 26 (by decide)]; exact c
        · rw [u1.2 12 (by decide)]; exact d
      rw [r_12_0 hy]
      refine J_lcN (by decide) (J_lcK (k_28 hy) ?_)
      exact end_J hy hT c5 g5 ((hD.told 1).sh hA hw hh5) (p0 := p) (by omega) hx
    · have e4 : r4 = -1 := e4
      rw [e4]
      refine J_lct rfl (J_lcs (J_lg (Or.inl rfl) (J_rcA (k_77 hy) (by decide) (J_rcl (J_rcs (J_rcs ?_))))))
      refine bad_J hy ?_
      rw [wI_sr]
      exact bad.upd (by decide)
  · have e2 : r2 = -1 := e2
    rw [e2]
    refine J_lct rfl (J_lcs (J_lg (Or.inl rfl) (J_rcA (k_77 hy) (by decide) (J_rcl ?_))))
    rw [wI_sr]
    have bad' : LF M0 N0 M2 (sr N2 77 (up (N2.1 77) (9 : Int32).toNatClampNeg s2)) := bad.upd (by decide)
    refine J_rcc (J_rq (readNumber_b hy bad'.1.bad) (J_rcA (k_77 hy) (by decide) (J_rcl (J_rcs (J_rcs ?_)))))
    rw [wI_sr]
    exact bad_J hy (bad'.upd (q := 77) (k := (10 : Int32).toNatClampNeg) (x := 0) (by decide))
/-! dyes, fades -/
def kr1 (e : Bool) : Int32 := if e = true then 16 else 32
theorem wR_1 (M : Mem) (p k r : Nat) : (wR M p k r).1 = M.1 := rfl
theorem begin_c {y : Lay} (hy : LY y) (e : Bool) (M : Mem) : f_X6_begin y 29 (ro e) (de e) M = some (0, sr (sr (wR M 29 1 (ro e)) 29 (up (M.1 29) 2 (de e))) (ro e) (up (M.1 (ro e)) 2 0)) := by
  have d1 : ¬ ro e = 29 := by cases e <;> decide
  unfold f_X6_begin
  rw [gK_t (k_29 hy), gN_t (ro_n0 e), lT_s, gd_t (by cases e; exact Or.inl rfl; exact Or.inr rfl), lT_s, wI_sr, wR_1]
  have e1 : (sr (wR M 29 1 (ro e)) 29 (up (M.1 29) 2 (de e))).2.2 29 1 = ro e := by
    show u2 M.2.2 29 1 (ro e) 29 1 = ro e
    unfold u2
    exact if_pos ⟨rfl, rfl⟩
  rw [e1, gN_t (ro_n0 e), gK_t (k_ro hy e)]
  unfold f_X5_clear
  rw [gK_t (k_ro hy e), lT_s, wI_sr, sr_ne d1, c0_s, wR_1]
