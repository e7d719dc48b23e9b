/-! ===== lines: blue, girl ===== -/
def dBl (D : Dr) (c v : Nat) : Dr := (dK D, (addB (sPg (dS D)) c (n2 v) (sB (dS D)), (dS D).2), dT D, dB D ||| bit c, dA D)
def dBt (D : Dr) (c : Nat) : Dr := (dK D, dS D, dT D, dB D ||| bit c, dA D)
theorem blue0 {D : Dr} {N : Mem} (h : DM D N) {c : Nat} (hc : c < 30) (hb : bt (dB D) c = 0) : sB (dS D) c = 0 := by
  obtain ⟨-, -, hB, -, -⟩ := h
  obtain ⟨h1, h2⟩ := hB c hc
  rw [h1]
  by_cases q : bt (sPg (dS D)) c = 1
  · rw [if_pos q]
  · rw [if_neg q]; exact h2 hb
theorem addB_0 {pg : Int32} {c v : Nat} {B : Row} (h0 : B c = 0) (hv : v ≤ 99) : addB pg c (n2 v) B = if bt pg c = 0 then up B c (n2 v) else B := by
  unfold addB
  rw [h0, show (0 : Int32) + n2 v = n2 v from by rw [show (0 : Int32) = n2 0 from rfl, n2_add, Nat.zero_add], show (99 : Int32) = n2 99 from rfl, jmin_n2 (by decide) (by omega), Nat.min_eq_right hv]
theorem bt_or_bit {x : Int32} {c i : Nat} (hc : c < 32) (hi : i < 32) : bt (x ||| bit c) i = 1 ↔ bt x i = 1 ∨ i = c := by rw [bt_or hi, bt_b hc hi]
theorem DV.bl {D : Dr} (h : DV D) (hA : dA D = true) {c v : Nat} (hc : c < kn (dK D)) (h0 : sB (dS D) c = 0) (hv : v ≤ 99) : DV (dBl D c v) := by
  obtain ⟨⟨h1, ⟨⟨a1, a2⟩, b, c1, d⟩⟩, h2, h3, h4, h5, h6⟩ := h
  refine ⟨⟨h1, ⟨⟨?_, ?_⟩, b, c1, d⟩⟩, h2, h3, h4, h5, fun z => ?_⟩
  · show BOK (kn (dK D)) (addB (sPg (dS D)) c (n2 v) (sB (dS D)))
    rw [addB_0 h0 hv]
    split
    · refine ⟨fun k => ?_, fun k hk => ?_⟩
      · by_cases e : k = c
        · rw [e, up_eq]; exact ⟨v, by omega, rfl⟩
        · rw [up_ne e]; exact a1.1 k
      · rw [up_ne (by omega)]; exact a1.2 k hk
    · exact a1
  · show PG0 (sPg (dS D)) (addB (sPg (dS D)) c (n2 v) (sB (dS D)))
    exact addB_pg a2
  · have z : dA D = false := z
    rw [hA] at z
    exact absurd z (by decide)
theorem dBt_c {T : Tx} {p : Nat} {D : Dr} {M0 M : Mem} (h : CS T p D M0 M) (c : Nat) : CS T p (dBt D c) M0 (sr M 12 (up (M.1 12) 5 (dB D ||| bit c))) := by
  refine h.upd (by decide) ?_
  obtain ⟨a, b, c, d, e, f⟩ := h.2.2.1
  exact ⟨a, b, c, by rw [sr_ap, up_ne (by decide)]; exact d, by rw [sr_ap, up_eq]; rfl, by rw [sr_ap, up_ne (by decide)]; exact f⟩
theorem dBt_m {T : Tx} {p : Nat} {D : Dr} {N0 N : Mem} (h : MS T p D N0 N) {c : Nat} (hc : c < 30) : MS T p (dBt D c) N0 (sr N 73 (up (N.1 73) 25 (dB D ||| bit c))) := by
  refine h.upd (by decide) ?_
  obtain ⟨a, b, hB, d, e, f⟩ := h.2.2.1
  refine ⟨a, b, fun k hk => ⟨(hB k hk).1, fun z => ?_⟩, d, by rw [sr_ap, up_eq]; rfl, by rw [sr_ap, up_ne (by decide)]; exact f⟩
  refine (hB k hk).2 (bt_0n (fun w => ?_))
  have z : bt (dB D ||| bit c) k = 0 := z
  have w2 := (bt_or_bit (x := dB D) (c := c) (i := k) (by omega) (by omega)).mpr (Or.inl w)
  rw [z] at w2
  exact absurd w2 (by decide)
theorem zr_addB {pg : Int32} {c v : Nat} {B : Row} (hc : c < 30) : zr 30 (addB pg c (n2 v) B) = addB pg c (n2 v) (zr 30 B) := by
  unfold addB
  rw [zr_at hc]
  split
  · exact zr_up hc
  · rfl
theorem dBl_c {T : Tx} {p : Nat} {D : Dr} {M0 M : Mem} {c : Nat} (h : CS T p (dBt D c) M0 M) (v : Nat) (hc : c < 30) : CS T p (dBl D c v) M0 (sr M 22 (addB (M.1 21 7) c (n2 v) (M.1 22))) := by
  refine h.upd (by decide) ?_
  obtain ⟨a, b, c1, d, e, f⟩ := h.2.2.1
  have c1 : skZ M = dS D := c1
  refine ⟨a, b, ?_, d, e, f⟩
  show skZ _ = (addB (sPg (dS D)) c (n2 v) (sB (dS D)), (dS D).2)
  rw [← c1]
  have e := zr_addB (pg := M.1 21 7) (v := v) (B := M.1 22) hc
  show (zr 30 (addB (M.1 21 7) c (n2 v) (M.1 22)), _, _, _) = (addB (M.1 21 7) c (n2 v) (zr 30 (M.1 22)), _, _, _)
  rw [e]
  rfl
theorem dBl_m {T : Tx} {p : Nat} {D : Dr} {N0 N : Mem} {c v : Nat} (h : MS T p (dBt D c) N0 N) (hc : c < 30) (h0 : sB (dS D) c = 0) (hv : v ≤ 99) : MS T p (dBl D c v) N0 (sr N 78 (up (N.1 78) (30 + c) (n2 v))) := by
  refine h.upd (by omega) ?_
  obtain ⟨a, b, hB, d, e, f⟩ := h.2.2.1
  refine ⟨a, b, fun k hk => ?_, d, e, f⟩
  obtain ⟨g1, g2⟩ := hB k hk
  have g1 : sB (dS D) k = (if bt (sPg (dS D)) k = 1 then 0 else N.1 78 (30 + k)) := g1
  show addB (sPg (dS D)) c (n2 v) (sB (dS D)) k = (if bt (sPg (dS D)) k = 1 then 0 else (sr N 78 (up (N.1 78) (30 + c) (n2 v))).1 78 (30 + k)) ∧ (bt (dB D ||| bit c) k = 0 → (sr N 78 (up (N.1 78) (30 + c) (n2 v))).1 78 (30 + k) = 0)
  rw [addB_0 h0 hv, sr_ap]
  by_cases ek : k = c
  · subst ek
    refine ⟨?_, fun z => ?_⟩
    · rw [up_eq]
      by_cases q : bt (sPg (dS D)) k = 0
      · rw [if_pos q, up_eq, if_neg (by rw [q]; decide)]
      · rw [if_neg q, if_pos (bt_ne.mp q), h0]
    · have w2 := (bt_or_bit (x := dB D) (c := k) (i := k) (by omega) (by omega)).mpr (Or.inr rfl)
      rw [z] at w2
      exact absurd w2 (by decide)
  · rw [up_ne (show ¬ 30 + k = 30 + c by omega)]
    refine ⟨?_, g2⟩
    by_cases q : bt (sPg (dS D)) c = 0
    · rw [if_pos q, up_ne ek]; exact g1
    · rw [if_neg q]; exact g1
theorem readBlue_J {y : Lay} (hy : LY y) {T : Tx} (hT : TOK T) {p : Nat} {D : Dr} {M0 N0 M N : Mem} (h : CS T p D M0 M) (g : MS T p D N0 N) (hD : DV D) {x : Int32} (hx : x = dT D) : J (c0 (f_X2_readBlue y 12 M) fun (r50 : Int32) (M51 : Mem) => gd (r50 = 0 ∨ r50 = 1) (some (r50, M51))) (c0 (f_X12_sayBlue y 73 N) fun (r36 : Int32) (M37 : Mem) => c0 (f_X12_mark y 73 (59 : Int32) M37) fun (r13 : Int32) (M14 : Mem) => some (x, M14)) (LO T M0 N0 p) := by
  have h30 := hD.1.1.n30
  have hp : p ≤ tE T p := Nat.le_trans (tS_sp hT h.1.2.1).1 (tE_sp hT h.1.2.1).1
  unfold f_X2_readBlue f_X12_sayBlue
  rw [r_12_0 hy]
  refine J_lcK (k_12 hy) (J_lcN (by decide) (J_lcK (k_28 hy) (J_lcc (J_lc (h.adv hy hT) (fun r1 M1 h1 => ?_)))))
  refine J_rcK (k_73 hy) (J_rcc (J_rc (g.stp hy hT) (fun s1 N1 g1 => ?_)))
  have h1 : CS T (tE T p) D M0 M1 := h1
  have g1 : MS T (tE T p) D N0 N1 := g1
  rw [h1.2.2.1.2.2.2.2.1, g1.2.2.1.2.2.2.2.1]
  refine J_lcc (J_rcc (J_cc (cell_J hy hT h1 g1 hD (dB D)) (fun r2 M2 s2 N2 q2 => ?_)))
  rcases q2 with ⟨c, ⟨hc, hcb⟩, ⟨e2, e3⟩, ⟨p1, p2⟩, h2, g2⟩ | ⟨e2, e3, bad⟩
  · have e2 : r2 = n2 c := e2
    have e3 : s2 = n2 c := e3
    have h2 : CS T (tE T (tE T p)) (dAu D) M0 M2 := h2
    have g2 : MS T (tE T p) (dAu D) N0 N2 := g2
    rw [e2, e3]
    have b0 : sB (dS D) c = 0 := blue0 g.2.2.1 (by omega) hcb
    refine J_lcf (n2_n1 (by omega)) (J_lcl ?_)
    refine J_rct g2.2.1 (J_rcc (J_rc (g2.stp hy hT) (fun s3 N3 g3 => J_rcl ?_)))
    have g3 : MS T (tE T (tE T p)) (dAu D) N0 N3 := g3
    rw [wI_sr, wI_sr, h2.2.2.1.2.2.2.2.1, g3.2.2.1.2.2.2.2.1]
    have h3 := dBt_c h2 c
    have g4 := dBt_m g3 (c := c) (by omega)
    rw [r_73_6 hy]
    refine J_rcN (by decide) ?_
    refine J_lcc (J_rcc (J_cc (num_J hy hT h3 g4 (a := 0) (b := 99) (by decide) (by decide)) (fun r4 M4 s4 N4 q4 => ?_)))
    rw [show (30 : Int32) = n2 30 from rfl, n2_add]
    have gA : ¬ (n2 (30 + c) < 0 ∨ 60 ≤ (n2 (30 + c)).toNatClampNeg) := by
      rw [n2_nat (by omega)]
      intro q
      rcases q with q | q
      · exact n2_n0 (by omega) q
      · omega
    rcases q4 with ⟨v, ⟨-, hv⟩, ⟨e4, e5⟩, ⟨p3, p4⟩, h4, g5⟩ | ⟨e4, e5, bad⟩
    · have e4 : r4 = n2 v := e4
      have e5 : s4 = n2 v := e5
      rw [e4, e5]
      refine J_lcf (n2_n1 (by omega)) ?_
      rw [r_12_3 hy]
      refine J_lcN (by decide) (J_lcK (k_21 hy) (J_lcq (addBlue_21 hy (by omega) (n2 v)) ?_))
      refine J_rcA (k_78 hy) gA (J_rcl (J_rcs ?_))
      have h5 := dBl_c (D := dAu D) h4 v (by omega)
      have g6 := dBl_m (D := dAu D) g5 (by omega) b0 hv
      have e6 : wI N4 78 (n2 (30 + c)).toNatClampNeg (n2 v) = sr N4 78 (up (N4.1 78) (30 + c) (n2 v)) := by rw [n2_nat (by omega), wI_sr]
      rw [e6]
      exact end_J hy hT h5 g6 ((hD.any.bl rfl hc b0 hv)) (p0 := p) (by omega) hx
    · have e4 : r4 = -1 := e4
      rw [e4]
      refine J_lct rfl (J_lcs (J_lg (Or.inl rfl) (J_rcA (k_78 hy) gA (J_rcl (J_rcs ?_)))))
      refine bad_J hy ?_
      rw [n2_nat (by omega), wI_sr]
      exact bad.upd (by omega)
  · have e2 : r2 = -1 := e2
    rw [e2]
    refine J_lct rfl (J_lcs (J_lg (Or.inl rfl) (J_rcf bad.1.bad (J_rcs ?_))))
    exact bad_J hy bad
