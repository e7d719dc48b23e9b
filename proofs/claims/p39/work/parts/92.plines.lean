/-! ===== lines that tell a number; cells ===== -/
section JRC
variable {α β : Type} {Q : α → β → Prop} {X : Option α} {l : Int32 → Mem → Option β}
theorem J_rcc {A : Option (Int32 × Mem)} {k : Int32 → Mem → Option (Int32 × Mem)} (h : J X (c0 A (fun r M => c0 (k r M) l)) Q) : J X (c0 (c0 A k) l) Q := by rw [c0_c0]; exact h
theorem J_rcj {κ : Type} {K : κ} {b : κ → Option (Int32 × Mem)} (h : J X (c0 (b K) l) Q) : J X (c0 (jn K b) l) Q := h
theorem J_rcl {κ : Type} {K : κ} {b : κ → Option (Int32 × Mem)} (h : J X (c0 (b K) l) Q) : J X (c0 (lt K b) l) Q := h
theorem J_rct {P : Prop} [Decidable P] {a b : Option (Int32 × Mem)} (h : P) (g : J X (c0 a l) Q) : J X (c0 (br P a b) l) Q := by rw [bR_t h]; exact g
theorem J_rcf {P : Prop} [Decidable P] {a b : Option (Int32 × Mem)} (h : ¬ P) (g : J X (c0 b l) Q) : J X (c0 (br P a b) l) Q := by rw [bR_f h]; exact g
theorem J_rcs {r : Int32} {M : Mem} (h : J X (l r M) Q) : J X (c0 (some (r, M)) l) Q := h
theorem J_rcN {r : Nat} {a : Option (Int32 × Mem)} (h : ¬ r = 0) (g : J X (c0 a l) Q) : J X (c0 (gN r a) l) Q := by rw [gN_t h]; exact g
theorem J_rcK {y : Lay} {r : Nat} {c : Nat × Nat} {a : Option (Int32 × Mem)} (h : kd y r = c) (g : J X (c0 a l) Q) : J X (c0 (gK y r c a) l) Q := by rw [gK_t h]; exact g
theorem J_rcA {y : Lay} {r t n : Nat} {i : Int32} {a : Option (Int32 × Mem)} (h : kd y r = (t, n)) (hi : ¬ (i < 0 ∨ n ≤ i.toNatClampNeg)) (g : J X (c0 a l) Q) : J X (c0 (gA y r t i a) l) Q := by rw [gA_t h hi]; exact g
theorem J_rcg {P : Prop} [Decidable P] {a : Option (Int32 × Mem)} (h : P) (g : J X (c0 a l) Q) : J X (c0 (gd P a) l) Q := by rw [gd_t h]; exact g
theorem J_rcp {A : Option Int32} {r : Int32} {k : Int32 → Option (Int32 × Mem)} (h : A = some r) (g : J X (c0 (k r) l) Q) : J X (c0 (cp A k) l) Q := by rw [h]; exact g
theorem J_rcq {A : Option (Int32 × Mem)} {r : Int32} {M : Mem} {k : Int32 → Mem → Option (Int32 × Mem)} (h : A = some (r, M)) (g : J X (c0 (k r M) l) Q) : J X (c0 (c0 A k) l) Q := by rw [h]; exact g
theorem J_rN {r : Nat} {a : Option β} (h : ¬ r = 0) (g : J X a Q) : J X (gN r a) Q := by rw [gN_t h]; exact g
theorem J_rK {y : Lay} {r : Nat} {c : Nat × Nat} {a : Option β} (h : kd y r = c) (g : J X a Q) : J X (gK y r c a) Q := by rw [gK_t h]; exact g
theorem J_rA {y : Lay} {r t n : Nat} {i : Int32} {a : Option β} (h : kd y r = (t, n)) (hi : ¬ (i < 0 ∨ n ≤ i.toNatClampNeg)) (g : J X a Q) : J X (gA y r t i a) Q := by rw [gA_t h hi]; exact g
end JRC
section JLC
variable {α β : Type} {Q : α → β → Prop} {Z : Option β} {l : Int32 → Mem → Option α}
theorem J_lcl {κ : Type} {K : κ} {b : κ → Option (Int32 × Mem)} (h : J (c0 (b K) l) Z Q) : J (c0 (lt K b) l) Z Q := h
theorem J_lcp {A : Option Int32} {r : Int32} {k : Int32 → Option (Int32 × Mem)} (h : A = some r) (g : J (c0 (k r) l) Z Q) : J (c0 (cp A k) l) Z Q := by rw [h]; exact g
theorem J_lcq {A : Option (Int32 × Mem)} {r : Int32} {M : Mem} {k : Int32 → Mem → Option (Int32 × Mem)} (h : A = some (r, M)) (g : J (c0 (k r M) l) Z Q) : J (c0 (c0 A k) l) Z Q := by rw [h]; exact g
theorem J_lcg {P : Prop} [Decidable P] {a : Option (Int32 × Mem)} (h : P) (g : J (c0 a l) Z Q) : J (c0 (gd P a) l) Z Q := by rw [gd_t h]; exact g
end JLC
def dTu (D : Dr) (t : Int32) : Dr := (D.1, D.2.1, t, D.2.2.2)
def dAu (D : Dr) : Dr := (D.1, D.2.1, D.2.2.1, D.2.2.2.1, true)
theorem or_and_z {t k m : Int32} (h : (t ||| k) &&& m = 0) : t &&& m = 0 ∧ k &&& m = 0 := by
  refine ⟨bt_ext (fun i hi => ?_), bt_ext (fun i hi => ?_)⟩
  · refine ⟨fun z => ?_, fun z => absurd z (bt_0 hi)⟩
    exfalso
    refine bt_0 hi ?_
    rw [← h, bt_and hi, bt_or hi]
    rw [bt_and hi] at z
    exact ⟨Or.inl z.1, z.2⟩
  · refine ⟨fun z => ?_, fun z => absurd z (bt_0 hi)⟩
    exfalso
    refine bt_0 hi ?_
    rw [← h, bt_and hi, bt_or hi]
    rw [bt_and hi] at z
    exact ⟨Or.inr z.1, z.2⟩
theorem DV.told {D : Dr} (h : DV D) (k : Int32) : DV (dTu D (dT D ||| k)) := by
  obtain ⟨h1, h2, h3, h4, ⟨h5, h5'⟩, h6⟩ := h
  exact ⟨h1, h2, h3, h4, ⟨fun z => h5 (or_and_z z).1, fun z => h5' (or_and_z z).1⟩, h6⟩
theorem DM.told {D : Dr} {N : Mem} (h : DM D N) (t : Int32) : DM (dTu D t) N := h
theorem MS.told {T : Tx} {p : Nat} {D : Dr} {N0 N : Mem} (h : MS T p D N0 N) (t : Int32) : MS T p (dTu D t) N0 N := h
theorem once_c {y : Lay} (hy : LY y) {T : Tx} (hT : TOK T) {p : Nat} {D : Dr} {M0 M : Mem} (h : CS T p D M0 M) {k : Int32} (hk : dT D &&& k = 0) : wp (f_X2_passesOnce y 12 k M) (fun o => o.1 = 1 ∧ CS T (tE T p) (dTu D (dT D ||| k)) M0 o.2) := by
  unfold f_X2_passesOnce
  rw [gK_t (k_12 hy), h.2.2.1.2.2.2.1]
  refine wp_brt hk (wp_lt ?_)
  rw [r_12_0 hy, gN_t (by decide), gK_t (k_28 hy), wI_sr]
  have h2 : CS T p (dTu D (dT D ||| k)) M0 (sr M 12 (up (M.1 12) 4 (dT D ||| k))) := by
    refine h.upd (by decide) ?_
    obtain ⟨a, b, c, d, e, f⟩ := h.2.2.1
    exact ⟨a, b, c, by rw [sr_ap, up_eq]; rfl, by rw [sr_ap, up_ne (by decide)]; exact e, by rw [sr_ap, up_ne (by decide)]; exact f⟩
  exact wp_c0 _ (h2.adv hy hT) (fun r M1 q => wp_some ⟨rfl, q⟩)
theorem once_w {y : Lay} (hy : LY y) {T : Tx} {p : Nat} {D : Dr} {M0 M : Mem} (h : CS T p D M0 M) {k : Int32} (hk : ¬ dT D &&& k = 0) : f_X2_passesOnce y 12 k M = some (0, rfC M 5 (M.1 28 3)) := by
  unfold f_X2_passesOnce
  rw [gK_t (k_12 hy), h.2.2.1.2.2.2.1, bR_f hk, r_12_0 hy, gN_t (by decide), gK_t (k_28 hy), refuse_t hy h.2.1, c0_s]
  exact gd_t (Or.inl rfl)
/-- the knobs, the rinsing, the bound -/
def dKn (D : Dr) (v : Nat) : Dr := (D.1, (sB (dS D), sSp (dS D), sSk (dS D), sPg (dS D), sRs (dS D), n2 v, sMa (dS D), sDy (dS D), sOv (dS D)), D.2.2)
def dRi (D : Dr) (v : Nat) : Dr := (((kw (dK D), kh (dK D), v, kb (dK D)), (dK D).2), D.2)
def dBo (D : Dr) (v : Nat) : Dr := (((kw (dK D), kh (dK D), kr (dK D), v), (dK D).2), D.2)
theorem DV.kno {D : Dr} (h : DV D) {v : Nat} (hv : v ≤ 99) : DV (dKn D v) := by
  obtain ⟨⟨h1, ⟨a, b, c, -⟩⟩, h2, h3, h4, h5, h6⟩ := h
  exact ⟨⟨h1, ⟨a, b, c, ⟨v, hv, rfl⟩⟩⟩, h2, h3, h4, h5, h6⟩
theorem DV.ri {D : Dr} (h : DV D) {v : Nat} (hv : v ≤ 20) : DV (dRi D v) := by
  obtain ⟨⟨⟨a, ⟨-, b2, b3⟩, c⟩, s⟩, h2, h3, h4, h5, h6⟩ := h
  exact ⟨⟨⟨a, ⟨hv, b2, b3⟩, c⟩, s⟩, h2, h3, h4, h5, h6⟩
theorem DV.bo {D : Dr} (h : DV D) {v : Nat} (hv : v ≤ 99) : DV (dBo D v) := by
  obtain ⟨⟨⟨a, ⟨b1, -, b3⟩, c⟩, s⟩, h2, h3, h4, h5, h6⟩ := h
  exact ⟨⟨⟨a, ⟨b1, Nat.lt_succ_of_le hv, b3⟩, c⟩, s⟩, h2, h3, h4, h5, h6⟩
theorem dKn_c {D : Dr} {M : Mem} (h : DC D M) (v : Nat) : DC (dKn D v) (sr M 21 (up (M.1 21) 9 (n2 v))) := by
  obtain ⟨a, b, c, d⟩ := h
  refine ⟨a, b, ?_, d⟩
  unfold dKn
  show skZ _ = (sB (dS D), sSp (dS D), sSk (dS D), sPg (dS D), sRs (dS D), n2 v, sMa (dS D), sDy (dS D), sOv (dS D))
  rw [← c]
  rfl
theorem dRi_c {D : Dr} {M : Mem} (h : DC D M) (v : Nat) : DC (dRi D v) (sr M 13 (up (M.1 13) 2 (n2 v))) := by
  obtain ⟨⟨a1, a2, a3, a4, a5, a6⟩, b, c, d⟩ := h
  exact ⟨⟨a1, a2, rfl, a4, a5, a6⟩, b, c, d⟩
theorem dBo_c {D : Dr} {M : Mem} (h : DC D M) (v : Nat) : DC (dBo D v) (sr M 13 (up (M.1 13) 3 (n2 v))) := by
  obtain ⟨⟨a1, a2, a3, a4, a5, a6⟩, b, c, d⟩ := h
  exact ⟨⟨a1, a2, a3, rfl, a5, a6⟩, b, c, d⟩
theorem dKn_m {D : Dr} {N : Mem} (h : DM D N) (v : Nat) : DM (dKn D v) (sr N 77 (up (N.1 77) 12 (n2 v))) := by
  obtain ⟨⟨a1, a2, a3, a4, a5, a6, a7⟩, b, c, d⟩ := h
  exact ⟨⟨a1, a2, a3, a4, a5, rfl, a7⟩, b, c, d⟩
theorem dRi_m {D : Dr} {N : Mem} (h : DM D N) (v : Nat) : DM (dRi D v) (sr N 77 (up (N.1 77) 13 (n2 v))) := by
  obtain ⟨⟨a1, a2, a3, a4, a5, a6, a7⟩, b, c, d⟩ := h
  exact ⟨⟨a1, a2, rfl, a4, a5, a6, a7⟩, b, c, d⟩
theorem dBo_m {D : Dr} {N : Mem} (h : DM D N) (v : Nat) : DM (dBo D v) (sr N 77 (up (N.1 77) 14 (n2 v))) := by
  obtain ⟨⟨a1, a2, a3, a4, a5, a6, a7⟩, b, c, d⟩ := h
  exact ⟨⟨a1, a2, a3, rfl, a5, a6, a7⟩, b, c, d⟩
theorem readKnobs_w {y : Lay} (hy : LY y) {T : Tx} {p : Nat} {D : Dr} {M0 M : Mem} (h : CS T p D M0 M) (hk : ¬ dT D &&& 2 = 0) : f_X2_readKnobs y 12 M = some (0, rfC M 5 (M.1 28 3)) := by
  unfold f_X2_readKnobs
  rw [gK_t (k_12 hy), once_w hy h hk, c0_s, bR_t rfl]
theorem readKnobs_J {y : Lay} (hy : LY y) {T : Tx} (hT : TOK T) {p : Nat} {D : Dr} {M0 N0 M N : Mem} (h : CS T p D M0 M) (g : MS T p D N0 N) (hD : DV D) (hk : dT D &&& 2 = 0) {x : Int32} (hx : x = dT D ||| 2) : J (c0 (f_X2_readKnobs y 12 M) fun (r50 : Int32) (M51 : Mem) => gd (r50 = 0 ∨ r50 = 1) (some (r50, M51))) (c0 (f_X12_sayOnce y 73 2 N) fun (r36 : Int32) (M37 : Mem) => c0 (f_X12_mark y 73 (59 : Int32) M37) fun (r13 : Int32) (M14 : Mem) => some (x, M14)) (LO T M0 N0 p) := by
  unfold f_X2_readKnobs f_X12_sayOnce
  rw [gK_t (k_12 hy)]
  refine J_lcc (J_lc (once_c hy hT h hk) (fun r1 M1 q1 => ?_))
  have e1 : r1 = 1 := q1.1
  have c1 := q1.2
  rw [e1]
  refine J_lcf (by decide) ?_
  rw [r_73_5 hy]
  refine J_rcf (by decide) (J_rct (by decide) (J_rcK (k_73 hy) (J_rcc ?_)))
  refine J_rc (g.stp hy hT) (fun s1 N1 g1 => ?_)
  have c1' : CS T (tE T p) (dTu D (dT D ||| 2)) M0 M1 := c1
  have g1' : MS T (tE T p) (dTu D (dT D ||| 2)) N0 N1 := g1
  have hD1 := hD.told 2
  have hp : p ≤ tE T p := Nat.le_trans (tS_sp hT h.1.2.1).1 (tE_sp hT h.1.2.1).1
  refine J_rcj (J_rct rfl (J_rcN (by decide) (J_rcc ?_)))
  refine J_lcc (J_cc (num_J hy hT c1' g1' (a := 0) (b := 99) (by decide) (by decide)) (fun r2 M2 s2 N2 q2 => ?_))
  rcases q2 with ⟨n, ⟨n1, n3⟩, ⟨e2, e3⟩, ⟨p1, p2⟩, c2, g2⟩ | ⟨e2, e3, bad⟩
  · have e2 : r2 = n2 n := e2
    have e3 : s2 = n2 n := e3
    rw [e2, e3]
    refine J_lcf (n2_n1 (by omega)) ?_
    rw [r_12_3 hy, r_12_0 hy]
    refine J_lcN (by decide) (J_lcK (k_21 hy) ?_)
    refine J_lcN (by decide) (J_lcK (k_28 hy) ?_)
    refine J_rcA (k_77 hy) (by decide) (J_rcl ?_)
    refine J_rcj (J_rcf (by decide) (J_rcj (J_rcf (by decide) (J_rcs ?_))))
    have c3 : CS T (tE T (tE T p)) (dKn (dTu D (dT D ||| 2)) n) M0 (wI M2 21 9 (n2 n)) := by
      rw [wI_sr]
      exact c2.upd (by decide) (dKn_c c2.2.2.1 n)
    have g3 : MS T (tE T (tE T p)) (dKn (dTu D (dT D ||| 2)) n) N0 (wI N2 77 12 (n2 n)) := by
      rw [wI_sr]
      exact g2.upd (by decide) (dKn_m g2.2.2.1 n)
    exact end_J hy hT c3 g3 (hD1.kno n3) (p0 := p) (by omega) (x := x) hx
  · have e2 : r2 = -1 := e2
    rw [e2]
    refine J_lct rfl (J_lcs (J_lg (Or.inl rfl) ?_))
    refine J_rcA (k_77 hy) (by decide) (J_rcl ?_)
    refine J_rcj (J_rcf (by decide) (J_rcj (J_rcf (by decide) (J_rcs ?_))))
    refine bad_J hy ?_
    show LF M0 N0 M2 (wI N2 77 12 s2)
    rw [wI_sr]
    exact bad.upd (by decide)
theorem readRinse_w {y : Lay} (hy : LY y) {T : Tx} {p : Nat} {D : Dr} {M0 M : Mem} (h : CS T p D M0 M) (hk : ¬ dT D &&& 4 = 0) : f_X2_readRinse y 12 M = some (0, rfC M 5 (M.1 28 3)) := by
  unfold f_X2_readRinse
  rw [gK_t (k_12 hy), once_w hy h hk, c0_s, bR_t rfl]
theorem readRinse_J {y : Lay} (hy : LY y) {T : Tx} (hT : TOK T) {p : Nat} {D : Dr} {M0 N0 M N : Mem} (h : CS T p D M0 M) (g : MS T p D N0 N) (hD : DV D) (hk : dT D &&& 4 = 0) {x : Int32} (hx : x = dT D ||| 4) : J (c0 (f_X2_readRinse y 12 M) fun (r50 : Int32) (M51 : Mem) => gd (r50 = 0 ∨ r50 = 1) (some (r50, M51))) (c0 (f_X12_sayOnce y 73 4 N) fun (r36 : Int32) (M37 : Mem) => c0 (f_X12_mark y 73 (59 : Int32) M37) fun (r13 : Int32) (M14 : Mem) => some (x, M14)) (LO T M0 N0 p) := by
  unfold f_X2_readRinse f_X12_sayOnce
  rw [gK_t (k_12 hy)]
  refine J_lcc (J_lc (once_c hy hT h hk) (fun r1 M1 q1 => ?_))
  have e1 : r1 = 1 := q1.1
  have c1 := q1.2
  rw [e1]
  refine J_lcf (by decide) ?_
  rw [r_73_5 hy]
  refine J_rcf (by decide) (J_rct (by decide) (J_rcK (k_73 hy) (J_rcc ?_)))
  refine J_rc (g.stp hy hT) (fun s1 N1 g1 => ?_)
  have c1' : CS T (tE T p) (dTu D (dT D ||| 4)) M0 M1 := c1
  have g1' : MS T (tE T p) (dTu D (dT D ||| 4)) N0 N1 := g1
  have hD1 := hD.told 4
  have hp : p ≤ tE T p := Nat.le_trans (tS_sp hT h.1.2.1).1 (tE_sp hT h.1.2.1).1
  refine J_rcj (J_rcf (by decide) (J_rcj (J_rct rfl (J_rcN (by decide) (J_rcc ?_)))))
  refine J_lcc (J_cc (num_J hy hT c1' g1' (a := 0) (b := 20) (by decide) (by decide)) (fun r2 M2 s2 N2 q2 => ?_))
  rcases q2 with ⟨n, ⟨n1, n3⟩, ⟨e2, e3⟩, ⟨p1, p2⟩, c2, g2⟩ | ⟨e2, e3, bad⟩
  · have e2 : r2 = n2 n := e2
    have e3 : s2 = n2 n := e3
    rw [e2, e3]
    refine J_lcf (n2_n1 (by omega)) ?_
    rw [r_12_2 hy, r_12_0 hy]
    refine J_lcN (by decide) (J_lcK (k_13 hy) ?_)
    refine J_lcN (by decide) (J_lcK (k_28 hy) ?_)
    refine J_rcA (k_77 hy) (by decide) (J_rcl ?_)
    refine J_rcj (J_rcf (by decide) (J_rcs ?_))
    have c3 : CS T (tE T (tE T p)) (dRi (dTu D (dT D ||| 4)) n) M0 (wI M2 13 2 (n2 n)) := by
      rw [wI_sr]
      exact c2.upd (by decide) (dRi_c c2.2.2.1 n)
    have g3 : MS T (tE T (tE T p)) (dRi (dTu D (dT D ||| 4)) n) N0 (wI N2 77 13 (n2 n)) := by
      rw [wI_sr]
      exact g2.upd (by decide) (dRi_m g2.2.2.1 n)
    exact end_J hy hT c3 g3 (hD1.ri n3) (p0 := p) (by omega) (x := x) hx
  · have e2 : r2 = -1 := e2
    rw [e2]
    refine J_lct rfl (J_lcs (J_lg (Or.inl rfl) ?_))
    refine J_rcA (k_77 hy) (by decide) (J_rcl ?_)
    refine J_rcj (J_rcf (by decide) (J_rcs ?_))
    refine bad_J hy ?_
    show LF M0 N0 M2 (wI N2 77 13 s2)
    rw [wI_sr]
    exact bad.upd (by decide)
theorem readBound_w {y : Lay} (hy : LY y) {T : Tx} {p : Nat} {D : Dr} {M0 M : Mem} (h : CS T p D M0 M) (hk : ¬ dT D &&& 8 = 0) : f_X2_readBound y 12 M = some (0, rfC M 5 (M.1 28 3)) := by
  unfold f_X2_readBound
  rw [gK_t (k_12 hy), once_w hy h hk, c0_s, bR_t rfl]
theorem readBound_J {y : Lay} (hy : LY y) {T : Tx} (hT : TOK T) {p : Nat} {D : Dr} {M0 N0 M N : Mem} (h : CS T p D M0 M) (g : MS T p D N0 N) (hD : DV D) (hk : dT D &&& 8 = 0) {x : Int32} (hx : x = dT D ||| 8) : J (c0 (f_X2_readBound y 12 M) fun (r50 : Int32) (M51 : Mem) => gd (r50 = 0 ∨ r50 = 1) (some (r50, M51))) (c0 (f_X12_sayOnce y 73 8 N) fun (r36 : Int32) (M37 : Mem) => c0 (f_X12_mark y 73 (59 : Int32) M37) fun (r13 : Int32) (M14 : Mem) => some (x, M14)) (LO T M0 N0 p) := by
  unfold f_X2_readBound f_X12_sayOnce
  rw [gK_t (k_12 hy)]
  refine J_lcc (J_lc (once_c hy hT h hk) (fun r1 M1 q1 => ?_))
  have e1 : r1 = 1 := q1.1
  have c1 := q1.2
  rw [e1]
  refine J_lcf (by decide) ?_
  rw [r_73_5 hy]
  refine J_rcf (by decide) (J_rct (by decide) (J_rcK (k_73 hy) (J_rcc ?_)))
  refine J_rc (g.stp hy hT) (fun s1 N1 g1 => ?_)
  have c1' : CS T (tE T p) (dTu D (dT D ||| 8)) M0 M1 := c1
  have g1' : MS T (tE T p) (dTu D (dT D ||| 8)) N0 N1 := g1
  have hD1 := hD.told 8
  have hp : p ≤ tE T p := Nat.le_trans (tS_sp hT h.1.2.1).1 (tE_sp hT h.1.2.1).1
  refine J_rcj (J_rcf (by decide) (J_rcj (J_rcf (by decide) (J_rcj (J_rct rfl (J_rcN (by decide) (J_rcc ?_)))))))
  refine J_lcc (J_cc (num_J hy hT c1' g1' (a := 1) (b := 99) (by decide) (by decide)) (fun r2 M2 s2 N2 q2 => ?_))
  rcases q2 with ⟨n, ⟨n1, n3⟩, ⟨e2, e3⟩, ⟨p1, p2⟩, c2, g2⟩ | ⟨e2, e3, bad⟩
  · have e2 : r2 = n2 n := e2
    have e3 : s2 = n2 n := e3
    rw [e2, e3]
    refine J_lcf (n2_n1 (by omega)) ?_
    rw [r_12_2 hy, r_12_0 hy]
    refine J_lcN (by decide) (J_lcK (k_13 hy) ?_)
    refine J_lcN (by decide) (J_lcK (k_28 hy) ?_)
    refine J_rcA (k_77 hy) (by decide) (J_rcl ?_)
    refine J_rcs ?_
    have c3 : CS T (tE T (tE T p)) (dBo (dTu D (dT D ||| 8)) n) M0 (wI M2 13 3 (n2 n)) := by
      rw [wI_sr]
      exact c2.upd (by decide) (dBo_c c2.2.2.1 n)
    have g3 : MS T (tE T (tE T p)) (dBo (dTu D (dT D ||| 8)) n) N0 (wI N2 77 14 (n2 n)) := by
      rw [wI_sr]
      exact g2.upd (by decide) (dBo_m g2.2.2.1 n)
    exact end_J hy hT c3 g3 (hD1.bo n3) (p0 := p) (by omega) (x := x) hx
  · have e2 : r2 = -1 := e2
    rw [e2]
    refine J_lct rfl (J_lcs (J_lg (Or.inl rfl) ?_))
    refine J_rcA (k_77 hy) (by decide) (J_rcl ?_)
    refine J_rcs ?_
    refine bad_J hy ?_
    show LF M0 N0 M2 (wI N2 77 14 s2)
    rw [wI_sr]
    exact bad.upd (by decide)
