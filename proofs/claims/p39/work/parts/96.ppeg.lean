/-! ===== lines: pegs ===== -/
theorem J_loopc {α β : Type} {Q : α → β → Prop} {b1 : Int32 → Mem → Option α} {b2 : Mem → Option β} {F : (Int32 → Mem → Option α) → Int32 → Mem → Option α} {G : (Mem → Option β) → Mem → Option β} (I : Nat → Nat → Mem → Mem → Prop) (K m1 m2 : Nat) (h1 : K < m1) (h2 : K < m2) {p0 n0 : Nat} {M0 N0 : Mem} {c : Int32} (hc : c = n2 n0) (h0 : p0 ≤ K ∧ I p0 n0 M0 N0) (hs : ∀ f g p n M N, p ≤ K → I p n M N → (∀ p' M' N', p < p' → p' ≤ K → I p' (n + 1) M' N' → J (f (n2 (n + 1)) M') (g N') Q) → J (F f (n2 n) M) (G g N) Q) : J (fixN b1 F m1 c M0) (fixN b2 G m2 N0) Q := by
  subst hc
  have key : ∀ k p n M N m1 m2, K - p ≤ k → K - p < m1 → K - p < m2 → p ≤ K → I p n M N → J (fixN b1 F m1 (n2 n) M) (fixN b2 G m2 N) Q := by
    intro k
    induction k with
    | zero =>
      intro p n M N m1 m2 g1 g2 g3 g4 g5
      match m1, m2, g2, g3 with
      | m1 + 1, m2 + 1, _, _ => exact hs _ _ p n M N g4 g5 (fun p' M' N' h4 h5 h6 => by omega)
    | succ k ih =>
      intro p n M N m1 m2 g1 g2 g3 g4 g5
      match m1, m2, g2, g3 with
      | m1 + 1, m2 + 1, _, _ => exact hs _ _ p n M N g4 g5 (fun p' M' N' h4 h5 h6 => ih p' (n + 1) M' N' m1 m2 (by omega) (by omega) (by omega) h5 h6)
  exact key K p0 n0 M0 N0 m1 m2 (by omega) (by omega) (by omega) h0.1 h0.2
def dP1 (D : Dr) (c : Nat) : Dr := (dK D, (sB (dS D), sSp (dS D), sSk (dS D), sPg (dS D) ||| bit c, (dS D).2.2.2.2), dT D, dB D, dA D)
def dP2 (D : Dr) (c : Nat) : Dr := (dK D, (up (sB (dS D)) c 0, (dS D).2), dT D, dB D, dA D)
def dPg (D : Dr) (c : Nat) : Dr := dP2 (dP1 D c) c
theorem dP1_c {T : Tx} {p : Nat} {D : Dr} {M0 M : Mem} (h : CS T p D M0 M) (c : Nat) : CS T p (dP1 D c) M0 (sr M 21 (up (M.1 21) 7 (sPg (dS D) ||| bit c))) := by
  refine h.upd (by decide) ?_
  obtain ⟨a, b, c, d⟩ := h.2.2.1
  refine ⟨a, b, ?_, d⟩
  show skZ _ = (sB (dS D), sSp (dS D), sSk (dS D), _, (dS D).2.2.2.2)
  rw [← c]
  rfl
theorem dP2_c {T : Tx} {p : Nat} {D : Dr} {M0 M : Mem} (h : CS T p D M0 M) (c : Nat) (hc : c < 30) : CS T p (dP2 D c) M0 (sr M 22 (up (M.1 22) c 0)) := by
  refine h.upd (by decide) ?_
  obtain ⟨a, b, c1, d⟩ := h.2.2.1
  refine ⟨a, b, ?_, d⟩
  show skZ _ = (up (sB (dS D)) c 0, (dS D).2)
  rw [← c1]
  have e := zr_up (f := M.1 22) (x := 0) hc
  show (zr 30 (up (M.1 22) c 0), _) = (up (zr 30 (M.1 22)) c 0, _)
  rw [e]
  rfl
theorem dPg_m {T : Tx} {p : Nat} {D : Dr} {N0 N : Mem} (h : MS T p D N0 N) {c : Nat} (hc : c < 30) : MS T p (dPg D c) N0 (sr N 77 (up (N.1 77) 17 (sPg (dS D) ||| bit c))) := by
  refine h.upd (by decide) ?_
  obtain ⟨⟨a1, a2, a3, a4, a5, a6, a7⟩, b, cc, d, e, f⟩ := h.2.2.1
  refine ⟨⟨a1, a2, a3, a4, a5, a6, rfl⟩, b, fun k hk => ⟨?_, (cc k hk).2⟩, d, e, f⟩
  show up (sB (dS D)) c 0 k = (if bt (sPg (dS D) ||| bit c) k = 1 then 0 else N.1 78 (30 + k))
  have e2 := bt_or_bit (x := sPg (dS D)) (c := c) (i := k) (by omega) (by omega)
  by_cases ek : k = c
  · rw [ek, up_eq]
    rw [ek] at e2
    rw [if_pos (e2.mpr (Or.inr rfl))]
  · rw [up_ne ek, (cc k hk).1]
    by_cases q : bt (sPg (dS D)) k = 1
    · rw [if_pos q, if_pos (e2.mpr (Or.inl q))]
    · rw [if_neg q, if_neg (fun z => (e2.mp z).elim q ek)]
theorem DV.pg {D : Dr} (h : DV D) (hA : dA D = true) {c : Nat} (hc : c < 30) : DV (dPg D c) := by
  obtain ⟨⟨h1, ⟨⟨a1, a2⟩, b, c1, d⟩⟩, h2, h3, h4, h5, h6⟩ := h
  refine ⟨⟨h1, ⟨⟨BOK.up0 a1 c, fun k hk hb => ?_⟩, b, c1, d⟩⟩, h2, h3, h4, h5, fun z => ?_⟩
  · have hb : bt (sPg (dS D) ||| bit c) k = 1 := hb
    show up (sB (dS D)) c 0 k = 0
    by_cases ek : k = c
    · rw [ek, up_eq]
    · rw [up_ne ek]
      exact a2 k hk (((bt_or_bit (by omega) (by omega)).mp hb).resolve_right ek)
  · have z : dA D = false := z
    rw [hA] at z
    exact absurd z (by decide)
theorem setPeg_21 {y : Lay} (hy : LY y) {M : Mem} {c : Nat} (hc : c < 30) : f_X8_setPeg y 21 (n2 c) 1 M = some (0, sr (sr M 21 (up (M.1 21) 7 (M.1 21 7 ||| bit c))) 22 (up (M.1 22) c 0)) := by
  refine wp_eq ?_
  unfold f_X8_setPeg
  refine wp_jn (wp_brf (by decide) ?_)
  rw [gK_t (k_21 hy)]
  dsimp only
  rw [gK_t (k_21 hy)]
  refine wp_lt ?_
  rw [wI_sr]
  refine wp_jn (wp_brf (by decide) (wp_brf (n2_n0 (by omega)) (wp_brf (by rw [show (30 : Int32) = n2 30 from rfl, n2_le (by decide) (by omega)]; omega) ?_)))
  rw [r_21_1 hy, gN_t (by decide), gA_n (k_22 hy) hc (by omega), n2_nat (by omega)]
  refine wp_lt ?_
  rw [wI_sr, sr_ne (show ¬ 22 = 21 by decide)]
  exact wp_some rfl
/-- once the class has gone over the sign at a line's end -/
def PO (y : Lay) (T : Tx) (M0 N0 : Mem) (p : Nat) (t : Int32) (a b : Int32 × Mem) : Prop := (∃ M1 p' D, p ≤ p' ∧ DV D ∧ dT D = t ∧ CS T p' D M0 M1 ∧ MS T p' D N0 b.2 ∧ (c0 (f_X10_passes y 28 (59 : Int32) M1) fun (r19 : Int32) (M20 : Mem) => gd (r19 = 0 ∨ r19 = 1) (some (r19, M20))) = some a) ∨ (a.1 = 0 ∧ LF M0 N0 a.2 b.2)
theorem PO.end {y : Lay} (hy : LY y) {T : Tx} (hT : TOK T) {M0 N0 : Mem} {p : Nat} {t : Int32} {a b : Int32 × Mem} (h : PO y T M0 N0 p t a b) : J (gd (a.1 = 0 ∨ a.1 = 1) (some a)) (c0 (f_X12_mark y 73 (59 : Int32) b.2) fun (r13 : Int32) (M14 : Mem) => some (t, M14)) (LO T M0 N0 p) := by
  rcases h with ⟨M1, p', D, h1, h2, h3, h4, h5, h6⟩ | ⟨h1, h2⟩
  · have e := end_J hy hT h4 h5 h2 (p0 := p) h1 h3.symm
    rw [h6] at e
    exact e
  · rw [h1]
    obtain ⟨r, M⟩ := a
    have h1 : r = 0 := h1
    rw [h1]
    exact J_lg (Or.inl rfl) (bad_J hy h2)
theorem PO.mk {y : Lay} (hy : LY y) {T : Tx} (hT : TOK T) {M0 N0 : Mem} {p p' : Nat} {D : Dr} {M N : Mem} (hp : p ≤ p') (hD : DV D) (h : CS T p' D M0 M) (g : MS T p' D N0 N) : J (c0 (f_X10_passes y 28 (59 : Int32) M) fun (r19 : Int32) (M20 : Mem) => gd (r19 = 0 ∨ r19 = 1) (some (r19, M20))) (some ((0 : Int32), N)) (PO y T M0 N0 p (dT D)) := by
  obtain ⟨a, b, e1, e2, e3⟩ := pass_J hy hT h.1 g.1 h.2.1 g.2.1 (c := 59) (by decide) (by decide)
  have e1 : f_X10_passes y 28 59 M = some a := e1
  have e : ∃ o, (c0 (f_X10_passes y 28 (59 : Int32) M) fun (r19 : Int32) (M20 : Mem) => gd (r19 = 0 ∨ r19 = 1) (some (r19, M20))) = some o := by
    rw [e1]
    obtain ⟨r, M'⟩ := a
    rw [c0_s]
    rcases e3 with ⟨q, -⟩ | ⟨q, -⟩
    · exact ⟨_, gd_t (Or.inr q)⟩
    · exact ⟨_, gd_t (Or.inl q)⟩
  obtain ⟨o, e⟩ := e
  exact ⟨o, _, e, rfl, Or.inl ⟨M, p', D, hp, hD, rfl, h, g, e⟩⟩
theorem readPegs_J {y : Lay} (hy : LY y) {T : Tx} (hT : TOK T) {p : Nat} {D : Dr} {M0 N0 M N : Mem} (h : CS T p D M0 M) (g : MS T p D N0 N) (hD : DV D) {x : Int32} (hx : x = dT D) : J (c0 (f_X2_readPegs y 12 M) fun (r50 : Int32) (M51 : Mem) => gd (r50 = 0 ∨ r50 = 1) (some (r50, M51))) (c0 (f_X12_sayPegs y 73 N) fun (r36 : Int32) (M37 : Mem) => c0 (f_X12_mark y 73 (59 : Int32) M37) fun (r13 : Int32) (M14 : Mem) => some (x, M14)) (LO T M0 N0 p) := by
  have h30 := hD.1.1.n30
  have h7 := hT.1
  have hp : p ≤ tE T p := Nat.le_trans (tS_sp hT h.1.2.1).1 (tE_sp hT h.1.2.1).1
  rw [hx]
  refine J_cc (R := PO y T M0 N0 p (dT D)) ?_ (fun r M s N q => q.end hy hT)
  unfold f_X2_readPegs f_X12_sayPegs
  rw [gK_t (k_12 hy), r_12_0 hy, gN_t (by decide), gK_t (k_28 hy), gK_t (k_73 hy)]
  refine J_lc (h.adv hy hT) (fun r1 M1 h1 => J_rc (g.stp hy hT) (fun s1 N1 g1 => ?_))
  have h1 : CS T (tE T p) D M0 M1 := h1
  have g1 : MS T (tE T p) D N0 N1 := g1
  rw [r_12_3 hy, r_73_5 hy]
  refine J_lN (by decide) (J_lK (k_21 hy) ?_)
  have ePg : ∀ {q : Nat} {D : Dr} {M : Mem}, CS T q D M0 M → M.1 21 7 = sPg (dS D) := fun h => by
    have c := h.2.2.1.2.2.1
    exact congrArg (fun S : Sk => sPg S) c
  have eP2 : ∀ {q : Nat} {D : Dr} {N : Mem}, MS T q D N0 N → N.1 77 (17 : Int32).toNatClampNeg = sPg (dS D) := fun h => h.2.2.1.1.2.2.2.2.2.2
  refine J_rj ?_
  have tk1 := g1.1.2.2.2.1
  by_cases k2 : tK T (tE T p) = 2
  · rw [tk1]
    refine J_rt ((kMd_k T _).2.2.mpr k2) (J_rfx ?_)
    refine J_rj (J_rt g1.2.1 (J_rt (by rw [tk1]; exact (kMd_k T _).2.2.mpr k2) ?_))
    refine J_rN (by decide) (J_rA (k_77 hy) (by decide) ?_)
    rw [ePg h1, eP2 g1]
    refine J_cc (cell_J hy hT h1 g1 hD (sPg (dS D))) (fun r2 M2 s2 N2 q2 => ?_)
    rcases q2 with ⟨c, ⟨hc, -⟩, ⟨e2, e3⟩, ⟨p1, p2⟩, h2, g2⟩ | ⟨e2, e3, bad⟩
    · have e2 : r2 = n2 c := e2
      have e3 : s2 = n2 c := e3
      have h2 : CS T (tE T (tE T p)) (dAu D) M0 M2 := h2
      have g2 : MS T (tE T p) (dAu D) N0 N2 := g2
      rw [e2, e3]
      refine J_lf (n2_n1 (by omega)) (J_lq (setPeg_21 hy (by omega)) ?_)
      refine J_rt g2.2.1 (J_rc (g2.stp hy hT) (fun s3 N3 g3 => ?_))
      have g3 : MS T (tE T (tE T p)) (dAu D) N0 N3 := g3
      refine J_rA (k_77 hy) (by decide) (J_rA (k_77 hy) (by decide) (J_rl ?_))
      rw [eP2 g3, ePg h2, wI_sr]
      have h4 := dP2_c (dP1_c h2 c) c (by omega)
      have g4 := dPg_m g3 (c := c) (by omega)
      rw [sr_ne (show ¬ 22 = 21 by decide)] at h4
      refine J_loopc (fun q n M N => (tE T p ≤ q ∧ n < q) ∧ ∃ D1, DV D1 ∧ dT D1 = dT D ∧ dK D1 = dK D ∧ dA D1 = true ∧ CS T q D1 M0 M ∧ MS T q D1 N0 N) T.2 FUEL 99999 (by show T.2 < 100000; omega) (by omega) (n0 := 0) rfl ⟨p2, ⟨by omega, by omega⟩, dPg (dAu D) c, hD.any.pg rfl (by omega), rfl, rfl, rfl, h4, g4⟩ ?_
      intro f gg q n M7 N7 hq hI hk
      obtain ⟨⟨i1, i2⟩, D1, v1, v2, v3, v4, c1, m1⟩ := hI
      refine J_lj (J_rj (J_rt m1.2.1 ?_))
      refine J_lf (by rw [show (700 : Int32) = n2 700 from rfl, n2_le (by decide) (by omega)]; omega) ?_
      rw [c1.1.2.2.2.1, m1.1.2.2.2.1]
      by_cases k3 : tK T q = 2
      · refine J_lt ((kCl_k hT c1.1.2.1).2.2.mpr k3) (J_rt ((kMd_k T _).2.2.mpr k3) ?_)
        refine J_rN (by decide) (J_rA (k_77 hy) (by decide) ?_)
        rw [ePg c1, eP2 m1]
        refine J_cc (cell_J hy hT c1 m1 v1 (sPg (dS D1))) (fun r2 M2 s2 N2 q2 => ?_)
        rcases q2 with ⟨c, ⟨hc, -⟩, ⟨e2, e3⟩, ⟨p1, p2⟩, h2, g2⟩ | ⟨e2, e3, bad⟩
        · have e2 : r2 = n2 c := e2
          have e3 : s2 = n2 c := e3
          have h2 : CS T (tE T q) (dAu D1) M0 M2 := h2
          have g2 : MS T q (dAu D1) N0 N2 := g2
          rw [v3] at hc
          rw [e2, e3]
          refine J_lf (n2_n1 (by omega)) (J_lq (setPeg_21 hy (by omega)) (J_ll ?_))
          refine J_rt g2.2.1 (J_rc (g2.stp hy hT) (fun s3 N3 g3 => ?_))
          have g3 : MS T (tE T q) (dAu D1) N0 N3 := g3
          refine J_rA (k_77 hy) (by decide) (J_rA (k_77 hy) (by decide) (J_rl ?_))
          rw [eP2 g3, ePg h2, wI_sr, n2_s]
          have h4 := dP2_c (dP1_c h2 c) c (by omega)
          have g4 := dPg_m g3 (c := c) (by omega)
          rw [sr_ne (show ¬ 22 = 21 by decide)] at h4
          exact hk (tE T q) _ _ p1 p2 ⟨⟨by omega, by omega⟩, dPg (dAu D1) c, v1.any.pg rfl (by omega), v2, v3, rfl, h4, g4⟩
        · have e2 : r2 = -1 := e2
          rw [e2]
          exact J_lt rfl (J_rf bad.1.bad (J_s (Or.inr ⟨rfl, bad⟩)))
      · refine J_lf (fun z => k3 ((kCl_k hT c1.1.2.1).2.2.mp z)) (J_rf (fun z => k3 ((kMd_k T _).2.2.mp z)) ?_)
        rw [← v2]
        exact PO.mk hy hT (by omega) v1 c1 m1
    · have e2 : r2 = -1 := e2
      rw [e2]
      exact J_lt rfl (J_rf bad.1.bad (J_s (Or.inr ⟨rfl, bad⟩)))
  · rw [tk1]
    refine J_rf (fun z => k2 ((kMd_k T _).2.2.mp z)) (J_rq (wrong_m hy g1.2.1) (J_rfx (J_rj (J_rf (rfM_nz (f := 1) (by decide)) ?_))))
    have e1 : clR T (tE T p) (kn (dK D)) (M1.1 21 7) = 1 := by
      have n1 : nmR T (tE T p) 0 9999 = 1 := by unfold nmR; rw [if_neg k2]
      unfold clR
      rw [n1, if_neg (by decide)]
    obtain ⟨o, w1, w2⟩ := readCell_c hy hT h1 hD (M1.1 21 7)
    rw [e1, if_neg (by decide)] at w2
    rw [w2] at w1
    refine J_lq w1 (J_lt rfl (J_s (Or.inr ⟨rfl, LF.mk h1 g1 (by decide)⟩)))
