/-! ===== lines: a girl ===== -/
theorem num_J2 {y : Lay} (hy : LY y) {T : Tx} (hT : TOK T) {p : Nat} {D D' : Dr} {M0 N0 M N : Mem} (h : CS T p D M0 M) (g : MS T p D' N0 N) {a b : Nat} (ha : a ≤ 9999) (hb : b ≤ 9999) : J (f_X2_readNumber y 12 (n2 a) (n2 b) M) (f_X12_readNumber y 73 (n2 a) (n2 b) N) (fun u v => (∃ n, (a ≤ n ∧ n ≤ b) ∧ (u.1 = n2 n ∧ v.1 = n2 n) ∧ (p < tE T p ∧ tE T p ≤ T.2) ∧ CS T (tE T p) D M0 u.2 ∧ MS T (tE T p) D' N0 v.2 ∧ G73 N v.2) ∨ (u.1 = -1 ∧ v.1 = 0 ∧ LF M0 N0 u.2 v.2)) := by
  have hc := readNumber_c hy hT h.1 h.2.1 ha hb
  by_cases q : nmR T p a b = 0
  · obtain ⟨o, e1, e2⟩ := hc
    rw [if_pos q] at e2
    obtain ⟨o', e1', e2'⟩ := readNumber_m hy hT g.1 g.2.1 ha hb q
    obtain ⟨k, -, q1, q2⟩ := nmR_0 q
    exact ⟨o, o', e1, e1', Or.inl ⟨tV T p, ⟨q1, q2⟩, ⟨e2.1, e2'.1⟩, ⟨tE_gt hT h.1.2.1 (by rw [k]; decide), (tE_sp hT h.1.2.1).2⟩, h.g28 e2.2.1 e2.2.2, g.g73 e2'.2.1 e2'.2.2, e2'.2.2⟩⟩
  · obtain ⟨o, e1, e2⟩ := hc
    rw [if_neg q] at e2
    refine ⟨o, _, e1, readNumber_w hy hT g.1 g.2.1 ha hb q, Or.inr ?_⟩
    rw [e2]
    refine ⟨rfl, rfl, LF.mk h g ?_⟩
    rcases nmR_le T p a b with z | z | z
    · exact absurd z q
    · rw [z]; decide
    · rw [z]; decide
theorem cell_J2 {y : Lay} (hy : LY y) {T : Tx} (hT : TOK T) {p : Nat} {D : Dr} {M0 N0 M N : Mem} (h : CS T p D M0 M) (g : MS T p D N0 N) (hD : DV D) (tk : Int32) : J (f_X2_readCell y 12 tk M) (f_X12_cellNow y 73 tk N) (fun u v => (∃ c, (c < kn (dK D) ∧ bt tk c = 0) ∧ (u.1 = n2 c ∧ v.1 = n2 c) ∧ (p < tE T p ∧ tE T p ≤ T.2) ∧ CS T (tE T p) (dAu D) M0 u.2 ∧ MS T p (dAu D) N0 v.2 ∧ v.2 = sr N 73 (up (N.1 73) 26 1)) ∨ (u.1 = -1 ∧ v.1 = 0 ∧ LF M0 N0 u.2 v.2)) := by
  obtain ⟨u, v, e1, e2, e3⟩ := cell_J hy hT h g hD tk
  refine ⟨u, v, e1, e2, ?_⟩
  rcases e3 with ⟨c, h1, h2, h3, h4, h5⟩ | e3
  · refine Or.inl ⟨c, h1, h2, h3, h4, h5, ?_⟩
    rw [cellNow_m hy hT g hD tk] at e2
    have e2 := Option.some.inj e2
    by_cases q : clR T p (kn (dK D)) tk = 0
    · rw [if_pos q] at e2
      rw [← e2]
    · rw [if_neg q] at e2
      have hb := h5.2.1
      rw [← e2] at hb
      exfalso
      refine absurd hb ?_
      have hle := clR_le T p (kn (dK D)) tk
      show ¬ (sr (rfM N (n2 (clR T p (kn (dK D)) tk)) (N.1 73 20)) 73 (up ((rfM N (n2 (clR T p (kn (dK D)) tk)) (N.1 73 20)).1 73) 26 1)).1 73 22 = 0
      rw [sr_ap, up_ne (by decide)]
      exact rfM_22 (by omega)
  · exact Or.inr e3
def dG1 (D : Dr) : Dr := (((dK D).1, (kg (dK D) + 1, ko (dK D)), (dK D).2.2), D.2)
def dG2 (D : Dr) (x : Int32) : Dr := (((dK D).1, (kg (dK D), x), (dK D).2.2), D.2)
def dG3 (D : Dr) (g : Nat) (x : Int32) : Dr := (dK D, (sB (dS D), sSp (dS D), up (sSk (dS D)) g x, (dS D).2.2.2), D.2.2)
def dG4 (D : Dr) (g : Nat) (x : Int32) : Dr := (dK D, (sB (dS D), up (sSp (dS D)) g x, (dS D).2.2), D.2.2)
theorem dG1_c {T : Tx} {p : Nat} {D : Dr} {M0 M : Mem} (h : CS T p D M0 M) : CS T p (dG1 D) M0 (sr M 13 (up (M.1 13) 4 (n2 (kg (dK D) + 1)))) := by
  refine h.upd (by decide) ?_
  obtain ⟨⟨a1, a2, a3, a4, a5, a6⟩, b, c, d⟩ := h.2.2.1
  exact ⟨⟨a1, a2, a3, a4, rfl, a6⟩, b, c, d⟩
theorem dG2_c {T : Tx} {p : Nat} {D : Dr} {M0 M : Mem} (h : CS T p D M0 M) (x : Int32) : CS T p (dG2 D x) M0 (sr M 13 (up (M.1 13) 5 x)) := by
  refine h.upd (by decide) ?_
  obtain ⟨⟨a1, a2, a3, a4, a5, a6⟩, b, c, d⟩ := h.2.2.1
  exact ⟨⟨a1, a2, a3, a4, a5, rfl⟩, b, c, d⟩
theorem dG3_c {T : Tx} {p : Nat} {D : Dr} {M0 M : Mem} (h : CS T p D M0 M) (g : Nat) (x : Int32) (hg : g < 6) : CS T p (dG3 D g x) M0 (sr M 26 (up (M.1 26) g x)) := by
  refine h.upd (by decide) ?_
  obtain ⟨a, b, c, d⟩ := h.2.2.1
  refine ⟨a, b, ?_, d⟩
  show skZ _ = (sB (dS D), sSp (dS D), up (sSk (dS D)) g x, (dS D).2.2.2)
  rw [← c]
  have e := zr_up (f := M.1 26) (x := x) hg
  show (_, _, zr 6 (up (M.1 26) g x), _) = (_, _, up (zr 6 (M.1 26)) g x, _)
  rw [e]
  rfl
theorem dG4_c {T : Tx} {p : Nat} {D : Dr} {M0 M : Mem} (h : CS T p D M0 M) (g : Nat) (x : Int32) (hg : g < 6) : CS T p (dG4 D g x) M0 (sr M 25 (up (M.1 25) g x)) := by
  refine h.upd (by decide) ?_
  obtain ⟨a, b, c, d⟩ := h.2.2.1
  refine ⟨a, b, ?_, d⟩
  show skZ _ = (sB (dS D), up (sSp (dS D)) g x, (dS D).2.2)
  rw [← c]
  have e := zr_up (f := M.1 25) (x := x) hg
  show (_, zr 6 (up (M.1 25) g x), _) = (_, up (zr 6 (M.1 25)) g x, _)
  rw [e]
  rfl
/-- what the model has told of the girl ahead of counting her -/
theorem dGw {T : Tx} {p : Nat} {D : Dr} {N0 N : Mem} (h : MS T p D N0 N) {q : Nat} (hq : q = 79 ∨ q = 80 ∨ q = 81) (x : Int32) : MS T p D N0 (sr N q (up (N.1 q) (6 + kg (dK D)) x)) := by
  refine h.upd (by omega) ?_
  have key : ∀ p f, (p = q → ¬ f = 6 + kg (dK D)) → (sr N q (up (N.1 q) (6 + kg (dK D)) x)).1 p f = N.1 p f := by
    intro p f hf
    rw [sr_1]
    by_cases e : p = q
    · rw [if_pos e, up_ne (hf e), e]
    · rw [if_neg e]
  obtain ⟨⟨a1, a2, a3, a4, a5, a6, a7⟩, b, c, ⟨⟨d1, d2⟩, d3, d4⟩, e, f⟩ := h.2.2.1
  refine ⟨⟨?_, ?_, ?_, ?_, ?_, ?_, ?_⟩, fun g hg => ?_, fun k hk => ?_, ⟨⟨?_, fun i hi => ?_⟩, ?_, fun i hi => ?_⟩, ?_, ?_⟩
  · rw [key _ _ (by omega)]; exact a1
  · rw [key _ _ (by omega)]; exact a2
  · rw [key _ _ (by omega)]; exact a3
  · rw [key _ _ (by omega)]; exact a4
  · rw [key _ _ (by omega)]; exact a5
  · rw [key _ _ (by omega)]; exact a6
  · rw [key _ _ (by omega)]; exact a7
  · rw [key _ _ (by omega), key _ _ (by omega), key _ _ (by omega)]; exact b g hg
  · rw [key _ _ (by omega)]; exact c k hk
  · rw [key _ _ (by omega)]; exact d1
  · rw [key _ _ (by omega)]; exact d2 i hi
  · rw [key _ _ (by omega)]; exact d3
  · rw [key _ _ (by omega)]; exact d4 i hi
  · rw [key _ _ (by omega)]; exact e
  · rw [key _ _ (by omega)]; exact f
def kox (D : Dr) (o : Int32) : Int32 := if o = 0 then ko (dK D) else ko (dK D) ||| bit (kg (dK D))
def dGi (D : Dr) (o : Int32) (s c : Nat) : Dr := dG4 (dG3 (dG2 (dG1 D) (kox D o)) (kg (dK D)) (n2 s)) (kg (dK D)) (n2 c)
theorem dGi_m {T : Tx} {p : Nat} {D : Dr} {N0 N : Mem} (h : MS T p D N0 N) (hD : DV D) {o : Int32} (ho : o = 0 ∨ o = 1) {s c : Nat} (hg : kg (dK D) < 6) (w1 : N.1 79 (6 + kg (dK D)) = o) (w2 : N.1 80 (6 + kg (dK D)) = n2 s) (w3 : N.1 81 (6 + kg (dK D)) = n2 c) : MS T p (dGi D o s c) N0 (sr N 77 (up (N.1 77) 11 (n2 (kg (dK D) + 1)))) := by
  refine h.upd (by decide) ?_
  obtain ⟨⟨a1, a2, a3, a4, a5, a6, a7⟩, b, cc, d, e, f⟩ := h.2.2.1
  refine ⟨⟨a1, a2, a3, a4, rfl, a6, a7⟩, fun g hg2 => ?_, cc, d, e, f⟩
  have hg2 : g < kg (dK D) + 1 := hg2
  show N.1 79 (6 + g) = (if bt (kox D o) g = 1 then 1 else 0) ∧ N.1 80 (6 + g) = up (sSk (dS D)) (kg (dK D)) (n2 s) g ∧ N.1 81 (6 + g) = up (sSp (dS D)) (kg (dK D)) (n2 c) g
  have hz := hD.2.2.2.1
  by_cases eg : g = kg (dK D)
  · rw [eg, up_eq, up_eq]
    refine ⟨?_, w2, w3⟩
    rw [w1]
    unfold kox
    rcases ho with rfl | rfl
    · rw [if_pos rfl, if_neg (hz _ (Nat.le_refl _) (by omega))]
    · rw [if_neg (show ¬ (1 : Int32) = 0 by decide), if_pos ((bt_or_bit (x := ko (dK D)) (c := kg (dK D)) (i := kg (dK D)) (by omega) (by omega)).mpr (Or.inr rfl))]
  · rw [up_ne eg, up_ne eg]
    obtain ⟨b1, b2, b3⟩ := b g (by omega)
    refine ⟨?_, b2, b3⟩
    rw [b1]
    unfold kox
    by_cases q : o = 0
    · rw [if_pos q]
    · rw [if_neg q]
      have e2 : bt (ko (dK D) ||| bit (kg (dK D))) g = 1 ↔ bt (ko (dK D)) g = 1 := by
        rw [bt_or_bit (by omega) (by omega)]
        exact ⟨fun z => z.resolve_right eg, Or.inl⟩
      by_cases q2 : bt (ko (dK D)) g = 1
      · rw [if_pos q2, if_pos (e2.mpr q2)]
      · rw [if_neg q2, if_neg (fun z => q2 (e2.mp z))]
theorem DV.gi {D : Dr} (h : DV D) (hA : dA D = true) (hg : kg (dK D) < 6) {o : Int32} {s c : Nat} (hs : s ≤ 9) (hc : c < kw (dK D) * kh (dK D)) : DV (dGi D o s c) := by
  obtain ⟨⟨⟨a, ⟨b1, b2, b3⟩, c1⟩, ⟨s1, ⟨s2, s2'⟩, ⟨s3, s3'⟩, s4⟩⟩, h2, h3, h4, h5, h6⟩ := h
  refine ⟨⟨⟨a, ⟨b1, b2, hg⟩, c1⟩, ⟨s1, ⟨fun k => ?_, fun k hk => ?_⟩, ⟨fun k => ?_, fun k hk => ?_⟩, s4⟩⟩, h2, fun g hg2 => ?_, fun g hg2 hg3 => ?_, h5, fun z => ?_⟩
  · show ∃ v, v < kw (dK D) * kh (dK D) ∧ up (sSp (dS D)) (kg (dK D)) (n2 c) k = n2 v
    by_cases e : k = kg (dK D)
    · rw [e, up_eq]; exact ⟨c, hc, rfl⟩
    · rw [up_ne e]; exact s2 k
  · show up (sSp (dS D)) (kg (dK D)) (n2 c) k = 0
    rw [up_ne (by omega)]; exact s2' k hk
  · show ∃ v, v ≤ 9 ∧ up (sSk (dS D)) (kg (dK D)) (n2 s) k = n2 v
    by_cases e : k = kg (dK D)
    · rw [e, up_eq]; exact ⟨s, hs, rfl⟩
    · rw [up_ne e]; exact s3 k
  · show up (sSk (dS D)) (kg (dK D)) (n2 s) k = 0
    rw [up_ne (by omega)]; exact s3' k hk
  · have hg2 : kg (dK D) + 1 ≤ g := hg2
    show up (sSp (dS D)) (kg (dK D)) (n2 c) g = 0 ∧ up (sSk (dS D)) (kg (dK D)) (n2 s) g = 0
    rw [up_ne (by omega), up_ne (by omega)]
    exact h3 g (by omega)
  · have hg2 : kg (dK D) + 1 ≤ g := hg2
    show ¬ bt (kox D o) g = 1
    unfold kox
    split
    · exact h4 g (by omega) hg3
    · rw [bt_or_bit (by omega) hg3]
      intro z
      rcases z with z | z
      · exact h4 g (by omega) hg3 z
      · omega
  · have z : dA D = false := z
    rw [hA] at z
    exact absurd z (by decide)
theorem setSkill_21 {y : Lay} (hy : LY y) {M : Mem} {g : Nat} (hg : g < 6) (x : Int32) : f_X8_setSkill y 21 (n2 g) x M = some (0, sr M 26 (up (M.1 26) g x)) := by
  refine wp_eq ?_
  unfold f_X8_setSkill
  refine wp_jn (wp_brf (n2_n0 (by omega)) (wp_brf (by rw [show (6 : Int32) = n2 6 from rfl, n2_le (by decide) (by omega)]; omega) ?_))
  rw [gK_t (k_21 hy), r_21_5 hy, gN_t (by decide), gA_n (k_26 hy) hg (by omega), n2_nat (by omega)]
  refine wp_lt ?_
  rw [wI_sr]
  exact wp_some rfl
theorem setSpot_21 {y : Lay} (hy : LY y) {M : Mem} {g : Nat} (hg : g < 6) (x : Int32) : f_X8_setSpot y 21 (n2 g) x M = some (0, sr M 25 (up (M.1 25) g x)) := by
  refine wp_eq ?_
  unfold f_X8_setSpot
  refine wp_jn (wp_brf (n2_n0 (by omega)) (wp_brf (by rw [show (6 : Int32) = n2 6 from rfl, n2_le (by decide) (by omega)]; omega) ?_))
  rw [gK_t (k_21 hy), r_21_4 hy, gN_t (by decide), gA_n (k_25 hy) hg (by omega), n2_nat (by omega)]
  refine wp_lt ?_
  rw [wI_sr]
  exact wp_some rfl
theorem cellNow_b {y : Lay} (hy : LY y) {N : Mem} (hb : ¬ N.1 73 22 = 0) {tk : Int32} : f_X12_cellNow y 73 tk N = some (0, sr N 73 (up (N.1 73) 26 1)) := by
  refine wp_eq ?_
  unfold f_X12_cellNow
  rw [gK_t (k_73 hy), numberNow_b hy hb, c0_s]
  refine wp_jn (wp_brf hb (wp_jn (wp_brf hb (wp_lt ?_))))
  rw [wI_sr]
  exact wp_jn (wp_brf (by rw [sr_ap, up_ne (by decide)]; exact hb) (wp_some rfl))
theorem G73.r79 {M N : Mem} (g : G73 M N) : N.1 79 = M.1 79 ∧ N.1 80 = M.1 80 ∧ N.1 81 = M.1 81 := ⟨g.1.2 79 (by decide), g.1.2 80 (by decide), g.1.2 81 (by decide)⟩
theorem readGirl_w {y : Lay} (hy : LY y) {T : Tx} {p : Nat} {D : Dr} {M0 M : Mem} (h : CS T p D M0 M) (hg : kg (dK D) = 6) (o : Int32) : f_X2_readGirl y 12 o M = some (0, rfC M 2 (M.1 28 3)) := by
  unfold f_X2_readGirl
  rw [gK_t (k_12 hy), r_12_2 hy, gN_t (by decide), gK_t (k_13 hy), h.2.2.1.1.2.2.2.2.1, hg, bR_f (by decide), r_12_0 hy, gN_t (by decide), gK_t (k_28 hy), refuse_t hy h.2.1, c0_s]
  exact gd_t (Or.inl rfl)
theorem readGirl_J {y : Lay} (hy : LY y) {T : Tx} (hT : TOK T) {p : Nat} {D : Dr} {M0 N0 M N : Mem} (h : CS T p D M0 M) (g : MS T p D N0 N) (hD : DV D) {o : Int32} (ho : o = 0 ∨ o = 1) {x : Int32} (hx : x = dT D) : J (c0 (f_X2_readGirl y 12 o M) fun (r50 : Int32) (M51 : Mem) => gd (r50 = 0 ∨ r50 = 1) (some (r50, M51))) (c0 (f_X12_sayWoman y 73 o N) fun (r36 : Int32) (M37 : Mem) => c0 (f_X12_mark y 73 (59 : Int32) M37) fun (r13 : Int32) (M14 : Mem) => some (x, M14)) (LO T M0 N0 p) := by
  have h30 := hD.1.1.n30
  have hg6 : kg (dK D) ≤ 6 := hD.1.1.2.1.2.2
  have hp : p ≤ tE T p := Nat.le_trans (tS_sp hT h.1.2.1).1 (tE_sp hT h.1.2.1).1
  unfold f_X12_sayWoman
  refine J_rcK (k_73 hy) ?_
  rw [r_73_5 hy]
  refine J_rcN (by decide) (J_rcA (k_77 hy) (by decide) (J_rcj ?_))
  have e11 : N.1 77 (11 : Int32).toNatClampNeg = n2 (kg (dK D)) := g.2.2.1.1.2.2.2.2.1
  rw [e11]
  by_cases h6 : kg (dK D) = 6
  · refine J_rct (by rw [h6]; rfl) (J_rcq (wrong_m hy g.2.1) ?_)
    rw [readGirl_w hy h h6]
    refine J_lg (Or.inl rfl) (J_rcf (rfM_nz (f := 2) (by decide)) (J_rcs ?_))
    exact bad_J hy (LF.mk h g (by decide))
  have h6' : kg (dK D) < 6 := by omega
  refine J_rcf (by rw [show (6 : Int32) = n2 6 from rfl, n2_inj (by omega) (by decide)]; exact h6) (J_rct g.2.1 (J_rcc ?_))
  unfold f_X2_readGirl
  refine J_lcK (k_12 hy) ?_
  rw [r_12_2 hy]
  refine J_lcN (by decide) (J_lcK (k_13 hy) ?_)
  rw [h.2.2.1.1.2.2.2.2.1]
  refine J_lct (by rw [show (6 : Int32) = n2 6 from rfl, n2_lt (by omega) (by decide)]; exact h6') ?_
  rw [r_12_0 hy]
  refine J_lcN (by decide) (J_lcK (k_28 hy) (J_lcc (J_lc (h.adv hy hT) (fun r1 M1 h1 => J_rc (stp_m hy hT g.1) (fun s1 N1 g1 => ?_)))))
  have h1 : CS T (tE T p) D M0 M1 := h1
  have g1' : MS T (tE T p) D N0 N1 := g.g73 g1.1 g1.2
  have e11' : N1.1 77 (11 : Int32).toNatClampNeg = n2 (kg (dK D)) := g1'.2.2.1.1.2.2.2.2.1
  refine J_rcA (k_77 hy) (by decide) (J_rcl ?_)
  rw [e11', show (6 : Int32) + n2 (kg (dK D)) = n2 (6 + kg (dK D)) from n2_add 6 _]
  have gA : ¬ (n2 (6 + kg (dK D)) < 0 ∨ 12 ≤ (n2 (6 + kg (dK D))).toNatClampNeg) := by
    rw [n2_nat (by omega)]
    intro q
    rcases q with q | q
    · exact n2_n0 (by omega) q
    · omega
  have eN : (n2 (6 + kg (dK D))).toNatClampNeg = 6 + kg (dK D) := n2_nat (by omega)
  rw [r_73_7 hy, r_73_8 hy, r_73_9 hy]
  refine J_rcN (by decide) (J_rcA (k_79 hy) gA (J_rcl (J_rcN (by decide) ?_)))
  rw [eN, wI_sr]
  have g2 := dGw g1' (q := 79) (Or.inl rfl) o
  refine J_lcc (J_rcc (J_cc (num_J2 hy hT h1 g2 (a := 0) (b := 9) (by decide) (by decide)) (fun r2 M2 s2 N2 q2 => ?_)))
  rcases q2 with ⟨s, ⟨-, hs⟩, ⟨e2, e3⟩, ⟨p1, p2⟩, h2, g3, gg3⟩ | ⟨e2, e3, bad⟩
  · have e2 : r2 = n2 s := e2
    have e3 : s2 = n2 s := e3
    have h2 : CS T (tE T (tE T p)) D M0 M2 := h2
    have g3 : MS T (tE T (tE T p)) D N0 N2 := g3
    have gg3 : G73 _ N2 := gg3
    rw [e2, e3]
    refine J_lcf (n2_n1 (by omega)) ?_
    refine J_rcA (k_80 hy) gA (J_rcl (J_rcN (by decide) ?_))
    rw [wI_sr]
    have g4 := dGw g3 (q := 80) (Or.inr (Or.inl rfl)) (n2 s)
    refine J_lcc (J_rcc (J_cc (cell_J2 hy hT h2 g4 hD 0) (fun r3 M3 s3 N3 q3 => ?_)))
    rcases q3 with ⟨c, ⟨hc, -⟩, ⟨e4, e5⟩, ⟨p3, p4⟩, h3, g5, gg5⟩ | ⟨e4, e5, bad⟩
    · have e4 : r3 = n2 c := e4
      have e5 : s3 = n2 c := e5
      have h3 : CS T (tE T (tE T (tE T p))) (dAu D) M0 M3 := h3
      have g5 : MS T (tE T (tE T p)) (dAu D) N0 N3 := g5
      have gg5 : N3 = _ := gg5
      rw [e4, e5]
      refine J_lcf (n2_n1 (by omega)) ?_
      refine J_rcA (k_81 hy) gA (J_rcl ?_)
      rw [wI_sr N3]
      have g6 := dGw g5 (q := 81) (Or.inr (Or.inr rfl)) (n2 c)
      have w1 : (sr N3 81 (up (N3.1 81) (6 + kg (dK D)) (n2 c))).1 79 (6 + kg (dK D)) = o := by
        rw [sr_ne (by decide), gg5, sr_ne (by decide), sr_ne (by decide), gg3.r79.1, sr_ap, up_eq]
      have w2 : (sr N3 81 (up (N3.1 81) (6 + kg (dK D)) (n2 c))).1 80 (6 + kg (dK D)) = n2 s := by
        rw [sr_ne (by decide), gg5, sr_ne (by decide), sr_ap, up_eq]
      have w3 : (sr N3 81 (up (N3.1 81) (6 + kg (dK D)) (n2 c))).1 81 (6 + kg (dK D)) = n2 c := by
        rw [sr_ap, up_eq]
      refine J_rct g6.2.1 (J_rcc (J_rc (stp_m hy hT g6.1) (fun s4 N4 g7 => ?_)))
      have g7' : MS T (tE T (tE T (tE T p))) (dAu D) N0 N4 := g6.g73 g7.1 g7.2
      have gg7 : G73 _ N4 := g7.2
      have w1' : N4.1 79 (6 + kg (dK D)) = o := by rw [gg7.r79.1]; exact w1
      have w2' : N4.1 80 (6 + kg (dK D)) = n2 s := by rw [gg7.r79.2.1]; exact w2
      have w3' : N4.1 81 (6 + kg (dK D)) = n2 c := by rw [gg7.r79.2.2]; exact w3
      have e11'' : N4.1 77 (11 : Int32).toNatClampNeg = n2 (kg (dK D)) := g7'.2.2.1.1.2.2.2.2.1
      refine J_rcA (k_77 hy) (by decide) (J_rcA (k_77 hy) (by decide) (J_rcl (J_rcs ?_)))
      rw [e11'', n2_s]
      have g8 := dGi_m (D := dAu D) g7' hD.any ho h6' w1' w2' w3'
      have g8' : MS T (tE T (tE T (tE T p))) (dGi (dAu D) o s c) N0 (wI N4 77 (11 : Int32).toNatClampNeg (n2 (kg (dK D) + 1))) := by rw [wI_sr]; exact g8
      have hv : DV (dGi (dAu D) o s c) := hD.any.gi rfl h6' hs hc
      -- the class
      have c1 := dG1_c h3
      refine J_lcl (J_lcl (J_lcj ?_))
      rw [h3.2.2.1.1.2.2.2.2.1, show kg (dK (dAu D)) = kg (dK D) from rfl, n2_s, wI_sr M3]
      have fin : ∀ M4, CS T (tE T (tE T (tE T p))) (dG2 (dG1 (dAu D)) (kox (dAu D) o)) M0 M4 → J (c0 (gN (y.2.1 12 3) (gK y (y.2.1 12 3) (0, 8) (c0 (f_X8_setSkill y (y.2.1 12 3) (n2 (kg (dK D))) (n2 s) M4) fun (r24 : Int32) (M25 : Mem) => c0 (f_X8_setSpot y (y.2.1 12 3) (n2 (kg (dK D))) (n2 c) M25) fun (r26 : Int32) (M27 : Mem) => c0 (f_X10_passes y 28 (59 : Int32) M27) fun (r28 : Int32) (M29 : Mem) => gd (r28 = 0 ∨ r28 = 1) (some (r28, M29))))) fun (r50 : Int32) (M51 : Mem) => gd (r50 = 0 ∨ r50 = 1) (some (r50, M51))) (c0 (f_X12_mark y 73 (59 : Int32) (wI N4 77 (11 : Int32).toNatClampNeg (n2 (kg (dK D) + 1)))) fun (r13 : Int32) (M14 : Mem) => some (x, M14)) (LO T M0 N0 p) := by
        intro M4 c4
        rw [r_12_3 hy]
        refine J_lcN (by decide) (J_lcK (k_21 hy) (J_lcq (setSkill_21 hy h6' (n2 s)) (J_lcq (setSpot_21 hy h6' (n2 c)) ?_)))
        have c5 := dG3_c c4 (kg (dK D)) (n2 s) h6'
        have c6 := dG4_c c5 (kg (dK D)) (n2 c) h6'
        exact end_J hy hT c6 g8' hv (p0 := p) (by omega) hx
      rcases ho with rfl | rfl
      · refine J_lct rfl ?_
        refine fin _ ?_
        have c2 : CS T (tE T (tE T (tE T p))) (dG2 (dG1 (dAu D)) (kox (dAu D) 0)) M0 (sr M3 13 (up (M3.1 13) 4 (n2 (kg (dK D) + 1)))) := by
          have e : kox (dAu D) 0 = ko (dK D) := if_pos rfl
          rw [e]
          exact c1
        exact c2
      · refine J_lcf (by decide) (J_lcl ?_)
        refine fin _ ?_
        have e : kox (dAu D) 1 = ko (dK D) ||| bit (kg (dK D)) := if_neg (by decide)
        have c2 := dG2_c c1 (kox (dAu D) 1)
        rw [e]
        rw [e] at c2
        have e2 : (sr M3 13 (up (M3.1 13) 4 (n2 (kg (dK D) + 1)))).1 13 5 = ko (dK D) := by
          rw [sr_ap, up_ne (by decide)]
          exact h3.2.2.1.1.2.2.2.2.2
        rw [e2, wI_sr]
        exact c2
    · have e4 : r3 = -1 := e4
      rw [e4]
      refine J_lct rfl (J_lcs (J_lg (Or.inl rfl) (J_rcA (k_81 hy) gA (J_rcl ?_))))
      rw [wI_sr]
      have bad' : LF M0 N0 M3 (sr N3 81 (up (N3.1 81) (6 + kg (dK D)) s3)) := bad.upd (by omega)
      refine J_rcf bad'.1.bad (J_rcs ?_)
      exact bad_J hy bad'
  · have e2 : r2 = -1 := e2
    rw [e2]
    refine J_lct rfl (J_lcs (J_lg (Or.inl rfl) (J_rcA (k_80 hy) gA (J_rcl (J_rcN (by decide) ?_)))))
    rw [wI_sr]
    have bad' : LF M0 N0 M2 (sr N2 80 (up (N2.1 80) (6 + kg (dK D)) s2)) := bad.upd (by omega)
    refine J_rcc (J_rq (cellNow_b hy bad'.1.bad) (J_rcA (k_81 hy) gA (J_rcl ?_)))
    rw [wI_sr]
    have bad2 := bad'.upd (q := 73) (k := 26) (x := 1) (by omega)
    have bad3 := bad2.upd (q := 81) (k := 6 + kg (dK D)) (x := 0) (by omega)
    refine J_rcf bad3.1.bad (J_rcs ?_)
    exact bad_J hy bad3
