/-! ===== the class's day, with girls and rules ===== -/
def COA (K : KG) (M : Mem) : Prop := (M.1 4 0 = n2 (kw K) ∧ M.1 4 1 = n2 (kh K) ∧ M.1 4 2 = n2 (kr K) ∧ M.1 4 3 = n2 (kb K) ∧ M.1 4 4 = n2 (kg K) ∧ M.1 4 5 = ko K) ∧ (∀ c, c < 30 → M.1 5 c = if c < kn K then bes K c else 0) ∧ (M.1 6 2 = n2 (dl K) ∧ M.1 7 = dc K) ∧ (M.1 9 2 = n2 (fl K) ∧ M.1 10 = fc K)
theorem COA.frame {K : KG} {M N : Mem} (h : COA K M) (h4 : N.1 4 = M.1 4) (h5 : N.1 5 = M.1 5) (h6 : N.1 6 = M.1 6) (h7 : N.1 7 = M.1 7) (h9 : N.1 9 = M.1 9) (h10 : N.1 10 = M.1 10) : COA K N := by
  unfold COA at h ⊢
  rw [h4, h5, h6, h7, h9, h10]
  exact h
theorem COA.eqx {K : KG} {M N : Mem} {ps : List Nat} (h : COA K M) (e : Eqx ps M N) (d : ps.all (fun p => !([4, 5, 6, 7, 9, 10].contains p)) = true) : COA K N := by
  have key : ∀ p, [4, 5, 6, 7, 9, 10].contains p = true → N.1 p = M.1 p := fun p hp => e.2 p (fun hq => by
    have := List.all_eq_true.mp d p hq
    rw [hp] at this
    cases this)
  exact h.frame (key 4 (by decide)) (key 5 (by decide)) (key 6 (by decide)) (key 7 (by decide)) (key 9 (by decide)) (key 10 (by decide))
theorem COA.geo {K : KG} {M : Mem} (h : COA K M) (hK : KOK K) : GEO (kw K) (kh K) (M.1 4 0) (M.1 4 1) := ⟨hK.1.1, hK.1.2, h.1.1, h.1.2.1⟩
theorem COA.be {K : KG} {M : Mem} (h : COA K M) {c : Nat} (hK : KOK K) (hc : c < kn K) : M.1 5 c = bes K c := by
  have h30 := hK.n30
  rw [h.2.1 c (by omega), if_pos hc]
theorem zc0 : (0 : Int32).toNatClampNeg = 0 := rfl
theorem zc1 : (1 : Int32).toNatClampNeg = 1 := rfl
theorem zc2 : (2 : Int32).toNatClampNeg = 2 := rfl
theorem zc3 : (3 : Int32).toNatClampNeg = 3 := rfl
theorem zc4 : (4 : Int32).toNatClampNeg = 4 := rfl
theorem zc5 : (5 : Int32).toNatClampNeg = 5 := rfl
theorem zc6 : (6 : Int32).toNatClampNeg = 6 := rfl
theorem zc7 : (7 : Int32).toNatClampNeg = 7 := rfl
theorem zc8 : (8 : Int32).toNatClampNeg = 8 := rfl
theorem zc30 : (30 : Int32).toNatClampNeg = 30 := rfl
/-- a flag -/
theorem fl_0 {x : Int32} {i : Nat} (h : bt x i = 0) : (if ((x >>> (n2 i &&& 31)) &&& 1) = 0 then (0 : Int32) else 1) = 0 := if_pos h
theorem fl_1 {x : Int32} {i : Nat} (h : ¬ bt x i = 0) : ¬ (if ((x >>> (n2 i &&& 31)) &&& 1) = 0 then (0 : Int32) else 1) = 0 := by
  have h' : ¬ ((x >>> (n2 i &&& 31)) &&& 1) = 0 := h
  rw [if_neg h']; decide
/-- a day's blue drips: the class goes over all cells -/
def dpN (w c i : Nat) : Nat := (i - 1 - c) / w
theorem dp_1 : ∀ w : Fin 7, ∀ c : Fin 30, ∀ i : Fin 30, 0 < w.val → (¬ i.val ≤ c.val ∧ i.val % w.val = c.val % w.val → dpN w.val c.val (i.val + 1) = dpN w.val c.val i.val + 1 ∧ i.val = c.val + w.val * (dpN w.val c.val i.val + 1)) ∧ (¬ (¬ i.val ≤ c.val ∧ i.val % w.val = c.val % w.val) → dpN w.val c.val (i.val + 1) = dpN w.val c.val i.val) := by decide +kernel
def bsF (be : Int32) (B : Row) : Nat → Int32 → Int32 := fun k a => if bt be k = 0 then a else a + B k
theorem bsum_it (be : Int32) (B : Row) : bsum be B = it (bsF be B) 0 30 := rfl
theorem setValues_37 {y : Lay} (hy : LY y) {M : Mem} {K : KG} (hK : KOK K) (hC : COA K M) {c : Nat} (hc : c < kn K) : f_X8_setValues y 37 (n2 c) M = some (0, sr M 43 (up (up (up (up (M.1 43) 0 (M.1 38 c)) 1 (bsum (bes K c) (M.1 38))) 2 (n2 (c / kw K))) 3 (M.1 37 11))) := by
  unfold f_X8_setValues
  have h30 := hK.n30
  simp only [lT_s, jn_s, c0_s, cp_s, cx_s, cx_t, gK_t (k_37 hy), gN_t (r := 37) (by decide), r_37_0 hy, r_37_1 hy, r_37_2 hy, r_37_3 hy, r_37_4 hy, r_37_5 hy, r_37_6 hy, gN_t (r := 38) (by decide), gN_t (r := 43) (by decide), gK_t (k_4 hy), gN_t (r := 4) (by decide), r_4_6 hy, r_4_7 hy, r_4_8 hy, besideBits_4 hy (show c < 30 by omega), hC.be hK hc, blueOf_37 hy (show c < 30 by omega), zc0, zc1, zc2, zc3, n2_s]
  refine wp_eq ?_
  refine wp_for2 (i0 := 0) 30 (fun i a => a = it (bsF (bes K c) (M.1 38)) 0 i) (by decide) rfl (by omega) rfl ?_ ?_
  · intro f i a hi hI hk
    subst hI
    refine wp_brf (nle_l (m := 30) rfl hi (by omega)) ?_
    rw [gA_n (k_38 hy) hi (by omega), n2_nat (by omega), n2_s]
    refine wp_br (fun q => hk _ ?_) (fun q => hk _ ?_)
    · have q' : bt (bes K c) i = 0 := q
      rw [it_s]; unfold bsF; rw [if_pos q']
    · have q' : ¬ bt (bes K c) i = 0 := q
      rw [it_s]; unfold bsF; rw [if_neg q']
  · intro f a hI
    subst hI
    refine wp_brt (le_l (m := 30) rfl (by omega) (by omega)) ?_
    rw [gA_t (k_43 hy) (by decide), gA_t (k_43 hy) (by decide), wI_sr, wI_sr, sr_sr, sr_ap]
    have g := hC.geo hK
    rw [rowOf_4 hy (w := kw K) (h := kh K) (by rw [sr_ne (by decide)]; exact g) (show c < 64 by omega), cp_s, gA_t (k_43 hy) (by decide), gA_t (k_43 hy) (by decide)]
    simp only [wI_sr, sr_ap, sr_sr, sr_ne (show ¬ 37 = 43 by decide)]
    exact wp_some rfl
theorem vals_d37 {K : KG} {V B : Row} {dy x l : Int32} {c : Nat} : ∀ k, k < 6 → up (up (up (up (up (up V 0 (B c)) 1 (bsum (bes K c) B)) 2 (n2 (c / kw K))) 3 dy) 4 x) 5 l k = up (up (vals K B dy c) 4 x) 5 l k := by
  intro k hk
  have h : k = 0 ∨ k = 1 ∨ k = 2 ∨ k = 3 ∨ k = 4 ∨ k = 5 := by omega
  rcases h with rfl | rfl | rfl | rfl | rfl | rfl <;> rfl
theorem vals_f37 {K : KG} {V B : Row} {dy : Int32} {c : Nat} : ∀ k, k < 4 → up (up (up (up V 0 (B c)) 1 (bsum (bes K c) B)) 2 (n2 (c / kw K))) 3 dy k = vals K B dy c k := by
  intro k hk
  have h : k = 0 ∨ k = 1 ∨ k = 2 ∨ k = 3 := by omega
  rcases h with rfl | rfl | rfl | rfl <;> rfl
theorem dyeOf_37 {y : Lay} (hy : LY y) {M : Mem} {K : KG} (hK : KOK K) (hC : COA K M) (hp : SPK (kn K) (M.1 41)) {g : Nat} (hg : g < 6) (left : Int32) : wp (f_X8_dyeOf y 37 (n2 g) left M) (fun o => o.1 = dyeP K (M.1 38) (M.1 41) (M.1 42) (M.1 37 11) g left ∧ Eqx [43, 8] M o.2) := by
  unfold f_X8_dyeOf
  simp only [lT_s, jn_s, c0_s, cp_s, cx_s, cx_t, gK_t (k_37 hy), gN_t (r := 37) (by decide), r_37_0 hy, r_37_1 hy, r_37_2 hy, r_37_3 hy, r_37_4 hy, r_37_5 hy, r_37_6 hy, gK_t (k_4 hy), gN_t (r := 4) (by decide), r_4_6 hy, r_4_7 hy, r_4_8 hy, gK_t (k_6 hy), gN_t (r := 6) (by decide), r_6_0 hy, r_6_1 hy, isTold_g (k_6 hy), spotOf_37 hy hg, skillOf_37 hy hg, hC.2.2.1.1]
  unfold dyeP
  by_cases h : dl K = 0
  · rw [if_pos h, h]
    exact wp_brt (by decide) (wp_some ⟨rfl, Eqx.refl _ _⟩)
  · have hd7 := hK.2.2.1.1
    rw [if_neg h]
    have hn : ¬ n2 (dl K) ≤ 0 := by rw [show (0 : Int32) = n2 0 from rfl, n2_le (by omega) (by decide)]; omega
    rw [if_neg hn]
    refine wp_brf (by decide) ?_
    obtain ⟨h1, h2⟩ := hp.n g hK.n30
    generalize hcc : (M.1 41 g).toNatClampNeg = c at h1 h2 ⊢
    rw [h2, setValues_37 hy hK hC h1]
    simp only [lT_s, jn_s, c0_s, cp_s, cx_s, cx_t, gN_t (r := 43) (by decide)]
    rw [gA_t (k_43 hy) (by decide), gA_t (k_43 hy) (by decide), wI_sr, wI_sr, sr_sr, sr_ap, sr_sr, sr_ap, sr_ne (show ¬ 42 = 43 by decide), zc4, zc5]
    generalize hV : up (up (up (up (up (up (M.1 43) 0 (M.1 38 c)) 1 (bsum (bes K c) (M.1 38))) 2 (n2 (c / kw K))) 3 (M.1 37 11)) 4 (M.1 42 g)) 5 left = V
    have hW := hK.2.2.1.2 (by omega)
    refine wp_c0 _ (worth_g (ru := 6) (cr := 7) (sk := 8) (va := 43) (n := dl K) (k_6 hy) (r_6_0 hy) (r_6_1 hy) (k_7 hy) (k_8 hy) (k_43 hy) (by decide) (by decide) (by decide) (by decide) (by decide) (by rw [sr_ne (by decide)]; exact hC.2.2.1.1) hd7 (by rw [sr_ne (by decide), hC.2.2.1.2]; exact hW)) (fun r M1 h => ?_)
    obtain ⟨e1, e2⟩ := h
    dsimp only at e1 e2
    refine wp_some ⟨?_, ((Eqx.refl _ _).sr (by decide)).trans (e2.mono (by decide))⟩
    rw [e1, sr_ap, sr_ne (by decide), hC.2.2.1.2, ← hV, evR_v (m := 6) vals_d37 (by decide) (fun i hi => (hW.1 i hi).1)]
theorem drip_37 {y : Lay} (hy : LY y) {M : Mem} {K : KG} (hK : KOK K) (hC : COA K M) {c : Nat} (hc : c < kn K) (d : Int32) : f_X8_drip y 37 (n2 c) d M = some (0, sr M 38 (dripP K (M.1 37 7) c d (M.1 38))) := by
  unfold f_X8_drip
  have h30 := hK.n30
  have hw1 := hK.1.1.1
  have hw2 := hK.1.1.2
  have g := hC.geo hK
  simp only [lT_s, jn_s, c0_s, cp_s, cx_s, cx_t, gK_t (k_37 hy), gN_t (r := 37) (by decide), r_37_0 hy, r_37_1 hy, r_37_2 hy, r_37_3 hy, r_37_4 hy, r_37_5 hy, r_37_6 hy, gK_t (k_4 hy), gN_t (r := 4) (by decide), r_4_6 hy, r_4_7 hy, r_4_8 hy]
  refine wp_eq ?_
  refine wp_for2M (i0 := 0) (kn K) (fun i a s => a = (it (dripF (kw K) (M.1 37 7) c) (d, M.1 38) (dpN (kw K) c i)).1 ∧ s = sr M 38 (it (dripF (kw K) (M.1 37 7) c) (d, M.1 38) (dpN (kw K) c i)).2) (by have : FUEL = 100000 := rfl; omega) rfl (by omega) ?_ ?_ ?_
  · have z : dpN (kw K) c 0 = 0 := by unfold dpN; rw [show 0 - 1 - c = 0 by omega, Nat.zero_div]
    rw [z]
    exact ⟨rfl, (sr_self M 38).symm⟩
  · intro f i a s hi hI hk
    obtain ⟨rfl, rfl⟩ := hI
    have g' : GEO (kw K) (kh K) ((sr M 38 (it (dripF (kw K) (M.1 37 7) c) (d, M.1 38) (dpN (kw K) c i)).2).1 4 0) ((sr M 38 (it (dripF (kw K) (M.1 37 7) c) (d, M.1 38) (dpN (kw K) c i)).2).1 4 1) := by rw [sr_ne (by decide)]; exact g
    have hd := dp_1 ⟨kw K, by omega⟩ ⟨c, by omega⟩ ⟨i, by omega⟩ hw1
    dsimp only at hd
    rw [cells_4 hy g', cp_s]
    refine wp_brf (by show ¬ n2 (kw K * kh K) ≤ n2 i; rw [n2_le (by show kn K < _; omega) (by omega)]; show ¬ kn K ≤ i; omega) ?_
    refine wp_br (fun q => ?_) (fun q => ?_)
    · rw [n2_le (by omega) (by omega)] at q
      rw [n2_s]
      have e := hd.2 (fun z => z.1 q)
      exact hk _ _ ⟨by rw [e], by rw [e]⟩
    · rw [n2_le (by omega) (by omega)] at q
      rw [columnOf_4 hy g' (show i < 64 by omega), columnOf_4 hy g' (show c < 64 by omega), cp_s, cp_s]
      have m1 : i % kw K ≤ i := Nat.mod_le _ _
      have m2 : c % kw K ≤ c := Nat.mod_le _ _
      refine wp_br (fun q2 => ?_) (fun q2 => ?_)
      · rw [n2_inj (by omega) (by omega)] at q2
        obtain ⟨e1, e2⟩ := hd.1 ⟨q, q2⟩
        rw [addBlue_37 hy (show i < 30 by omega), c0_s, gd_t (by decide), n2_s, sr_ap, sr_sr, sr_ne (show ¬ 37 = 38 by decide)]
        refine hk _ _ ⟨by rw [e1, it_s]; rfl, ?_⟩
        rw [e1, it_s]
        unfold dripF
        dsimp only
        rw [← e2]
      · rw [n2_inj (by omega) (by omega)] at q2
        rw [n2_s]
        have e := hd.2 (fun z => q2 z.2)
        exact hk _ _ ⟨by rw [e], by rw [e]⟩
  · intro f a s hI
    obtain ⟨rfl, rfl⟩ := hI
    have g' : GEO (kw K) (kh K) ((sr M 38 (it (dripF (kw K) (M.1 37 7) c) (d, M.1 38) (dpN (kw K) c (kn K))).2).1 4 0) ((sr M 38 (it (dripF (kw K) (M.1 37 7) c) (d, M.1 38) (dpN (kw K) c (kn K))).2).1 4 1) := by rw [sr_ne (by decide)]; exact g
    rw [cells_4 hy g', cp_s]
    exact wp_brt (Int32.le_refl _) (wp_some rfl)
theorem swish_37 {y : Lay} (hy : LY y) {M : Mem} {K : KG} (hK : KOK K) (hC : COA K M) (hp : SPK (kn K) (M.1 41)) {g : Nat} (hg : g < 6) (left : Int32) : wp (f_X8_swish y 37 (n2 g) left M) (fun o => o.1 = 0 ∧ Eqx [38, 43, 8] M o.2 ∧ o.2.1 38 = swB K (M.1 38) (M.1 41) (M.1 42) (M.1 37 7) (M.1 37 11) g left) := by
  unfold f_X8_swish
  have h30 := hK.n30
  simp only [lT_s, jn_s, c0_s, cp_s, cx_s, cx_t, gK_t (k_37 hy), gN_t (r := 37) (by decide), r_37_0 hy, r_37_1 hy, r_37_2 hy, r_37_3 hy, r_37_4 hy, r_37_5 hy, r_37_6 hy, gK_t (k_4 hy), gN_t (r := 4) (by decide), r_4_6 hy, r_4_7 hy, r_4_8 hy]
  refine wp_c0 _ (dyeOf_37 hy hK hC hp hg left) (fun r M1 h => ?_)
  obtain ⟨e1, e2⟩ := h
  dsimp only at e1 e2
  have q7 : M1.1 37 = M.1 37 := e2.2 37 (by decide)
  have qb : M1.1 38 = M.1 38 := e2.2 38 (by decide)
  have qp : M1.1 41 = M.1 41 := e2.2 41 (by decide)
  have hC1 : COA K M1 := hC.eqx e2 (by decide)
  rw [spotOf_37 hy hg, cp_s, qp]
  obtain ⟨h1, h2⟩ := hp.n g h30
  unfold swB
  rw [← e1]
  generalize hcc : (M.1 41 g).toNatClampNeg = c at h1 h2 ⊢
  rw [h2, addBlue_37 hy (show c < 30 by omega), c0_s, isOld_g (k_4 hy), cp_s, sr_ne (show ¬ 4 = 38 by decide), hC1.1.2.2.2.2.2, q7, qb, besideBits_4 hy (show c < 30 by omega), cp_s, sr_ne (show ¬ 5 = 38 by decide), hC1.be hK h1]
  generalize hB1 : addB (M.1 37 7) c r (M.1 38) = B1
  unfold swT
  rw [hB1]
  have hC2 : COA K (sr M1 38 B1) := hC1.eqx ((Eqx.refl [38] M1).sr (by decide)) (by decide)
  by_cases ho : bt (ko K) g = 0
  · refine wp_brt (fl_0 ho) ?_
    rw [if_pos ho]
    refine wp_for (i0 := 0) (kn K) (fun i s => s = sr M1 38 (it (besG K (M.1 37 7) c (r / 2)) B1 i)) (by have : FUEL = 100000 := rfl; omega) rfl (by omega) rfl ?_ ?_
    · intro f i s hi hI hk
      subst hI
      rw [cells_4 hy (w := kw K) (h := kh K) (by rw [sr_ne (by decide)]; exact hC1.geo hK), cp_s]
      refine wp_brf (by show ¬ n2 (kw K * kh K) ≤ n2 i; rw [n2_le (by show kn K < _; omega) (by omega)]; show ¬ kn K ≤ i; omega) ?_
      rw [n2_s]
      refine wp_br (fun q => hk _ ?_) (fun q => ?_)
      · have q' : bt (bes K c) i = 0 := q
        rw [it_s]; unfold besG; rw [if_pos q']
      · have q' : ¬ bt (bes K c) i = 0 := q
        rw [gd_t (by decide), addBlue_37 hy (show i < 30 by omega), c0_s, sr_ap, sr_sr, sr_ne (show ¬ 37 = 38 by decide), q7]
        refine hk _ ?_
        rw [it_s]; unfold besG; rw [if_neg q']
    · intro f s hI
      subst hI
      rw [cells_4 hy (w := kw K) (h := kh K) (by rw [sr_ne (by decide)]; exact hC1.geo hK), cp_s]
      refine wp_brt (Int32.le_refl _) (wp_some ⟨rfl, (e2.mono (by decide)).sr (by decide), ?_⟩)
      rw [sr_ap]; rfl
  · refine wp_brf (fl_1 ho) ?_
    rw [if_neg ho, gd_t (by decide), drip_37 hy hK hC2 h1, c0_s, sr_ap, sr_sr, sr_ne (show ¬ 37 = 38 by decide), q7]
    exact wp_some ⟨rfl, (e2.mono (by decide)).sr (by decide), by rw [sr_ap]⟩
theorem setValues_58 {y : Lay} (hy : LY y) {M : Mem} {K : KG} (hK : KOK K) (hC : COA K M) {c : Nat} (hc : c < kn K) : f_X8_setValues y 58 (n2 c) M = some (0, sr M 64 (up (up (up (up (M.1 64) 0 (M.1 59 c)) 1 (bsum (bes K c) (M.1 59))) 2 (n2 (c / kw K))) 3 (M.1 58 11))) := by
  unfold f_X8_setValues
  have h30 := hK.n30
  simp only [lT_s, jn_s, c0_s, cp_s, cx_s, cx_t, gK_t (k_58 hy), gN_t (r := 58) (by decide), r_58_0 hy, r_58_1 hy, r_58_2 hy, r_58_3 hy, r_58_4 hy, r_58_5 hy, r_58_6 hy, gN_t (r := 59) (by decide), gN_t (r := 64) (by decide), gK_t (k_4 hy), gN_t (r := 4) (by decide), r_4_6 hy, r_4_7 hy, r_4_8 hy, besideBits_4 hy (show c < 30 by omega), hC.be hK hc, blueOf_58 hy (show c < 30 by omega), zc0, zc1, zc2, zc3, n2_s]
  refine wp_eq ?_
  refine wp_for2 (i0 := 0) 30 (fun i a => a = it (bsF (bes K c) (M.1 59)) 0 i) (by decide) rfl (by omega) rfl ?_ ?_
  · intro f i a hi hI hk
    subst hI
    refine wp_brf (nle_l (m := 30) rfl hi (by omega)) ?_
    rw [gA_n (k_59 hy) hi (by omega), n2_nat (by omega), n2_s]
    refine wp_br (fun q => hk _ ?_) (fun q => hk _ ?_)
    · have q' : bt (bes K c) i = 0 := q
      rw [it_s]; unfold bsF; rw [if_pos q']
    · have q' : ¬ bt (bes K c) i = 0 := q
      rw [it_s]; unfold bsF; rw [if_neg q']
  · intro f a hI
    subst hI
    refine wp_brt (le_l (m := 30) rfl (by omega) (by omega)) ?_
    rw [gA_t (k_64 hy) (by decide), gA_t (k_64 hy) (by decide), wI_sr, wI_sr, sr_sr, sr_ap]
    have g := hC.geo hK
    rw [rowOf_4 hy (w := kw K) (h := kh K) (by rw [sr_ne (by decide)]; exact g) (show c < 64 by omega), cp_s, gA_t (k_64 hy) (by decide), gA_t (k_64 hy) (by decide)]
    simp only [wI_sr, sr_ap, sr_sr, sr_ne (show ¬ 58 = 64 by decide)]
    exact wp_some rfl
theorem vals_d58 {K : KG} {V B : Row} {dy x l : Int32} {c : Nat} : ∀ k, k < 6 → up (up (up (up (up (up V 0 (B c)) 1 (bsum (bes K c) B)) 2 (n2 (c / kw K))) 3 dy) 4 x) 5 l k = up (up (vals K B dy c) 4 x) 5 l k := by
  intro k hk
  have h : k = 0 ∨ k = 1 ∨ k = 2 ∨ k = 3 ∨ k = 4 ∨ k = 5 := by omega
  rcases h with rfl | rfl | rfl | rfl | rfl | rfl <;> rfl
theorem vals_f58 {K : KG} {V B : Row} {dy : Int32} {c : Nat} : ∀ k, k < 4 → up (up (up (up V 0 (B c)) 1 (bsum (bes K c) B)) 2 (n2 (c / kw K))) 3 dy k = vals K B dy c k := by
  intro k hk
  have h : k = 0 ∨ k = 1 ∨ k = 2 ∨ k = 3 := by omega
  rcases h with rfl | rfl | rfl | rfl <;> rfl
theorem dyeOf_58 {y : Lay} (hy : LY y) {M : Mem} {K : KG} (hK : KOK K) (hC : COA K M) (hp : SPK (kn K) (M.1 62)) {g : Nat} (hg : g < 6) (left : Int32) : wp (f_X8_dyeOf y 58 (n2 g) left M) (fun o => o.1 = dyeP K (M.1 59) (M.1 62) (M.1 63) (M.1 58 11) g left ∧ Eqx [64, 8] M o.2) := by
  unfold f_X8_dyeOf
  simp only [lT_s, jn_s, c0_s, cp_s, cx_s, cx_t, gK_t (k_58 hy), gN_t (r := 58) (by decide), r_58_0 hy, r_58_1 hy, r_58_2 hy, r_58_3 hy, r_58_4 hy, r_58_5 hy, r_58_6 hy, gK_t (k_4 hy), gN_t (r := 4) (by decide), r_4_6 hy, r_4_7 hy, r_4_8 hy, gK_t (k_6 hy), gN_t (r := 6) (by decide), r_6_0 hy, r_6_1 hy, isTold_g (k_6 hy), spotOf_58 hy hg, skillOf_58 hy hg, hC.2.2.1.1]
  unfold dyeP
  by_cases h : dl K = 0
  · rw [if_pos h, h]
    exact wp_brt (by decide) (wp_some ⟨rfl, Eqx.refl _ _⟩)
  · have hd7 := hK.2.2.1.1
    rw [if_neg h]
    have hn : ¬ n2 (dl K) ≤ 0 := by rw [show (0 : Int32) = n2 0 from rfl, n2_le (by omega) (by decide)]; omega
    rw [if_neg hn]
    refine wp_brf (by decide) ?_
    obtain ⟨h1, h2⟩ := hp.n g hK.n30
    generalize hcc : (M.1 62 g).toNatClampNeg = c at h1 h2 ⊢
    rw [h2, setValues_58 hy hK hC h1]
    simp only [lT_s, jn_s, c0_s, cp_s, cx_s, cx_t, gN_t (r := 64) (by decide)]
    rw [gA_t (k_64 hy) (by decide), gA_t (k_64 hy) (by decide), wI_sr, wI_sr, sr_sr, sr_ap, sr_sr, sr_ap, sr_ne (show ¬ 63 = 64 by decide), zc4, zc5]
    generalize hV : up (up (up (up (up (up (M.1 64) 0 (M.1 59 c)) 1 (bsum (bes K c) (M.1 59))) 2 (n2 (c / kw K))) 3 (M.1 58 11)) 4 (M.1 63 g)) 5 left = V
    have hW := hK.2.2.1.2 (by omega)
    refine wp_c0 _ (worth_g (ru := 6) (cr := 7) (sk := 8) (va := 64) (n := dl K) (k_6 hy) (r_6_0 hy) (r_6_1 hy) (k_7 hy) (k_8 hy) (k_64 hy) (by decide) (by decide) (by decide) (by decide) (by decide) (by rw [sr_ne (by decide)]; exact hC.2.2.1.1) hd7 (by rw [sr_ne (by decide), hC.2.2.1.2]; exact hW)) (fun r M1 h => ?_)
    obtain ⟨e1, e2⟩ := h
    dsimp only at e1 e2
    refine wp_some ⟨?_, ((Eqx.refl _ _).sr (by decide)).trans (e2.mono (by decide))⟩
    rw [e1, sr_ap, sr_ne (by decide), hC.2.2.1.2, ← hV, evR_v (m := 6) vals_d58 (by decide) (fun i hi => (hW.1 i hi).1)]
theorem drip_58 {y : Lay} (hy : LY y) {M : Mem} {K : KG} (hK : KOK K) (hC : COA K M) {c : Nat} (hc : c < kn K) (d : Int32) : f_X8_drip y 58 (n2 c) d M = some (0, sr M 59 (dripP K (M.1 58 7) c d (M.1 59))) := by
  unfold f_X8_drip
  have h30 := hK.n30
  have hw1 := hK.1.1.1
  have hw2 := hK.1.1.2
  have g := hC.geo hK
  simp only [lT_s, jn_s, c0_s, cp_s, cx_s, cx_t, gK_t (k_58 hy), gN_t (r := 58) (by decide), r_58_0 hy, r_58_1 hy, r_58_2 hy, r_58_3 hy, r_58_4 hy, r_58_5 hy, r_58_6 hy, gK_t (k_4 hy), gN_t (r := 4) (by decide), r_4_6 hy, r_4_7 hy, r_4_8 hy]
  refine wp_eq ?_
  refine wp_for2M (i0 := 0) (kn K) (fun i a s => a = (it (dripF (kw K) (M.1 58 7) c) (d, M.1 59) (dpN (kw K) c i)).1 ∧ s = sr M 59 (it (dripF (kw K) (M.1 58 7) c) (d, M.1 59) (dpN (kw K) c i)).2) (by have : FUEL = 100000 := rfl; omega) rfl (by omega) ?_ ?_ ?_
  · have z : dpN (kw K) c 0 = 0 := by unfold dpN; rw [show 0 - 1 - c = 0 by omega, Nat.zero_div]
    rw [z]
    exact ⟨rfl, (sr_self M 59).symm⟩
  · intro f i a s hi hI hk
    obtain ⟨rfl, rfl⟩ := hI
    have g' : GEO (kw K) (kh K) ((sr M 59 (it (dripF (kw K) (M.1 58 7) c) (d, M.1 59) (dpN (kw K) c i)).2).1 4 0) ((sr M 59 (it (dripF (kw K) (M.1 58 7) c) (d, M.1 59) (dpN (kw K) c i)).2).1 4 1) := by rw [sr_ne (by decide)]; exact g
    have hd := dp_1 ⟨kw K, by omega⟩ ⟨c, by omega⟩ ⟨i, by omega⟩ hw1
    dsimp only at hd
    rw [cells_4 hy g', cp_s]
    refine wp_brf (by show ¬ n2 (kw K * kh K) ≤ n2 i; rw [n2_le (by show kn K < _; omega) (by omega)]; show ¬ kn K ≤ i; omega) ?_
    refine wp_br (fun q => ?_) (fun q => ?_)
    · rw [n2_le (by omega) (by omega)] at q
      rw [n2_s]
      have e := hd.2 (fun z => z.1 q)
      exact hk _ _ ⟨by rw [e], by rw [e]⟩
    · rw [n2_le (by omega) (by omega)] at q
      rw [columnOf_4 hy g' (show i < 64 by omega), columnOf_4 hy g' (show c < 64 by omega), cp_s, cp_s]
      have m1 : i % kw K ≤ i := Nat.mod_le _ _
      have m2 : c % kw K ≤ c := Nat.mod_le _ _
      refine wp_br (fun q2 => ?_) (fun q2 => ?_)
      · rw [n2_inj (by omega) (by omega)] at q2
        obtain ⟨e1, e2⟩ := hd.1 ⟨q, q2⟩
        rw [addBlue_58 hy (show i < 30 by omega), c0_s, gd_t (by decide), n2_s, sr_ap, sr_sr, sr_ne (show ¬ 58 = 59 by decide)]
        refine hk _ _ ⟨by rw [e1, it_s]; rfl, ?_⟩
        rw [e1, it_s]
        unfold dripF
        dsimp only
        rw [← e2]
      · rw [n2_inj (by omega) (by omega)] at q2
        rw [n2_s]
        have e := hd.2 (fun z => q2 z.2)
        exact hk _ _ ⟨by rw [e], by rw [e]⟩
  · intro f a s hI
    obtain ⟨rfl, rfl⟩ := hI
    have g' : GEO (kw K) (kh K) ((sr M 59 (it (dripF (kw K) (M.1 58 7) c) (d, M.1 59) (dpN (kw K) c (kn K))).2).1 4 0) ((sr M 59 (it (dripF (kw K) (M.1 58 7) c) (d, M.1 59) (dpN (kw K) c (kn K))).2).1 4 1) := by rw [sr_ne (by decide)]; exact g
    rw [cells_4 hy g', cp_s]
    exact wp_brt (Int32.le_refl _) (wp_some rfl)
theorem swish_58 {y : Lay} (hy : LY y) {M : Mem} {K : KG} (hK : KOK K) (hC : COA K M) (hp : SPK (kn K) (M.1 62)) {g : Nat} (hg : g < 6) (left : Int32) : wp (f_X8_swish y 58 (n2 g) left M) (fun o => o.1 = 0 ∧ Eqx [59, 64, 8] M o.2 ∧ o.2.1 59 = swB K (M.1 59) (M.1 62) (M.1 63) (M.1 58 7) (M.1 58 11) g left) := by
  unfold f_X8_swish
  have h30 := hK.n30
  simp only [lT_s, jn_s, c0_s, cp_s, cx_s, cx_t, gK_t (k_58 hy), gN_t (r := 58) (by decide), r_58_0 hy, r_58_1 hy, r_58_2 hy, r_58_3 hy, r_58_4 hy, r_58_5 hy, r_58_6 hy, gK_t (k_4 hy), gN_t (r := 4) (by decide), r_4_6 hy, r_4_7 hy, r_4_8 hy]
  refine wp_c0 _ (dyeOf_58 hy hK hC hp hg left) (fun r M1 h => ?_)
  obtain ⟨e1, e2⟩ := h
  dsimp only at e1 e2
  have q7 : M1.1 58 = M.1 58 := e2.2 58 (by decide)
  have qb : M1.1 59 = M.1 59 := e2.2 59 (by decide)
  have qp : M1.1 62 = M.1 62 := e2.2 62 (by decide)
  have hC1 : COA K M1 := hC.eqx e2 (by decide)
  rw [spotOf_58 hy hg, cp_s, qp]
  obtain ⟨h1, h2⟩ := hp.n g h30
  unfold swB
  rw [← e1]
  generalize hcc : (M.1 62 g).toNatClampNeg = c at h1 h2 ⊢
  rw [h2, addBlue_58 hy (show c < 30 by omega), c0_s, isOld_g (k_4 hy), cp_s, sr_ne (show ¬ 4 = 59 by decide), hC1.1.2.2.2.2.2, q7, qb, besideBits_4 hy (show c < 30 by omega), cp_s, sr_ne (show ¬ 5 = 59 by decide), hC1.be hK h1]
  generalize hB1 : addB (M.1 58 7) c r (M.1 59) = B1
  unfold swT
  rw [hB1]
  have hC2 : COA K (sr M1 59 B1) := hC1.eqx ((Eqx.refl [59] M1).sr (by decide)) (by decide)
  by_cases ho : bt (ko K) g = 0
  · refine wp_brt (fl_0 ho) ?_
    rw [if_pos ho]
    refine wp_for (i0 := 0) (kn K) (fun i s => s = sr M1 59 (it (besG K (M.1 58 7) c (r / 2)) B1 i)) (by have : FUEL = 100000 := rfl; omega) rfl (by omega) rfl ?_ ?_
    · intro f i s hi hI hk
      subst hI
      rw [cells_4 hy (w := kw K) (h := kh K) (by rw [sr_ne (by decide)]; exact hC1.geo hK), cp_s]
      refine wp_brf (by show ¬ n2 (kw K * kh K) ≤ n2 i; rw [n2_le (by show kn K < _; omega) (by omega)]; show ¬ kn K ≤ i; omega) ?_
      rw [n2_s]
      refine wp_br (fun q => hk _ ?_) (fun q => ?_)
      · have q' : bt (bes K c) i = 0 := q
        rw [it_s]; unfold besG; rw [if_pos q']
      · have q' : ¬ bt (bes K c) i = 0 := q
        rw [gd_t (by decide), addBlue_58 hy (show i < 30 by omega), c0_s, sr_ap, sr_sr, sr_ne (show ¬ 58 = 59 by decide), q7]
        refine hk _ ?_
        rw [it_s]; unfold besG; rw [if_neg q']
    · intro f s hI
      subst hI
      rw [cells_4 hy (w := kw K) (h := kh K) (by rw [sr_ne (by decide)]; exact hC1.geo hK), cp_s]
      refine wp_brt (Int32.le_refl _) (wp_some ⟨rfl, (e2.mono (by decide)).sr (by decide), ?_⟩)
      rw [sr_ap]; rfl
  · refine wp_brf (fl_1 ho) ?_
    rw [if_neg ho, gd_t (by decide), drip_58 hy hK hC2 h1, c0_s, sr_ap, sr_sr, sr_ne (show ¬ 58 = 59 by decide), q7]
    exact wp_some ⟨rfl, (e2.mono (by decide)).sr (by decide), by rw [sr_ap]⟩
