/-! ===== the model's day ===== -/
def moV (M : Mem) : Sk := (M.1 87, M.1 88, M.1 85, M.1 73 34, M.1 73 35, M.1 73 32, M.1 73 33, M.1 73 31, M.1 73 41)
def COM (K : KG) (M : Mem) : Prop := (M.1 77 0 = n2 (kw K) ∧ M.1 77 1 = n2 (kh K) ∧ M.1 77 4 = n2 (kr K) ∧ M.1 77 5 = n2 (kb K) ∧ M.1 77 2 = n2 (kg K)) ∧ (∀ g, g < kg K → M.1 79 g = (if bt (ko K) g = 1 then 1 else 0)) ∧ (M.1 77 6 = n2 (dl K) ∧ ∀ i, i < dl K → M.1 82 i = mc (dc K i)) ∧ (M.1 77 7 = n2 (fl K) ∧ ∀ i, i < fl K → M.1 83 i = mc (fc K i))
theorem COM.frame {K : KG} {M N : Mem} (h : COM K M) (h1 : N.1 77 = M.1 77) (h2 : N.1 79 = M.1 79) (h3 : N.1 82 = M.1 82) (h4 : N.1 83 = M.1 83) : COM K N := by
  unfold COM at h ⊢
  rw [h1, h2, h3, h4]
  exact h
theorem COM.eqx {K : KG} {M N : Mem} {ps : List Nat} (h : COM K M) (e : Eqx ps M N) (d : ps.all (fun p => !([77, 79, 82, 83].contains p)) = true) : COM K N := by
  have key : ∀ p, [77, 79, 82, 83].contains p = true → N.1 p = M.1 p := fun p hp => e.2 p (fun hq => by
    have := List.all_eq_true.mp d p hq
    rw [hp] at this
    cases this)
  exact h.frame (key 77 (by decide)) (key 79 (by decide)) (key 82 (by decide)) (key 83 (by decide))
theorem COM.geo {K : KG} {M : Mem} (h : COM K M) (hK : KOK K) : GEO (kw K) (kh K) (M.1 77 0) (M.1 77 1) := ⟨hK.1.1, hK.1.2, h.1.1, h.1.2.1⟩
/-! the model's signs -/
theorem mc_push {c : Int32} (h : -6 ≤ c.toInt) : mc c = c := by
  have k : ∀ z : Int32, z.toInt < -6 → ¬ c = z := fun z hz e => by rw [e] at h; omega
  unfold mc
  rw [if_neg (k _ (by decide)), if_neg (k _ (by decide)), if_neg (k _ (by decide)), if_neg (k _ (by decide)), if_neg (k _ (by decide)), if_neg (k _ (by decide)), if_neg (k _ (by decide)), if_neg (k _ (by decide)), if_neg (k _ (by decide))]
theorem mc_bin {c : Int32} (h : isBin c) : mc c ≤ -20 ∧ ¬ mc c = -28 := by
  rcases h with rfl | rfl | rfl | rfl | rfl | rfl | rfl | rfl <;> decide
theorem m20 {c : Int32} (h : -6 ≤ c.toInt) : ¬ c ≤ -20 := by
  have z : (-20 : Int32).toInt = -20 := by decide
  rw [i_le, z]; omega
theorem valueNow_g {y : Lay} (hy : LY y) {p n N : Nat} {M : Mem} {code : Row} (kp : kd y p = (1, N)) (hN : n ≤ N) (hn7 : n ≤ 700) (dp : ¬ p = 91) (hc : ∀ i, i < n → M.1 p i = mc (code i)) (hW : WFR 6 code n) : wp (f_X12_valueNow y 73 p (n2 n) M) (fun o => o.1 = (evR (M.1 90) code n).1 0 ∧ Eqx [91] M o.2) := by
  unfold f_X12_valueNow
  simp only [lT_s, gK_t (k_73 hy), gN_t (r := 73) (by decide), r_73_0 hy, r_73_1 hy, r_73_2 hy, r_73_5 hy, r_73_6 hy, r_73_7 hy, r_73_8 hy, r_73_9 hy, r_73_10 hy, r_73_11 hy, r_73_12 hy, r_73_13 hy, r_73_14 hy, r_73_28 hy, r_73_29 hy, r_73_30 hy, r_73_38 hy, r_73_39 hy, r_73_40 hy, r_73_42 hy, r_73_43 hy, r_73_44 hy, r_73_45 hy, r_73_46 hy, r_73_47 hy, r_73_48 hy, r_73_49 hy, r_73_50 hy, r_73_51 hy, r_73_53 hy, r_73_58 hy, r_73_59 hy, r_73_60 hy, r_73_61 hy, r_73_62 hy, r_73_63 hy, gN_t (r := 90) (by decide), gN_t (r := 91) (by decide)]
  refine wp_for2M (i0 := 0) n (fun i c s => c = n2 (dpt code i) ∧ Eqx [91] M s ∧ ∀ k, k < dpt code i → s.1 91 k = (evR (M.1 90) code i).1 k) (by have : FUEL = 100000 := rfl; omega) rfl (by omega) ⟨rfl, Eqx.refl _ _, fun k hk => absurd hk (Nat.not_lt_zero _)⟩ ?_ ?_
  · intro f i c s hi hI hk
    obtain ⟨hcc, hE, hS⟩ := hI
    subst hcc
    obtain ⟨w1, w2, w3, w4⟩ := hW.1 i hi
    have e2 := evR_2 (M.1 90) code i
    have scr : s.1 p = M.1 p := hE.2 p (by simpa using dp)
    have sva : s.1 90 = M.1 90 := hE.2 90 (by decide)
    refine wp_brf (by rw [n2_le (by omega) (by omega)]; omega) ?_
    rw [gA_n kp (by omega) (by omega), n2_nat (show i < 2147483648 by omega), scr, hc i hi, jn_s]
    have hdS : dpt code (i + 1) = (if code i = -13 then dpt code i else if isB (code i) = true then dpt code i - 1 else dpt code i + 1) := rfl
    have heS : evR (M.1 90) code (i + 1) = stp (M.1 90) (code i) (evR (M.1 90) code i) := rfl
    generalize code i = c at w1 w2 w3 hdS heS
    by_cases h13 : c = -13
    · rw [if_pos h13] at hdS
      have hd := w2 h13
      have hm : mc c = -28 := by rw [h13]; decide
      rw [hm]
      refine wp_brt (by decide) (wp_brt rfl ?_)
      rw [show n2 (dpt code i) - 1 = n2 (dpt code i - 1) from n2_sub (b := 1) hd]
      rw [gA_n (k_91 hy) (by omega) (by omega), jn_s, n2_nat (show dpt code i - 1 < 2147483648 by omega)]
      have val : s.1 91 (dpt code i - 1) = (evR (M.1 90) code i).1 (dpt code i - 1) := hS _ (by omega)
      have fin : ∀ v, v = (if (evR (M.1 90) code i).1 (dpt code i - 1) = 0 then (1 : Int32) else 0) → wp (gA y 91 1 (n2 (dpt code i - 1)) (f (n2 (dpt code i)) (n2 i + 1) (wI s 91 (dpt code i - 1) v))) (fun o => o.1 = (evR (M.1 90) code n).1 0 ∧ Eqx [91] M o.2) := by
        intro v hv
        rw [gA_n (k_91 hy) (by omega) (by omega), n2_s, wI_sr]
        refine hk _ _ ⟨by rw [hdS], hE.sr (by decide), fun k hk2 => ?_⟩
        rw [hdS] at hk2
        rw [sr_ap, heS]
        unfold stp
        rw [if_pos h13]
        dsimp only
        rw [e2]
        by_cases q : k = dpt code i - 1
        · rw [q, up_eq, up_eq, hv]
        · rw [up_ne q, up_ne q]; exact hS k hk2
      refine wp_br (fun q => ?_) (fun q => ?_)
      · exact fin 1 (by rw [val] at q; rw [if_pos q])
      · exact fin 0 (by rw [val] at q; rw [if_neg q])
    · rw [if_neg h13] at hdS
      by_cases hb : isB c = true
      · rw [if_pos hb] at hdS
        have hd := w3 hb
        obtain ⟨m1, m2⟩ := mc_bin (isB_iff.mp hb)
        refine wp_brt m1 (wp_brf m2 ?_)
        rw [am1, show n2 (dpt code i) - 1 = n2 (dpt code i - 1) from n2_sub (b := 1) (by omega), show n2 (dpt code i - 1) - 1 = n2 (dpt code i - 1 - 1) from n2_sub (b := 1) (by omega)]
        rw [gA_n (k_91 hy) (by omega) (by omega), gA_n (k_91 hy) (by omega) (by omega), n2_nat (show dpt code i - 1 - 1 < 2147483648 by omega), n2_nat (show dpt code i - 1 < 2147483648 by omega), reckon_s (isB_iff.mp hb), cp_s, gA_n (k_91 hy) (by omega) (by omega), n2_s, wI_sr]
        refine hk _ _ ⟨by rw [hdS], hE.sr (by decide), fun k hk2 => ?_⟩
        rw [hdS] at hk2
        rw [sr_ap, heS]
        unfold stp
        rw [if_neg h13, if_pos hb]
        dsimp only
        rw [e2, show dpt code i - 1 - 1 = dpt code i - 2 by omega, hS _ (by omega), hS _ (by omega)]
        by_cases q : k = dpt code i - 2
        · rw [q, up_eq, up_eq]
        · rw [up_ne q, up_ne q]; exact hS k (by omega)
      · rw [if_neg hb] at hdS
        have hp := okC_push (by decide) w1 h13 hb
        have hp6 : -6 ≤ c.toInt := hp.1
        rw [mc_push hp6]
        have fin : ∀ v, v = (if c < 0 then M.1 90 (-1 - c).toNatClampNeg else c) → wp (gA y 91 1 (n2 (dpt code i)) (f (n2 (dpt code i) + 1) (n2 i + 1) (wI s 91 (n2 (dpt code i)).toNatClampNeg v))) (fun o => o.1 = (evR (M.1 90) code n).1 0 ∧ Eqx [91] M o.2) := by
          intro v hv
          rw [gA_n (k_91 hy) (by omega) (by omega), n2_s, n2_s, wI_sr, n2_nat (by omega)]
          refine hk _ _ ⟨by rw [hdS], hE.sr (by decide), fun k hk2 => ?_⟩
          rw [hdS] at hk2
          rw [sr_ap, heS]
          unfold stp
          rw [if_neg h13, if_neg hb]
          dsimp only
          rw [e2]
          by_cases q : k = dpt code i
          · rw [q, up_eq, up_eq, hv]
          · rw [up_ne q, up_ne q]; exact hS k (by omega)
        refine wp_brf (m20 hp6) ?_
        rw [jn_s]
        by_cases hneg : c < 0
        · obtain ⟨q1, q2, q3⟩ := neg1_lt hp6 hp.2 hneg
          refine wp_brt hneg ?_
          rw [gA_t (k_90 hy) (fun q => by rcases q with q | q; exact q1 q; omega), sva]
          exact fin _ (by rw [if_pos hneg])
        · refine wp_brf hneg ?_
          exact fin _ (by rw [if_neg hneg])
  · intro f c s hI
    obtain ⟨hcc, hE, hS⟩ := hI
    subst hcc
    rw [hW.2] at hS ⊢
    refine wp_brt (Int32.le_refl _) ?_
    rw [gA_t (k_91 hy) (by decide)]
    exact wp_some ⟨hS 0 (by decide), hE⟩
/-! what lies beside -/
theorem bes_0 (w c : Nat) : ∀ n, n ≤ 31 → ∀ k, n ≤ k → k < 32 → ¬ bt (besP w n c) k = 1 := by
  intro n
  induction n with
  | zero => intro _ k _ hk; exact bt_0 hk
  | succ n ih =>
    intro hn k h1 h2
    show ¬ bt (besF w c n (besP w n c)) k = 1
    unfold besF
    split
    · rw [bt_or h2, bt_b (by omega) h2]
      intro q
      rcases q with q | q
      · exact ih (by omega) k (by omega) h2 q
      · omega
    · exact ih (by omega) k (by omega) h2
theorem bsum_n {be : Int32} {B : Row} {n : Nat} (h : ∀ k, n ≤ k → k < 30 → bt be k = 0) (hn : n ≤ 30) : bsum be B = it (bsF be B) 0 n := by
  have key : ∀ j, n + j ≤ 30 → it (bsF be B) (0 : Int32) (n + j) = it (bsF be B) 0 n := by
    intro j
    induction j with
    | zero => intro _; rfl
    | succ j ih =>
      intro hj
      show bsF be B (n + j) (it (bsF be B) 0 (n + j)) = _
      rw [ih (by omega)]
      unfold bsF
      rw [if_pos (h (n + j) (by omega) (by omega))]
  rw [bsum_it, ← key (30 - n) (by omega), show n + (30 - n) = 30 by omega]
theorem bes_z {K : KG} (hK : KOK K) {c k : Nat} (h1 : kn K ≤ k) (h2 : k < 30) : bt (bes K c) k = 0 := by
  rcases bt01 (bes K c) k with h | h
  · exact h
  · have h30 := hK.n30
    exact absurd h (bes_0 _ _ _ (by omega) k h1 (by omega))
theorem blueBeside_s {y : Lay} (hy : LY y) {M : Mem} {K : KG} (hK : KOK K) (hC : COM K M) {c : Nat} (hc : c < 30) : f_X12_blueBeside y 73 (n2 c) M = some (bsum (bes K c) (M.1 87)) := by
  unfold f_X12_blueBeside
  have h30 := hK.n30
  have g := hC.geo hK
  simp only [lT_s, jn_s, c0_s, cp_s, cx_s, cx_t, gK_t (k_73 hy), gN_t (r := 73) (by decide), r_73_0 hy, r_73_1 hy, r_73_2 hy, r_73_5 hy, r_73_6 hy, r_73_7 hy, r_73_8 hy, r_73_9 hy, r_73_10 hy, r_73_11 hy, r_73_12 hy, r_73_13 hy, r_73_14 hy, r_73_28 hy, r_73_29 hy, r_73_30 hy, r_73_38 hy, r_73_39 hy, r_73_40 hy, r_73_42 hy, r_73_43 hy, r_73_44 hy, r_73_45 hy, r_73_46 hy, r_73_47 hy, r_73_48 hy, r_73_49 hy, r_73_50 hy, r_73_51 hy, r_73_53 hy, r_73_58 hy, r_73_59 hy, r_73_60 hy, r_73_61 hy, r_73_62 hy, r_73_63 hy, gN_t (r := 87) (by decide), besideM hy g hc, cellsG hy g, isOf_s]
  rw [bsum_n (fun k h1 h2 => bes_z hK h1 h2) h30]
  refine wp_eq ?_
  refine wp_for2 (i0 := 0) (kn K) (fun i a => a = it (bsF (bes K c) (M.1 87)) 0 i) (by have : FUEL = 100000 := rfl; omega) rfl (by omega) rfl ?_ ?_
  · intro f i a hi hI hk
    subst hI
    refine wp_brf (by show ¬ n2 (kw K * kh K) ≤ n2 i; rw [n2_le (by show kn K < _; omega) (by omega)]; show ¬ kn K ≤ i; omega) ?_
    have e : besP (kw K) (kw K * kh K) c = bes K c := rfl
    rw [e, isOf_s, cp_s]
    rcases bt01 (bes K c) i with h | h
    · rw [if_neg (by rw [h]; decide)]
      refine wp_brt rfl ?_
      rw [n2_s]
      refine hk _ ?_
      rw [it_s]; unfold bsF; rw [if_pos h]; exact Int32.add_zero _
    · rw [if_pos h]
      refine wp_brf (by decide) ?_
      rw [gA_n (k_87 hy) (by omega) (by omega), n2_nat (by omega), n2_s]
      refine hk _ ?_
      rw [it_s]; unfold bsF; rw [if_neg (by rw [h]; decide)]
  · intro f a hI
    subst hI
    exact wp_brt (Int32.le_refl _) (wp_some rfl)
theorem ask_s {y : Lay} (hy : LY y) {M : Mem} {K : KG} (hK : KOK K) (hC : COM K M) {c : Nat} (hc : c < kn K) : f_X12_ask y 73 (n2 c) M = some (0, sr M 90 (up (up (up (up (M.1 90) 0 (M.1 87 c)) 1 (bsum (bes K c) (M.1 87))) 2 (n2 (c / kw K))) 3 (M.1 73 31))) := by
  unfold f_X12_ask
  have h30 := hK.n30
  simp only [lT_s, jn_s, c0_s, cp_s, cx_s, cx_t, gK_t (k_73 hy), gN_t (r := 73) (by decide), r_73_0 hy, r_73_1 hy, r_73_2 hy, r_73_5 hy, r_73_6 hy, r_73_7 hy, r_73_8 hy, r_73_9 hy, r_73_10 hy, r_73_11 hy, r_73_12 hy, r_73_13 hy, r_73_14 hy, r_73_28 hy, r_73_29 hy, r_73_30 hy, r_73_38 hy, r_73_39 hy, r_73_40 hy, r_73_42 hy, r_73_43 hy, r_73_44 hy, r_73_45 hy, r_73_46 hy, r_73_47 hy, r_73_48 hy, r_73_49 hy, r_73_50 hy, r_73_51 hy, r_73_53 hy, r_73_58 hy, r_73_59 hy, r_73_60 hy, r_73_61 hy, r_73_62 hy, r_73_63 hy, gN_t (r := 87) (by decide), gN_t (r := 90) (by decide), gA_n (k_87 hy) (show c < 30 by omega) (by omega), n2_nat (show c < 2147483648 by omega)]
  rw [gA_t (k_90 hy) (by decide), wI_sr, blueBeside_s hy hK (hC.eqx ((Eqx.refl [90] M).sr (by decide)) (by decide)) (show c < 30 by omega), cp_s, gA_t (k_90 hy) (by decide), wI_sr, sr_sr, sr_ap]
  rw [rowM hy (w := kw K) (h := kh K) (by rw [sr_ne (by decide)]; exact hC.geo hK) (show c < 64 by omega), cp_s, gA_t (k_90 hy) (by decide), gA_t (k_90 hy) (by decide)]
  simp only [wI_sr, sr_ap, sr_sr, sr_ne (show ¬ 73 = 90 by decide), sr_ne (show ¬ 87 = 90 by decide), zc0, zc1, zc2, zc3]
theorem dyesOf_s {y : Lay} (hy : LY y) {M : Mem} {K : KG} (hK : KOK K) (hC : COM K M) (hp : SPK (kn K) (M.1 88)) (hs : SKK (M.1 85)) {g : Nat} (hg : g < 6) (left : Int32) : wp (f_X12_dyesOf y 73 (n2 g) left M) (fun o => o.1 = dyeP K (M.1 87) (M.1 88) (M.1 85) (M.1 73 31) g left ∧ Eqx [90, 91] M o.2) := by
  unfold f_X12_dyesOf
  simp only [lT_s, jn_s, c0_s, cp_s, cx_s, cx_t, gK_t (k_73 hy), gN_t (r := 73) (by decide), r_73_0 hy, r_73_1 hy, r_73_2 hy, r_73_5 hy, r_73_6 hy, r_73_7 hy, r_73_8 hy, r_73_9 hy, r_73_10 hy, r_73_11 hy, r_73_12 hy, r_73_13 hy, r_73_14 hy, r_73_28 hy, r_73_29 hy, r_73_30 hy, r_73_38 hy, r_73_39 hy, r_73_40 hy, r_73_42 hy, r_73_43 hy, r_73_44 hy, r_73_45 hy, r_73_46 hy, r_73_47 hy, r_73_48 hy, r_73_49 hy, r_73_50 hy, r_73_51 hy, r_73_53 hy, r_73_58 hy, r_73_59 hy, r_73_60 hy, r_73_61 hy, r_73_62 hy, r_73_63 hy, gN_t (r := 77) (by decide), gN_t (r := 82) (by decide), gN_t (r := 85) (by decide), gN_t (r := 88) (by decide), gN_t (r := 90) (by decide), gA_n (k_85 hy) hg (by omega), gA_n (k_88 hy) hg (by omega), n2_nat (show g < 2147483648 by omega), zc6, zc5, zc4, hC.2.2.1.1]
  rw [gA_t (k_77 hy) (by decide)]
  unfold dyeP
  by_cases h : dl K = 0
  · rw [if_pos h, h]
    refine wp_brt (by decide) (wp_some ⟨?_, Eqx.refl _ _⟩)
    obtain ⟨v, h1, h2⟩ := hs.1 g
    have h3 := sk_dye ⟨v, by omega⟩
    dsimp only at h3
    show jmax 0 (jmin 30 _) = _
    rw [h2, h3.2, h3.1]
  · have hd7 := hK.2.2.1.1
    rw [if_neg h]
    have hn : ¬ n2 (dl K) ≤ 0 := by rw [show (0 : Int32) = n2 0 from rfl, n2_le (by omega) (by decide)]; omega
    refine wp_brf hn ?_
    obtain ⟨h1, h2⟩ := hp.n g hK.n30
    generalize hcc : (M.1 88 g).toNatClampNeg = c at h1 h2 ⊢
    rw [h2, ask_s hy hK hC h1, c0_s, gA_t (k_90 hy) (by decide), gA_t (k_90 hy) (by decide), gA_t (k_77 hy) (by decide), wI_sr, wI_sr, sr_sr, sr_ap, sr_sr, sr_ap, sr_ne (show ¬ 85 = 90 by decide), sr_ne (show ¬ 77 = 90 by decide), hC.2.2.1.1]
    generalize hV : up (up (up (up (up (up (M.1 90) 0 (M.1 87 c)) 1 (bsum (bes K c) (M.1 87))) 2 (n2 (c / kw K))) 3 (M.1 73 31)) 4 (M.1 85 g)) 5 left = V
    have hW := hK.2.2.1.2 (by omega)
    refine wp_c0 _ (valueNow_g hy (p := 82) (n := dl K) (code := dc K) (k_82 hy) (by omega) hd7 (by decide) (by rw [sr_ne (by decide)]; exact hC.2.2.1.2) hW) (fun r M1 h => ?_)
    obtain ⟨e1, e2⟩ := h
    dsimp only at e1 e2
    refine wp_some ⟨?_, ((Eqx.refl _ _).sr (by decide)).trans (e2.mono (by decide))⟩
    rw [e1, sr_ap, ← hV, evR_v (m := 6) vals_d37 (by decide) (fun i hi => (hW.1 i hi).1)]
theorem nu_5 : ∀ v : Fin 100, jmax 0 (jmin (n2 v.val) (n2 v.val / 5)) = n2 v.val / 5 := by decide +kernel
theorem fadesOf_s {y : Lay} (hy : LY y) {M : Mem} {K : KG} (hK : KOK K) (hC : COM K M) {c : Nat} (hc : c < kn K) (hB : ∃ v, v < 100 ∧ M.1 87 c = n2 v) : wp (f_X12_fadesOf y 73 (n2 c) M) (fun o => o.1 = fdP K (M.1 87) (M.1 73 31) c ∧ Eqx [90, 91] M o.2) := by
  unfold f_X12_fadesOf
  have h30 := hK.n30
  have e7 : (7 : Int32).toNatClampNeg = 7 := rfl
  simp only [lT_s, jn_s, c0_s, cp_s, cx_s, cx_t, gK_t (k_73 hy), gN_t (r := 73) (by decide), r_73_0 hy, r_73_1 hy, r_73_2 hy, r_73_5 hy, r_73_6 hy, r_73_7 hy, r_73_8 hy, r_73_9 hy, r_73_10 hy, r_73_11 hy, r_73_12 hy, r_73_13 hy, r_73_14 hy, r_73_28 hy, r_73_29 hy, r_73_30 hy, r_73_38 hy, r_73_39 hy, r_73_40 hy, r_73_42 hy, r_73_43 hy, r_73_44 hy, r_73_45 hy, r_73_46 hy, r_73_47 hy, r_73_48 hy, r_73_49 hy, r_73_50 hy, r_73_51 hy, r_73_53 hy, r_73_58 hy, r_73_59 hy, r_73_60 hy, r_73_61 hy, r_73_62 hy, r_73_63 hy, gN_t (r := 77) (by decide), gN_t (r := 83) (by decide), gN_t (r := 87) (by decide), gA_n (k_87 hy) (show c < 30 by omega) (by omega), n2_nat (show c < 2147483648 by omega), e7, hC.2.2.2.1]
  rw [gd_t (by decide), gA_t (k_77 hy) (by decide)]
  obtain ⟨v, hv, hv2⟩ := hB
  unfold fdP
  by_cases h : fl K = 0
  · rw [if_pos h, h]
    refine wp_brt (by decide) (wp_some ⟨?_, Eqx.refl _ _⟩)
    have h3 := nu_5 ⟨v, hv⟩
    dsimp only at h3 ⊢
    rw [hv2, h3]
  · have hd7 := hK.2.2.2.1
    rw [if_neg h]
    have hn : ¬ n2 (fl K) ≤ 0 := by rw [show (0 : Int32) = n2 0 from rfl, n2_le (by omega) (by decide)]; omega
    refine wp_brf hn ?_
    rw [ask_s hy hK hC hc, c0_s, gA_t (k_77 hy) (by decide), sr_ne (show ¬ 77 = 90 by decide), hC.2.2.2.1]
    generalize hV : up (up (up (up (M.1 90) 0 (M.1 87 c)) 1 (bsum (bes K c) (M.1 87))) 2 (n2 (c / kw K))) 3 (M.1 73 31) = V
    have hW := hK.2.2.2.2 (by omega)
    refine wp_c0 _ (valueNow_g hy (p := 83) (n := fl K) (code := fc K) (k_83 hy) (by omega) hd7 (by decide) (by rw [sr_ne (by decide)]; exact hC.2.2.2.2) (hW.six (by decide))) (fun r M1 h => ?_)
    obtain ⟨e1, e2⟩ := h
    dsimp only at e1 e2
    refine wp_some ⟨?_, ((Eqx.refl _ _).sr (by decide)).trans (e2.mono (by decide))⟩
    show jmax 0 (jmin (M1.1 87 c) r) = _
    rw [e2.2 87 (by decide), sr_ne (by decide), e1, sr_ap, ← hV, evR_v (m := 4) vals_f37 (by decide) (fun i hi => (hW.1 i hi).1)]
    by_cases h0 : M.1 87 c = 0
    · rw [if_pos h0, h0]
      obtain ⟨u, u1, u2⟩ := cl_n ((evR (vals K (M.1 87) (M.1 73 31) c) (fc K) (fl K)).1 0) (v := 0) (by decide)
      have : u = 0 := by omega
      subst this
      exact u2
    · rw [if_neg h0]
/-! dye, swish -/
theorem dye_s {y : Lay} (hy : LY y) {M : Mem} {c : Nat} (hc : c < 30) (hP : PG0 (M.1 73 34) (M.1 87)) (m : Int32) : f_X12_dye y 73 (n2 c) m M = some (0, sr M 87 (addB (M.1 73 34) c m (M.1 87))) := by
  unfold f_X12_dye
  simp only [lT_s, jn_s, c0_s, cp_s, cx_s, cx_t, gK_t (k_73 hy), gN_t (r := 73) (by decide), r_73_0 hy, r_73_1 hy, r_73_2 hy, r_73_5 hy, r_73_6 hy, r_73_7 hy, r_73_8 hy, r_73_9 hy, r_73_10 hy, r_73_11 hy, r_73_12 hy, r_73_13 hy, r_73_14 hy, r_73_28 hy, r_73_29 hy, r_73_30 hy, r_73_38 hy, r_73_39 hy, r_73_40 hy, r_73_42 hy, r_73_43 hy, r_73_44 hy, r_73_45 hy, r_73_46 hy, r_73_47 hy, r_73_48 hy, r_73_49 hy, r_73_50 hy, r_73_51 hy, r_73_53 hy, r_73_58 hy, r_73_59 hy, r_73_60 hy, r_73_61 hy, r_73_62 hy, r_73_63 hy, gN_t (r := 87) (by decide), isOf_s, gA_n (k_87 hy) hc (by omega), n2_nat (show c < 2147483648 by omega)]
  unfold addB
  rcases bt01 (M.1 73 34) c with h | h
  · rw [if_neg (by rw [h]; decide), if_pos h, bR_t rfl, wI_sr]
  · rw [if_pos h, if_neg (by rw [h]; decide), bR_f (by decide), wI_sr]
    have e : up (M.1 87) c 0 = M.1 87 := by
      funext k
      unfold up
      split
      · rename_i q; rw [q, hP c hc h]
      · rfl
    rw [e]
theorem swishM {y : Lay} (hy : LY y) {M : Mem} {K : KG} (hK : KOK K) (hC : COM K M) (hB : BP (kn K) (M.1 73 34) (M.1 87)) (hp : SPK (kn K) (M.1 88)) (hs : SKK (M.1 85)) {g : Nat} (hgk : g < kg K) (left : Int32) : wp (f_X12_swish y 73 (n2 g) left M) (fun o => o.1 = 0 ∧ Eqx [87, 90, 91] M o.2 ∧ o.2.1 87 = swB K (M.1 87) (M.1 88) (M.1 85) (M.1 73 34) (M.1 73 31) g left) := by
  unfold f_X12_swish
  have h30 := hK.n30
  have hg6 := hK.2.1.2.2
  have hg : g < 6 := by omega
  have hw1 := hK.1.1.1
  have hw2 := hK.1.1.2
  simp only [lT_s, jn_s, c0_s, cp_s, cx_s, cx_t, gK_t (k_73 hy), gN_t (r := 73) (by decide), r_73_0 hy, r_73_1 hy, r_73_2 hy, r_73_5 hy, r_73_6 hy, r_73_7 hy, r_73_8 hy, r_73_9 hy, r_73_10 hy, r_73_11 hy, r_73_12 hy, r_73_13 hy, r_73_14 hy, r_73_28 hy, r_73_29 hy, r_73_30 hy, r_73_38 hy, r_73_39 hy, r_73_40 hy, r_73_42 hy, r_73_43 hy, r_73_44 hy, r_73_45 hy, r_73_46 hy, r_73_47 hy, r_73_48 hy, r_73_49 hy, r_73_50 hy, r_73_51 hy, r_73_53 hy, r_73_58 hy, r_73_59 hy, r_73_60 hy, r_73_61 hy, r_73_62 hy, r_73_63 hy, gN_t (r := 77) (by decide), gN_t (r := 79) (by decide), gN_t (r := 88) (by decide)]
  refine wp_c0 _ (dyesOf_s hy hK hC hp hs hg left) (fun r M1 h => ?_)
  obtain ⟨e1, e2⟩ := h
  dsimp only at e1 e2
  have q73 : M1.1 73 = M.1 73 := e2.2 73 (by decide)
  have q87 : M1.1 87 = M.1 87 := e2.2 87 (by decide)
  have q88 : M1.1 88 = M.1 88 := e2.2 88 (by decide)
  have hC1 : COM K M1 := hC.eqx e2 (by decide)
  obtain ⟨h1, h2⟩ := hp.n g h30
  obtain ⟨m, hm, hm2⟩ := dyeP_ok (K := K) (B := M.1 87) (sp := M.1 88) (sk := M.1 85) (dy := M.1 73 31) (g := g) (left := left) hs
  have hr : r = n2 m := e1.trans hm2
  rw [gA_n (k_88 hy) hg (by omega), n2_nat (show g < 2147483648 by omega), q88]
  unfold swB
  rw [hm2]
  generalize hcc : (M.1 88 g).toNatClampNeg = c at h1 h2 ⊢
  rw [h2, hr, dye_s hy (show c < 30 by omega) (by rw [q73, q87]; exact hB.2), c0_s, q73, q87]
  have hB1 : BP (kn K) (M.1 73 34) (addB (M.1 73 34) c (n2 m) (M.1 87)) := hB.add h1 hm
  unfold swT
  generalize addB (M.1 73 34) c (n2 m) (M.1 87) = B1 at hB1 ⊢
  have hC2 : COM K (sr M1 87 B1) := hC1.eqx ((Eqx.refl [87] M1).sr (by decide)) (by decide)
  rw [gA_n (k_79 hy) (by omega) (by omega), sr_ne (show ¬ 79 = 87 by decide)]
  have hd2 : n2 m / 2 = n2 (m / 2) := half' hm
  have hEE : ∀ B, Eqx [87, 90, 91] M (sr M1 87 B) := fun B => (e2.mono (by decide)).sr (by decide)
  rcases bt01 (ko K) g with ho | ho
  · rw [if_pos ho]
    refine wp_brf (by rw [hC1.2.1 g hgk, ho]; decide) ?_
    rw [besideM hy (hC2.geo hK) (show c < 30 by omega), cp_s]
    refine wp_for (i0 := 0) (kn K) (fun i s => s = sr M1 87 (it (besG K (M.1 73 34) c (n2 m / 2)) B1 i) ∧ BP (kn K) (M.1 73 34) (it (besG K (M.1 73 34) c (n2 m / 2)) B1 i)) (by have : FUEL = 100000 := rfl; omega) rfl (by omega) ⟨rfl, hB1⟩ ?_ ?_
    · intro f i s hi hI hk
      obtain ⟨rfl, hBi⟩ := hI
      rw [cellsG hy (w := kw K) (h := kh K) (by rw [sr_ne (by decide)]; exact hC1.geo hK), cp_s]
      refine wp_brf (by show ¬ n2 (kw K * kh K) ≤ n2 i; rw [n2_le (by show kn K < _; omega) (by omega)]; show ¬ kn K ≤ i; omega) ?_
      rw [isOf_s, cp_s, n2_s]
      have e : besP (kw K) (kw K * kh K) c = bes K c := rfl
      rw [e]
      have hS : it (besG K (M.1 73 34) c (n2 m / 2)) B1 (i + 1) = besG K (M.1 73 34) c (n2 m / 2) i (it (besG K (M.1 73 34) c (n2 m / 2)) B1 i) := rfl
      rw [hS] at hk
      unfold besG at hk
      rcases bt01 (bes K c) i with h | h
      · rw [if_neg (by rw [h]; decide)]
        rw [if_pos h] at hk
        exact wp_brt rfl (hk _ ⟨rfl, hBi⟩)
      · rw [if_pos h]
        rw [if_neg (by rw [h]; decide)] at hk
        refine wp_brf (by decide) ?_
        rw [gd_t (by decide), dye_s hy (show i < 30 by omega) (by rw [sr_ap, sr_ne (by decide), q73]; exact hBi.2), c0_s, sr_ap, sr_sr, sr_ne (show ¬ 73 = 87 by decide), q73]
        exact hk _ ⟨rfl, by rw [hd2] at hBi ⊢; exact hBi.add hi (by omega)⟩
    · intro f s hI
      obtain ⟨rfl, -⟩ := hI
      rw [cellsG hy (w := kw K) (h := kh K) (by rw [sr_ne (by decide)]; exact hC1.geo hK), cp_s]
      refine wp_brt (Int32.le_refl _) (wp_some ⟨rfl, hEE _, ?_⟩)
      rw [sr_ap]; rfl
  · rw [if_neg (by rw [ho]; decide)]
    refine wp_brt (by rw [hC1.2.1 g hgk, if_pos ho]) ?_
    rw [gd_t (by decide), gA_t (k_77 hy) (by decide), zc0, sr_ne (show ¬ 77 = 87 by decide), hC1.1.1, n2_add]
    have hNN : (kn K - 1 - c) / kw K ≤ kn K - 1 - c := Nat.div_le_self _ _
    have hcw : c + kw K = c + kw K * (0 + 1) := by rw [Nat.zero_add, Nat.mul_one]
    rw [hcw]
    refine wp_fork (κ := Int32 → Int32 → Mem → Option (Int32 × Mem)) (S := Int32 × Mem) (fun f j s => f s.1 (n2 (c + kw K * (j + 1))) s.2) (fun j s => (s.1 = (it (dripF (kw K) (M.1 73 34) c) (n2 m / 2, B1) j).1 ∧ ∃ v, v ≤ 30 ∧ s.1 = n2 v) ∧ s.2 = sr M1 87 (it (dripF (kw K) (M.1 73 34) c) (n2 m / 2, B1) j).2 ∧ BP (kn K) (M.1 73 34) (it (dripF (kw K) (M.1 73 34) c) (n2 m / 2, B1) j).2) ((kn K - 1 - c) / kw K) (by have : FUEL = 100000 := rfl; omega) (i0 := 0) (s0 := (n2 m / 2, sr M1 87 B1)) (Nat.zero_le _) ⟨⟨rfl, m / 2, by omega, hd2⟩, rfl, hB1⟩ ?_ ?_
    · intro f j s hj hI hk
      obtain ⟨d, s⟩ := s
      obtain ⟨⟨a1, v, a2, a3⟩, a4, a5⟩ := hI
      dsimp only at a1 a3 a4 hk ⊢
      have hin := drip_in hw1 h1 hj
      have hS : it (dripF (kw K) (M.1 73 34) c) (n2 m / 2, B1) (j + 1) = dripF (kw K) (M.1 73 34) c j (it (dripF (kw K) (M.1 73 34) c) (n2 m / 2, B1) j) := rfl
      generalize it (dripF (kw K) (M.1 73 34) c) (n2 m / 2, B1) j = q at a1 a4 a5 hS
      have hF : dripF (kw K) (M.1 73 34) c j q = (q.1 / 2, addB (M.1 73 34) (c + kw K * (j + 1)) q.1 q.2) := rfl
      rw [hF] at hS
      rw [hS] at hk
      dsimp only at hk
      subst a4
      rw [← a1] at hk
      rw [cellsG hy (w := kw K) (h := kh K) (by rw [sr_ne (by decide)]; exact hC1.geo hK), cp_s]
      refine wp_brf (by show ¬ n2 (kw K * kh K) ≤ _; rw [n2_le (by show kn K < _; omega) (by omega)]; show ¬ kn K ≤ _; omega) ?_
      rw [dye_s hy (by omega) (by rw [sr_ap, sr_ne (by decide), q73]; exact a5.2), c0_s, sr_ap, sr_sr, gd_t (by decide), gA_t (k_77 hy) (by decide), sr_ne (show ¬ 77 = 87 by decide), sr_ne (show ¬ 73 = 87 by decide), q73, hC1.1.1, n2_add]
      have ew : c + kw K * (j + 1) + kw K = c + kw K * (j + 1 + 1) := by rw [Nat.mul_succ (kw K) (j + 1)]; omega
      rw [ew]
      have hv := half' a2
      exact hk (d / 2, _) ⟨⟨rfl, v / 2, by omega, by show d / 2 = _; rw [a3, hv]⟩, rfl, by rw [a3]; exact a5.add hin a2⟩
    · intro f s hI
      obtain ⟨d, s⟩ := s
      obtain ⟨⟨a1, v, a2, a3⟩, a4, a5⟩ := hI
      dsimp only at a1 a3 a4 ⊢
      subst a4
      rw [cellsG hy (w := kw K) (h := kh K) (by rw [sr_ne (by decide)]; exact hC1.geo hK), cp_s]
      have hlt : kn K - 1 - c < kw K * ((kn K - 1 - c) / kw K + 1) := by
        have := Nat.lt_mul_div_succ (kn K - 1 - c) hw1
        exact this
      have hle : kw K * ((kn K - 1 - c) / kw K + 1) ≤ 6 * 30 := Nat.mul_le_mul hw2 (by omega)
      refine wp_brt (by show n2 (kw K * kh K) ≤ _; rw [n2_le (by show kn K < _; omega) (by omega)]; show kn K ≤ _; omega) (wp_some ⟨rfl, hEE _, ?_⟩)
      rw [sr_ap]; rfl
