/-! ===== days that come; skies kept and taken back ===== -/
theorem lookAhead_v {y : Lay} (hy : LY y) {M : Mem} {A : St} (h : CR A M) (v : VAL A) {d : Nat} (hd : d ≤ 40) : wp (f_X11_lookAhead y 1 (n2 d) M) (fun o => o.1 = 0 ∧ (Eqx [58, 59, 60, 61, 62, 63, 64, 8, 11] M o.2 ∧ ZR o.2 59 62 63) ∧ skV o.2 58 59 62 63 = pDays (aK A) (skV M 37 38 41 42) d) := by
  have hS := h.sok v
  have hK := v.1
  unfold f_X11_lookAhead
  simp only [lT_s, jn_s, c0_s, cp_s, cx_s, cx_t, gK_t (k_1 hy), gN_t (r := 1) (by decide), r_1_0 hy, r_1_1 hy, r_1_2 hy, r_1_3 hy, r_1_4 hy, r_1_5 hy, r_1_6 hy, r_1_7 hy, r_1_8 hy, r_1_9 hy, r_1_10 hy, gK_t (k_30 hy), gN_t (r := 30) (by decide), r_30_0 hy, r_30_1 hy, r_30_2 hy, r_30_3 hy, r_30_4 hy, r_30_5 hy, gK_t (k_37 hy), gN_t (r := 37) (by decide), r_37_0 hy, r_37_1 hy, r_37_2 hy, r_37_3 hy, r_37_4 hy, r_37_5 hy, r_37_6 hy, gK_t (k_58 hy), gN_t (r := 58) (by decide), r_58_0 hy, r_58_1 hy, r_58_2 hy, r_58_3 hy, r_58_4 hy, r_58_5 hy, r_58_6 hy]
  refine wp_c0 _ (copyFrom_58_37 hy h.2.2.1.2 (hS.zr hK)) (fun r M1 h1 => ?_)
  obtain ⟨-, h2, h3, -⟩ := h1
  refine wp_for (i0 := 0) d (fun i s => Eqx [58, 59, 60, 61, 62, 63, 64, 8, 11] M s ∧ skV s 58 59 62 63 = pDays (aK A) (skV M 37 38 41 42) i) (by have : FUEL = 100000 := rfl; omega) rfl (by omega) ⟨h2.mono (by decide), h3⟩ ?_ ?_
  · intro f i s hi hI hk
    refine wp_brf (by rw [n2_le (by omega) (by omega)]; omega) ?_
    have hSi : SOK (aK A) (pDays (aK A) (skV M 37 38 41 42) i) := pDays_ok hK hS i
    refine wp_c0 _ (passDay_58 hy hK (h.1.eqx hI.1 (by decide)) (by rw [hI.2]; exact hSi)) (fun r M2 h => ?_)
    obtain ⟨-, q2, q3, -⟩ := h
    rw [n2_s]
    exact hk _ ⟨hI.1.trans (q2.mono (by decide)), by rw [q3, hI.2]; rfl⟩
  · intro f s hI
    refine wp_brt (Int32.le_refl _) (wp_some ⟨rfl, ⟨hI.1, ?_⟩, hI.2⟩)
    have hSi : SOK (aK A) (pDays (aK A) (skV M 37 38 41 42) d) := pDays_ok hK hS d
    rw [← hI.2] at hSi
    exact hSi.zr hK
theorem goOn_v {y : Lay} (hy : LY y) {M : Mem} {K : KG} (hK : KOK K) (hC : COM K M) (hS : SOK K (moV M)) {d : Nat} (hd : d ≤ 1000) : wp (f_X12_goOn y 73 (n2 d) M) (fun o => o.1 = 0 ∧ Eqx [73, 87, 90, 91, 92] M o.2 ∧ moV o.2 = pDays K (moV M) d ∧ ∀ k, ¬ k = 31 → ¬ k = 32 → ¬ k = 33 → ¬ k = 41 → o.2.1 73 k = M.1 73 k) := by
  unfold f_X12_goOn
  simp only [lT_s, jn_s, c0_s, cp_s, cx_s, cx_t, gK_t (k_73 hy), gN_t (r := 73) (by decide), r_73_0 hy, r_73_1 hy, r_73_2 hy, r_73_5 hy, r_73_6 hy, r_73_7 hy, r_73_8 hy, r_73_9 hy, r_73_10 hy, r_73_11 hy, r_73_12 hy, r_73_13 hy, r_73_14 hy, r_73_28 hy, r_73_29 hy, r_73_30 hy, r_73_38 hy, r_73_39 hy, r_73_40 hy, r_73_42 hy, r_73_43 hy, r_73_44 hy, r_73_45 hy, r_73_46 hy, r_73_47 hy, r_73_48 hy, r_73_49 hy, r_73_50 hy, r_73_51 hy, r_73_53 hy, r_73_58 hy, r_73_59 hy, r_73_60 hy, r_73_61 hy, r_73_62 hy, r_73_63 hy]
  refine wp_for (i0 := 0) d (fun i s => Eqx [73, 87, 90, 91, 92] M s ∧ moV s = pDays K (moV M) i ∧ ∀ k, ¬ k = 31 → ¬ k = 32 → ¬ k = 33 → ¬ k = 41 → s.1 73 k = M.1 73 k) (by have : FUEL = 100000 := rfl; omega) rfl (by omega) ⟨Eqx.refl _ _, rfl, fun _ _ _ _ _ => rfl⟩ ?_ ?_
  · intro f i s hi hI hk
    refine wp_brf (by rw [n2_le (by omega) (by omega)]; omega) ?_
    refine wp_c0 _ (aDay_v hy hK (hC.eqx hI.1 (by decide)) (by rw [hI.2.1]; exact pDays_ok hK hS i)) (fun r M2 h => ?_)
    obtain ⟨-, q2, q3, q4⟩ := h
    rw [n2_s]
    exact hk _ ⟨hI.1.trans q2, by rw [q3, hI.2.1]; rfl, fun k a b c d => (q4 k a b c d).trans (hI.2.2 k a b c d)⟩
  · intro f s hI
    exact wp_brt (Int32.le_refl _) (wp_some ⟨rfl, hI.1, hI.2.1, hI.2.2⟩)
/-! the model packs and unpacks -/
theorem pack_93 {y : Lay} (hy : LY y) {M : Mem} {f : Nat} (hf : f + 41 ≤ 41) : wp (f_X12_pack y 73 93 (n2 f) M) (fun o => o.1 = 0 ∧ Eqx [93] M o.2 ∧ PKD (o.2.1 93) f (moV M) ∧ ∀ k, (k < f ∨ f + 41 ≤ k) → o.2.1 93 k = M.1 93 k) := by
  unfold f_X12_pack
  simp only [lT_s, jn_s, c0_s, cp_s, cx_s, cx_t, gK_t (k_73 hy), gN_t (r := 73) (by decide), r_73_0 hy, r_73_1 hy, r_73_2 hy, r_73_5 hy, r_73_6 hy, r_73_7 hy, r_73_8 hy, r_73_9 hy, r_73_10 hy, r_73_11 hy, r_73_12 hy, r_73_13 hy, r_73_14 hy, r_73_28 hy, r_73_29 hy, r_73_30 hy, r_73_38 hy, r_73_39 hy, r_73_40 hy, r_73_42 hy, r_73_43 hy, r_73_44 hy, r_73_45 hy, r_73_46 hy, r_73_47 hy, r_73_48 hy, r_73_49 hy, r_73_50 hy, r_73_51 hy, r_73_53 hy, r_73_58 hy, r_73_59 hy, r_73_60 hy, r_73_61 hy, r_73_62 hy, r_73_63 hy, gN_t (r := 93) (by decide), gN_t (r := 87) (by decide), gN_t (r := 88) (by decide), n2_c f (show (1 : Int32) = n2 1 from rfl), n2_c f (show (2 : Int32) = n2 2 from rfl), n2_c f (show (3 : Int32) = n2 3 from rfl), n2_c f (show (4 : Int32) = n2 4 from rfl), n2_c f (show (5 : Int32) = n2 5 from rfl)]
  simp only [n2_c (f + 5) (show (30 : Int32) = n2 30 from rfl)]
  rw [gA_n (k_93 hy) (by omega) (by omega), gA_n (k_93 hy) (by omega) (by omega), gA_n (k_93 hy) (by omega) (by omega), gA_n (k_93 hy) (by omega) (by omega), gA_n (k_93 hy) (by omega) (by omega)]
  rw [n2_nat (show f < 2147483648 by omega), n2_nat (show f + 1 < 2147483648 by omega), n2_nat (show f + 2 < 2147483648 by omega), n2_nat (show f + 3 < 2147483648 by omega), n2_nat (show f + 4 < 2147483648 by omega)]
  simp only [wI_sr, sr_1, Nat.reduceEqDiff, if_false, if_true, ↓reduceIte, sr_sr]
  generalize hR : up (up (up (up (up (M.1 93) f (M.1 73 31)) (f + 1) (M.1 73 32)) (f + 2) (M.1 73 33)) (f + 3) (M.1 73 34)) (f + 4) (M.1 73 35) = R
  have hRk : ∀ k, (k < f ∨ f + 5 ≤ k) → R k = M.1 93 k := fun k hk => by rw [← hR, up_ne (by omega), up_ne (by omega), up_ne (by omega), up_ne (by omega), up_ne (by omega)]
  have hR0 : R f = M.1 73 31 ∧ R (f + 1) = M.1 73 32 ∧ R (f + 2) = M.1 73 33 ∧ R (f + 3) = M.1 73 34 ∧ R (f + 4) = M.1 73 35 := by
    rw [← hR]
    refine ⟨?_, ?_, ?_, ?_, ?_⟩
    · rw [up_ne (by omega), up_ne (by omega), up_ne (by omega), up_ne (by omega), up_eq]
    · rw [up_ne (by omega), up_ne (by omega), up_ne (by omega), up_eq]
    · rw [up_ne (by omega), up_ne (by omega), up_eq]
    · rw [up_ne (by omega), up_eq]
    · rw [up_eq]
  refine wp_for (i0 := 0) 30 (fun i s => Eqx [93] M s ∧ (∀ k, k < i → s.1 93 (f + 5 + k) = M.1 87 k) ∧ ∀ k, (k < f + 5 ∨ f + 5 + i ≤ k) → s.1 93 k = R k) (by decide) rfl (by omega) ⟨(Eqx.refl _ _).sr (by decide), fun k hk => absurd hk (Nat.not_lt_zero _), fun k hk => by rw [sr_ap]⟩ ?_ ?_
  · intro g i s hi hI hk
    refine wp_brf (nle_l (m := 30) rfl hi (by omega)) ?_
    rw [n2_add, gA_n (k_87 hy) hi (by omega), gA_n (k_93 hy) (by omega) (by omega), n2_nat (by omega), n2_nat (by omega), n2_s, hI.1.2 87 (by decide)]
    refine hk _ ⟨hI.1.sr (by decide), fun k hk => ?_, fun k hk => ?_⟩
    · rw [sr_ap]
      by_cases e : k = i
      · subst e; rw [up_eq]
      · rw [up_ne (by omega)]; exact hI.2.1 k (by omega)
    · rw [sr_ap, up_ne (by omega)]
      exact hI.2.2 k (by omega)
  intro g s hI
  refine wp_brt (le_l (m := 30) rfl (by omega) (by omega)) ?_
  refine wp_for (i0 := 0) 6 (fun i z => Eqx [93] M z ∧ (∀ k, k < i → z.1 93 (f + 35 + k) = M.1 88 k) ∧ ∀ k, (k < f + 35 ∨ f + 35 + i ≤ k) → z.1 93 k = s.1 93 k) (by decide) rfl (by omega) ⟨hI.1, fun k hk => absurd hk (Nat.not_lt_zero _), fun k hk => rfl⟩ ?_ ?_
  · intro g i z hi hJ hk
    refine wp_brf (nle_l (m := 6) rfl hi (by omega)) ?_
    rw [n2_add, gA_n (k_88 hy) hi (by omega), gA_n (k_93 hy) (by omega) (by omega), n2_nat (by omega), n2_nat (by omega), n2_s, hJ.1.2 88 (by decide)]
    refine hk _ ⟨hJ.1.sr (by decide), fun k hk => ?_, fun k hk => ?_⟩
    · rw [sr_ap]
      by_cases e : k = i
      · subst e; rw [show f + 5 + 30 + k = f + 35 + k by omega, up_eq]
      · rw [up_ne (by omega)]; exact hJ.2.1 k (by omega)
    · rw [sr_ap, up_ne (by omega)]
      exact hJ.2.2 k (by omega)
  intro g z hJ
  refine wp_brt (le_l (m := 6) rfl (by omega) (by omega)) ?_
  refine wp_some ⟨rfl, hJ.1, ⟨⟨?_, ?_, ?_, ?_, ?_⟩, fun k hk => ?_, fun k hk => ?_⟩, fun k hk => ?_⟩
  · rw [hJ.2.2 _ (by omega), hI.2.2 _ (by omega)]; exact hR0.1
  · rw [hJ.2.2 _ (by omega), hI.2.2 _ (by omega)]; exact hR0.2.1
  · rw [hJ.2.2 _ (by omega), hI.2.2 _ (by omega)]; exact hR0.2.2.1
  · rw [hJ.2.2 _ (by omega), hI.2.2 _ (by omega)]; exact hR0.2.2.2.1
  · rw [hJ.2.2 _ (by omega), hI.2.2 _ (by omega)]; exact hR0.2.2.2.2
  · rw [hJ.2.2 _ (by omega)]; exact hI.2.1 k hk
  · exact hJ.2.1 k hk
  · rw [hJ.2.2 k (by omega), hI.2.2 k (by omega), hRk k (by omega)]
theorem unpack_93 {y : Lay} (hy : LY y) {M : Mem} {f : Nat} (hf : f + 41 ≤ 41) {S : Sk} (hP : PKD (M.1 93) f S) (z1 : ∀ k, 30 ≤ k → M.1 87 k = sB S k) (z2 : ∀ k, 6 ≤ k → M.1 88 k = sSp S k) : wp (f_X12_unpack y 73 93 (n2 f) M) (fun o => o.1 = 0 ∧ Eqx [73, 87, 88] M o.2 ∧ vo (moV o.2) = vk S (M.1 85) ∧ ∀ k, ¬ (31 ≤ k ∧ k ≤ 35) → o.2.1 73 k = M.1 73 k) := by
  obtain ⟨⟨p0, p1, p2, p3, p4⟩, p5, p6⟩ := hP
  unfold f_X12_unpack
  simp only [lT_s, jn_s, c0_s, cp_s, cx_s, cx_t, gK_t (k_73 hy), gN_t (r := 73) (by decide), r_73_0 hy, r_73_1 hy, r_73_2 hy, r_73_5 hy, r_73_6 hy, r_73_7 hy, r_73_8 hy, r_73_9 hy, r_73_10 hy, r_73_11 hy, r_73_12 hy, r_73_13 hy, r_73_14 hy, r_73_28 hy, r_73_29 hy, r_73_30 hy, r_73_38 hy, r_73_39 hy, r_73_40 hy, r_73_42 hy, r_73_43 hy, r_73_44 hy, r_73_45 hy, r_73_46 hy, r_73_47 hy, r_73_48 hy, r_73_49 hy, r_73_50 hy, r_73_51 hy, r_73_53 hy, r_73_58 hy, r_73_59 hy, r_73_60 hy, r_73_61 hy, r_73_62 hy, r_73_63 hy, gN_t (r := 93) (by decide), gN_t (r := 87) (by decide), gN_t (r := 88) (by decide), n2_c f (show (1 : Int32) = n2 1 from rfl), n2_c f (show (2 : Int32) = n2 2 from rfl), n2_c f (show (3 : Int32) = n2 3 from rfl), n2_c f (show (4 : Int32) = n2 4 from rfl), n2_c f (show (5 : Int32) = n2 5 from rfl)]
  simp only [n2_c (f + 5) (show (30 : Int32) = n2 30 from rfl)]
  rw [gA_n (k_93 hy) (by omega) (by omega), gA_n (k_93 hy) (by omega) (by omega), gA_n (k_93 hy) (by omega) (by omega), gA_n (k_93 hy) (by omega) (by omega), gA_n (k_93 hy) (by omega) (by omega)]
  rw [n2_nat (show f < 2147483648 by omega), n2_nat (show f + 1 < 2147483648 by omega), n2_nat (show f + 2 < 2147483648 by omega), n2_nat (show f + 3 < 2147483648 by omega), n2_nat (show f + 4 < 2147483648 by omega)]
  simp only [wI_sr, sr_1, Nat.reduceEqDiff, if_false, if_true, ↓reduceIte, sr_sr, p0, p1, p2, p3, p4]
  generalize hO : up (up (up (up (up (M.1 73) 31 (sDy S)) 32 (sKn S)) 33 (sMa S)) 34 (sPg S)) 35 (sRs S) = O
  refine wp_for (i0 := 0) 30 (fun i s => s = sr (sr M 73 O) 87 (rowTo i (sB S) (M.1 87))) (by decide) rfl (by omega) (by rw [rowTo_0]; refine (sr_self _ 87).symm.trans ?_; rw [sr_ne (by decide)]) ?_ ?_
  · intro g i s hi hI hk
    subst hI
    refine wp_brf (nle_l (m := 30) rfl hi (by omega)) ?_
    rw [n2_add, gA_n (k_93 hy) (by omega) (by omega), gA_n (k_87 hy) hi (by omega), n2_nat (by omega), n2_nat (by omega), n2_s]
    refine hk _ ?_
    rw [sr_ap, sr_sr, sr_ne (by decide), sr_ne (by decide), p5 i hi, rowTo_s]
  intro g s hI
  subst hI
  refine wp_brt (le_l (m := 30) rfl (by omega) (by omega)) ?_
  refine wp_for (i0 := 0) 6 (fun i s => s = sr (sr (sr M 73 O) 87 (rowTo 30 (sB S) (M.1 87))) 88 (rowTo i (sSp S) (M.1 88))) (by decide) rfl (by omega) (by rw [rowTo_0]; refine (sr_self _ 88).symm.trans ?_; rw [sr_ne (by decide), sr_ne (by decide)]) ?_ ?_
  · intro g i s hi hI hk
    subst hI
    refine wp_brf (nle_l (m := 6) rfl hi (by omega)) ?_
    rw [n2_add, gA_n (k_93 hy) (by omega) (by omega), gA_n (k_88 hy) hi (by omega), n2_nat (by omega), n2_nat (by omega), n2_s]
    refine hk _ ?_
    rw [sr_ap, sr_sr, sr_ne (by decide), sr_ne (by decide), sr_ne (by decide), show f + 5 + 30 + i = f + 35 + i by omega, p6 i hi, rowTo_s]
  intro g s hI
  subst hI
  refine wp_brt (le_l (m := 6) rfl (by omega) (by omega)) ?_
  have e1 : rowTo 30 (sB S) (M.1 87) = sB S := by
    funext k
    by_cases q : k < 30
    · exact rowTo_lt q
    · rw [rowTo_ge q]; exact z1 k (by omega)
  have e2 : rowTo 6 (sSp S) (M.1 88) = sSp S := by
    funext k
    by_cases q : k < 6
    · exact rowTo_lt q
    · rw [rowTo_ge q]; exact z2 k (by omega)
  rw [e1, e2]
  refine wp_some ⟨rfl, ⟨rfl, ?_⟩, ?_, ?_⟩
  · intro p hp
    simp only [List.mem_cons, List.not_mem_nil, not_or, or_false] at hp
    simp only [sr_1, if_neg hp.1, if_neg hp.2.1, if_neg hp.2.2]
  · rw [← hO]; rfl
  · intro k hk
    rw [sr_ne (by decide), sr_ne (by decide), sr_ap, ← hO, up_ne (by omega), up_ne (by omega), up_ne (by omega), up_ne (by omega), up_ne (by omega)]
theorem pack_100 {y : Lay} (hy : LY y) {M : Mem} {f : Nat} (hf : f + 41 ≤ 41) : wp (f_X12_pack y 73 100 (n2 f) M) (fun o => o.1 = 0 ∧ Eqx [100] M o.2 ∧ PKD (o.2.1 100) f (moV M) ∧ ∀ k, (k < f ∨ f + 41 ≤ k) → o.2.1 100 k = M.1 100 k) := by
  unfold f_X12_pack
  simp only [lT_s, jn_s, c0_s, cp_s, cx_s, cx_t, gK_t (k_73 hy), gN_t (r := 73) (by decide), r_73_0 hy, r_73_1 hy, r_73_2 hy, r_73_5 hy, r_73_6 hy, r_73_7 hy, r_73_8 hy, r_73_9 hy, r_73_10 hy, r_73_11 hy, r_73_12 hy, r_73_13 hy, r_73_14 hy, r_73_28 hy, r_73_29 hy, r_73_30 hy, r_73_38 hy, r_73_39 hy, r_73_40 hy, r_73_42 hy, r_73_43 hy, r_73_44 hy, r_73_45 hy, r_73_46 hy, r_73_47 hy, r_73_48 hy, r_73_49 hy, r_73_50 hy, r_73_51 hy, r_73_53 hy, r_73_58 hy, r_73_59 hy, r_73_60 hy, r_73_61 hy, r_73_62 hy, r_73_63 hy, gN_t (r := 100) (by decide), gN_t (r := 87) (by decide), gN_t (r := 88) (by decide), n2_c f (show (1 : Int32) = n2 1 from rfl), n2_c f (show (2 : Int32) = n2 2 from rfl), n2_c f (show (3 : Int32) = n2 3 from rfl), n2_c f (show (4 : Int32) = n2 4 from rfl), n2_c f (show (5 : Int32) = n2 5 from rfl)]
  simp only [n2_c (f + 5) (show (30 : Int32) = n2 30 from rfl)]
  rw [gA_n (k_100 hy) (by omega) (by omega), gA_n (k_100 hy) (by omega) (by omega), gA_n (k_100 hy) (by omega) (by omega), gA_n (k_100 hy) (by omega) (by omega), gA_n (k_100 hy) (by omega) (by omega)]
  rw [n2_nat (show f < 2147483648 by omega), n2_nat (show f + 1 < 2147483648 by omega), n2_nat (show f + 2 < 2147483648 by omega), n2_nat (show f + 3 < 2147483648 by omega), n2_nat (show f + 4 < 2147483648 by omega)]
  simp only [wI_sr, sr_1, Nat.reduceEqDiff, if_false, if_true, ↓reduceIte, sr_sr]
  generalize hR : up (up (up (up (up (M.1 100) f (M.1 73 31)) (f + 1) (M.1 73 32)) (f + 2) (M.1 73 33)) (f + 3) (M.1 73 34)) (f + 4) (M.1 73 35) = R
  have hRk : ∀ k, (k < f ∨ f + 5 ≤ k) → R k = M.1 100 k := fun k hk => by rw [← hR, up_ne (by omega), up_ne (by omega), up_ne (by omega), up_ne (by omega), up_ne (by omega)]
  have hR0 : R f = M.1 73 31 ∧ R (f + 1) = M.1 73 32 ∧ R (f + 2) = M.1 73 33 ∧ R (f + 3) = M.1 73 34 ∧ R (f + 4) = M.1 73 35 := by
    rw [← hR]
    refine ⟨?_, ?_, ?_, ?_, ?_⟩
    · rw [up_ne (by omega), up_ne (by omega), up_ne (by omega), up_ne (by omega), up_eq]
    · rw [up_ne (by omega), up_ne (by omega), up_ne (by omega), up_eq]
    · rw [up_ne (by omega), up_ne (by omega), up_eq]
    · rw [up_ne (by omega), up_eq]
    · rw [up_eq]
  refine wp_for (i0 := 0) 30 (fun i s => Eqx [100] M s ∧ (∀ k, k < i → s.1 100 (f + 5 + k) = M.1 87 k) ∧ ∀ k, (k < f + 5 ∨ f + 5 + i ≤ k) → s.1 100 k = R k) (by decide) rfl (by omega) ⟨(Eqx.refl _ _).sr (by decide), fun k hk => absurd hk (Nat.not_lt_zero _), fun k hk => by rw [sr_ap]⟩ ?_ ?_
  · intro g i s hi hI hk
    refine wp_brf (nle_l (m := 30) rfl hi (by omega)) ?_
    rw [n2_add, gA_n (k_87 hy) hi (by omega), gA_n (k_100 hy) (by omega) (by omega), n2_nat (by omega), n2_nat (by omega), n2_s, hI.1.2 87 (by decide)]
    refine hk _ ⟨hI.1.sr (by decide), fun k hk => ?_, fun k hk => ?_⟩
    · rw [sr_ap]
      by_cases e : k = i
      · subst e; rw [up_eq]
      · rw [up_ne (by omega)]; exact hI.2.1 k (by omega)
    · rw [sr_ap, up_ne (by omega)]
      exact hI.2.2 k (by omega)
  intro g s hI
  refine wp_brt (le_l (m := 30) rfl (by omega) (by omega)) ?_
  refine wp_for (i0 := 0) 6 (fun i z => Eqx [100] M z ∧ (∀ k, k < i → z.1 100 (f + 35 + k) = M.1 88 k) ∧ ∀ k, (k < f + 35 ∨ f + 35 + i ≤ k) → z.1 100 k = s.1 100 k) (by decide) rfl (by omega) ⟨hI.1, fun k hk => absurd hk (Nat.not_lt_zero _), fun k hk => rfl⟩ ?_ ?_
  · intro g i z hi hJ hk
    refine wp_brf (nle_l (m := 6) rfl hi (by omega)) ?_
    rw [n2_add, gA_n (k_88 hy) hi (by omega), gA_n (k_100 hy) (by omega) (by omega), n2_nat (by omega), n2_nat (by omega), n2_s, hJ.1.2 88 (by decide)]
    refine hk _ ⟨hJ.1.sr (by decide), fun k hk => ?_, fun k hk => ?_⟩
    · rw [sr_ap]
      by_cases e : k = i
      · subst e; rw [show f + 5 + 30 + k = f + 35 + k by omega, up_eq]
      · rw [up_ne (by omega)]; exact hJ.2.1 k (by omega)
    · rw [sr_ap, up_ne (by omega)]
      exact hJ.2.2 k (by omega)
  intro g z hJ
  refine wp_brt (le_l (m := 6) rfl (by omega) (by omega)) ?_
  refine wp_some ⟨rfl, hJ.1, ⟨⟨?_, ?_, ?_, ?_, ?_⟩, fun k hk => ?_, fun k hk => ?_⟩, fun k hk => ?_⟩
  · rw [hJ.2.2 _ (by omega), hI.2.2 _ (by omega)]; exact hR0.1
  · rw [hJ.2.2 _ (by omega), hI.2.2 _ (by omega)]; exact hR0.2.1
  · rw [hJ.2.2 _ (by omega), hI.2.2 _ (by omega)]; exact hR0.2.2.1
  · rw [hJ.2.2 _ (by omega), hI.2.2 _ (by omega)]; exact hR0.2.2.2.1
  · rw [hJ.2.2 _ (by omega), hI.2.2 _ (by omega)]; exact hR0.2.2.2.2
  · rw [hJ.2.2 _ (by omega)]; exact hI.2.1 k hk
  · exact hJ.2.1 k hk
  · rw [hJ.2.2 k (by omega), hI.2.2 k (by omega), hRk k (by omega)]
theorem unpack_100 {y : Lay} (hy : LY y) {M : Mem} {f : Nat} (hf : f + 41 ≤ 41) {S : Sk} (hP : PKD (M.1 100) f S) (z1 : ∀ k, 30 ≤ k → M.1 87 k = sB S k) (z2 : ∀ k, 6 ≤ k → M.1 88 k = sSp S k) : wp (f_X12_unpack y 73 100 (n2 f) M) (fun o => o.1 = 0 ∧ Eqx [73, 87, 88] M o.2 ∧ vo (moV o.2) = vk S (M.1 85) ∧ ∀ k, ¬ (31 ≤ k ∧ k ≤ 35) → o.2.1 73 k = M.1 73 k) := by
  obtain ⟨⟨p0, p1, p2, p3, p4⟩, p5, p6⟩ := hP
  unfold f_X12_unpack
  simp only [lT_s, jn_s, c0_s, cp_s, cx_s, cx_t, gK_t (k_73 hy), gN_t (r := 73) (by decide), r_73_0 hy, r_73_1 hy, r_73_2 hy, r_73_5 hy, r_73_6 hy, r_73_7 hy, r_73_8 hy, r_73_9 hy, r_73_10 hy, r_73_11 hy, r_73_12 hy, r_73_13 hy, r_73_14 hy, r_73_28 hy, r_73_29 hy, r_73_30 hy, r_73_38 hy, r_73_39 hy, r_73_40 hy, r_73_42 hy, r_73_43 hy, r_73_44 hy, r_73_45 hy, r_73_46 hy, r_73_47 hy, r_73_48 hy, r_73_49 hy, r_73_50 hy, r_73_51 hy, r_73_53 hy, r_73_58 hy, r_73_59 hy, r_73_60 hy, r_73_61 hy, r_73_62 hy, r_73_63 hy, gN_t (r := 100) (by decide), gN_t (r := 87) (by decide), gN_t (r := 88) (by decide), n2_c f (show (1 : Int32) = n2 1 from rfl), n2_c f (show (2 : Int32) = n2 2 from rfl), n2_c f (show (3 : Int32) = n2 3 from rfl), n2_c f (show (4 : Int32) = n2 4 from rfl), n2_c f (show (5 : Int32) = n2 5 from rfl)]
  simp only [n2_c (f + 5) (show (30 : Int32) = n2 30 from rfl)]
  rw [gA_n (k_100 hy) (by omega) (by omega), gA_n (k_100 hy) (by omega) (by omega), gA_n (k_100 hy) (by omega) (by omega), gA_n (k_100 hy) (by omega) (by omega), gA_n (k_100 hy) (by omega) (by omega)]
  rw [n2_nat (show f < 2147483648 by omega), n2_nat (show f + 1 < 2147483648 by omega), n2_nat (show f + 2 < 2147483648 by omega), n2_nat (show f + 3 < 2147483648 by omega), n2_nat (show f + 4 < 2147483648 by omega)]
  simp only [wI_sr, sr_1, Nat.reduceEqDiff, if_false, if_true, ↓reduceIte, sr_sr, p0, p1, p2, p3, p4]
  generalize hO : up (up (up (up (up (M.1 73) 31 (sDy S)) 32 (sKn S)) 33 (sMa S)) 34 (sPg S)) 35 (sRs S) = O
  refine wp_for (i0 := 0) 30 (fun i s => s = sr (sr M 73 O) 87 (rowTo i (sB S) (M.1 87))) (by decide) rfl (by omega) (by rw [rowTo_0]; refine (sr_self _ 87).symm.trans ?_; rw [sr_ne (by decide)]) ?_ ?_
  · intro g i s hi hI hk
    subst hI
    refine wp_brf (nle_l (m := 30) rfl hi (by omega)) ?_
    rw [n2_add, gA_n (k_100 hy) (by omega) (by omega), gA_n (k_87 hy) hi (by omega), n2_nat (by omega), n2_nat (by omega), n2_s]
    refine hk _ ?_
    rw [sr_ap, sr_sr, sr_ne (by decide), sr_ne (by decide), p5 i hi, rowTo_s]
  intro g s hI
  subst hI
  refine wp_brt (le_l (m := 30) rfl (by omega) (by omega)) ?_
  refine wp_for (i0 := 0) 6 (fun i s => s = sr (sr (sr M 73 O) 87 (rowTo 30 (sB S) (M.1 87))) 88 (rowTo i (sSp S) (M.1 88))) (by decide) rfl (by omega) (by rw [rowTo_0]; refine (sr_self _ 88).symm.trans ?_; rw [sr_ne (by decide), sr_ne (by decide)]) ?_ ?_
  · intro g i s hi hI hk
    subst hI
    refine wp_brf (nle_l (m := 6) rfl hi (by omega)) ?_
    rw [n2_add, gA_n (k_100 hy) (by omega) (by omega), gA_n (k_88 hy) hi (by omega), n2_nat (by omega), n2_nat (by omega), n2_s]
    refine hk _ ?_
    rw [sr_ap, sr_sr, sr_ne (by decide), sr_ne (by decide), sr_ne (by decide), show f + 5 + 30 + i = f + 35 + i by omega, p6 i hi, rowTo_s]
  intro g s hI
  subst hI
  refine wp_brt (le_l (m := 6) rfl (by omega) (by omega)) ?_
  have e1 : rowTo 30 (sB S) (M.1 87) = sB S := by
    funext k
    by_cases q : k < 30
    · exact rowTo_lt q
    · rw [rowTo_ge q]; exact z1 k (by omega)
  have e2 : rowTo 6 (sSp S) (M.1 88) = sSp S := by
    funext k
    by_cases q : k < 6
    · exact rowTo_lt q
    · rw [rowTo_ge q]; exact z2 k (by omega)
  rw [e1, e2]
  refine wp_some ⟨rfl, ⟨rfl, ?_⟩, ?_, ?_⟩
  · intro p hp
    simp only [List.mem_cons, List.not_mem_nil, not_or, or_false] at hp
    simp only [sr_1, if_neg hp.1, if_neg hp.2.1, if_neg hp.2.2]
  · rw [← hO]; rfl
  · intro k hk
    rw [sr_ne (by decide), sr_ne (by decide), sr_ap, ← hO, up_ne (by omega), up_ne (by omega), up_ne (by omega), up_ne (by omega), up_ne (by omega)]
theorem pack_104 {y : Lay} (hy : LY y) {M : Mem} {f : Nat} (hf : f + 41 ≤ 41) : wp (f_X12_pack y 73 104 (n2 f) M) (fun o => o.1 = 0 ∧ Eqx [104] M o.2 ∧ PKD (o.2.1 104) f (moV M) ∧ ∀ k, (k < f ∨ f + 41 ≤ k) → o.2.1 104 k = M.1 104 k) := by
  unfold f_X12_pack
  simp only [lT_s, jn_s, c0_s, cp_s, cx_s, cx_t, gK_t (k_73 hy), gN_t (r := 73) (by decide), r_73_0 hy, r_73_1 hy, r_73_2 hy, r_73_5 hy, r_73_6 hy, r_73_7 hy, r_73_8 hy, r_73_9 hy, r_73_10 hy, r_73_11 hy, r_73_12 hy, r_73_13 hy, r_73_14 hy, r_73_28 hy, r_73_29 hy, r_73_30 hy, r_73_38 hy, r_73_39 hy, r_73_40 hy, r_73_42 hy, r_73_43 hy, r_73_44 hy, r_73_45 hy, r_73_46 hy, r_73_47 hy, r_73_48 hy, r_73_49 hy, r_73_50 hy, r_73_51 hy, r_73_53 hy, r_73_58 hy, r_73_59 hy, r_73_60 hy, r_73_61 hy, r_73_62 hy, r_73_63 hy, gN_t (r := 104) (by decide), gN_t (r := 87) (by decide), gN_t (r := 88) (by decide), n2_c f (show (1 : Int32) = n2 1 from rfl), n2_c f (show (2 : Int32) = n2 2 from rfl), n2_c f (show (3 : Int32) = n2 3 from rfl), n2_c f (show (4 : Int32) = n2 4 from rfl), n2_c f (show (5 : Int32) = n2 5 from rfl)]
  simp only [n2_c (f + 5) (show (30 : Int32) = n2 30 from rfl)]
  rw [gA_n (k_104 hy) (by omega) (by omega), gA_n (k_104 hy) (by omega) (by omega), gA_n (k_104 hy) (by omega) (by omega), gA_n (k_104 hy) (by omega) (by omega), gA_n (k_104 hy) (by omega) (by omega)]
  rw [n2_nat (show f < 2147483648 by omega), n2_nat (show f + 1 < 2147483648 by omega), n2_nat (show f + 2 < 2147483648 by omega), n2_nat (show f + 3 < 2147483648 by omega), n2_nat (show f + 4 < 2147483648 by omega)]
  simp only [wI_sr, sr_1, Nat.reduceEqDiff, if_false, if_true, ↓reduceIte, sr_sr]
  generalize hR : up (up (up (up (up (M.1 104) f (M.1 73 31)) (f + 1) (M.1 73 32)) (f + 2) (M.1 73 33)) (f + 3) (M.1 73 34)) (f + 4) (M.1 73 35) = R
  have hRk : ∀ k, (k < f ∨ f + 5 ≤ k) → R k = M.1 104 k := fun k hk => by rw [← hR, up_ne (by omega), up_ne (by omega), up_ne (by omega), up_ne (by omega), up_ne (by omega)]
  have hR0 : R f = M.1 73 31 ∧ R (f + 1) = M.1 73 32 ∧ R (f + 2) = M.1 73 33 ∧ R (f + 3) = M.1 73 34 ∧ R (f + 4) = M.1 73 35 := by
    rw [← hR]
    refine ⟨?_, ?_, ?_, ?_, ?_⟩
    · rw [up_ne (by omega), up_ne (by omega), up_ne (by omega), up_ne (by omega), up_eq]
    · rw [up_ne (by omega), up_ne (by omega), up_ne (by omega), up_eq]
    · rw [up_ne (by omega), up_ne (by omega), up_eq]
    · rw [up_ne (by omega), up_eq]
    · rw [up_eq]
  refine wp_for (i0 := 0) 30 (fun i s => Eqx [104] M s ∧ (∀ k, k < i → s.1 104 (f + 5 + k) = M.1 87 k) ∧ ∀ k, (k < f + 5 ∨ f + 5 + i ≤ k) → s.1 104 k = R k) (by decide) rfl (by omega) ⟨(Eqx.refl _ _).sr (by decide), fun k hk => absurd hk (Nat.not_lt_zero _), fun k hk => by rw [sr_ap]⟩ ?_ ?_
  · intro g i s hi hI hk
    refine wp_brf (nle_l (m := 30) rfl hi (by omega)) ?_
    rw [n2_add, gA_n (k_87 hy) hi (by omega), gA_n (k_104 hy) (by omega) (by omega), n2_nat (by omega), n2_nat (by omega), n2_s, hI.1.2 87 (by decide)]
    refine hk _ ⟨hI.1.sr (by decide), fun k hk => ?_, fun k hk => ?_⟩
    · rw [sr_ap]
      by_cases e : k = i
      · subst e; rw [up_eq]
      · rw [up_ne (by omega)]; exact hI.2.1 k (by omega)
    · rw [sr_ap, up_ne (by omega)]
      exact hI.2.2 k (by omega)
  intro g s hI
  refine wp_brt (le_l (m := 30) rfl (by omega) (by omega)) ?_
  refine wp_for (i0 := 0) 6 (fun i z => Eqx [104] M z ∧ (∀ k, k < i → z.1 104 (f + 35 + k) = M.1 88 k) ∧ ∀ k, (k < f + 35 ∨ f + 35 + i ≤ k) → z.1 104 k = s.1 104 k) (by decide) rfl (by omega) ⟨hI.1, fun k hk => absurd hk (Nat.not_lt_zero _), fun k hk => rfl⟩ ?_ ?_
  · intro g i z hi hJ hk
    refine wp_brf (nle_l (m := 6) rfl hi (by omega)) ?_
    rw [n2_add, gA_n (k_88 hy) hi (by omega), gA_n (k_104 hy) (by omega) (by omega), n2_nat (by omega), n2_nat (by omega), n2_s, hJ.1.2 88 (by decide)]
    refine hk _ ⟨hJ.1.sr (by decide), fun k hk => ?_, fun k hk => ?_⟩
    · rw [sr_ap]
      by_cases e : k = i
      · subst e; rw [show f + 5 + 30 + k = f + 35 + k by omega, up_eq]
      · rw [up_ne (by omega)]; exact hJ.2.1 k (by omega)
    · rw [sr_ap, up_ne (by omega)]
      exact hJ.2.2 k (by omega)
  intro g z hJ
  refine wp_brt (le_l (m := 6) rfl (by omega) (by omega)) ?_
  refine wp_some ⟨rfl, hJ.1, ⟨⟨?_, ?_, ?_, ?_, ?_⟩, fun k hk => ?_, fun k hk => ?_⟩, fun k hk => ?_⟩
  · rw [hJ.2.2 _ (by omega), hI.2.2 _ (by omega)]; exact hR0.1
  · rw [hJ.2.2 _ (by omega), hI.2.2 _ (by omega)]; exact hR0.2.1
  · rw [hJ.2.2 _ (by omega), hI.2.2 _ (by omega)]; exact hR0.2.2.1
  · rw [hJ.2.2 _ (by omega), hI.2.2 _ (by omega)]; exact hR0.2.2.2.1
  · rw [hJ.2.2 _ (by omega), hI.2.2 _ (by omega)]; exact hR0.2.2.2.2
  · rw [hJ.2.2 _ (by omega)]; exact hI.2.1 k hk
  · exact hJ.2.1 k hk
  · rw [hJ.2.2 k (by omega), hI.2.2 k (by omega), hRk k (by omega)]
theorem unpack_104 {y : Lay} (hy : LY y) {M : Mem} {f : Nat} (hf : f + 41 ≤ 41) {S : Sk} (hP : PKD (M.1 104) f S) (z1 : ∀ k, 30 ≤ k → M.1 87 k = sB S k) (z2 : ∀ k, 6 ≤ k → M.1 88 k = sSp S k) : wp (f_X12_unpack y 73 104 (n2 f) M) (fun o => o.1 = 0 ∧ Eqx [73, 87, 88] M o.2 ∧ vo (moV o.2) = vk S (M.1 85) ∧ ∀ k, ¬ (31 ≤ k ∧ k ≤ 35) → o.2.1 73 k = M.1 73 k) := by
  obtain ⟨⟨p0, p1, p2, p3, p4⟩, p5, p6⟩ := hP
  unfold f_X12_unpack
  simp only [lT_s, jn_s, c0_s, cp_s, cx_s, cx_t, gK_t (k_73 hy), gN_t (r := 73) (by decide), r_73_0 hy, r_73_1 hy, r_73_2 hy, r_73_5 hy, r_73_6 hy, r_73_7 hy, r_73_8 hy, r_73_9 hy, r_73_10 hy, r_73_11 hy, r_73_12 hy, r_73_13 hy, r_73_14 hy, r_73_28 hy, r_73_29 hy, r_73_30 hy, r_73_38 hy, r_73_39 hy, r_73_40 hy, r_73_42 hy, r_73_43 hy, r_73_44 hy, r_73_45 hy, r_73_46 hy, r_73_47 hy, r_73_48 hy, r_73_49 hy, r_73_50 hy, r_73_51 hy, r_73_53 hy, r_73_58 hy, r_73_59 hy, r_73_60 hy, r_73_61 hy, r_73_62 hy, r_73_63 hy, gN_t (r := 104) (by decide), gN_t (r := 87) (by decide), gN_t (r := 88) (by decide), n2_c f (show (1 : Int32) = n2 1 from rfl), n2_c f (show (2 : Int32) = n2 2 from rfl), n2_c f (show (3 : Int32) = n2 3 from rfl), n2_c f (show (4 : Int32) = n2 4 from rfl), n2_c f (show (5 : Int32) = n2 5 from rfl)]
  simp only [n2_c (f + 5) (show (30 : Int32) = n2 30 from rfl)]
  rw [gA_n (k_104 hy) (by omega) (by omega), gA_n (k_104 hy) (by omega) (by omega), gA_n (k_104 hy) (by omega) (by omega), gA_n (k_104 hy) (by omega) (by omega), gA_n (k_104 hy) (by omega) (by omega)]
  rw [n2_nat (show f < 2147483648 by omega), n2_nat (show f + 1 < 2147483648 by omega), n2_nat (show f + 2 < 2147483648 by omega), n2_nat (show f + 3 < 2147483648 by omega), n2_nat (show f + 4 < 2147483648 by omega)]
  simp only [wI_sr, sr_1, Nat.reduceEqDiff, if_false, if_true, ↓reduceIte, sr_sr, p0, p1, p2, p3, p4]
  generalize hO : up (up (up (up (up (M.1 73) 31 (sDy S)) 32 (sKn S)) 33 (sMa S)) 34 (sPg S)) 35 (sRs S) = O
  refine wp_for (i0 := 0) 30 (fun i s => s = sr (sr M 73 O) 87 (rowTo i (sB S) (M.1 87))) (by decide) rfl (by omega) (by rw [rowTo_0]; refine (sr_self _ 87).symm.trans ?_; rw [sr_ne (by decide)]) ?_ ?_
  · intro g i s hi hI hk
    subst hI
    refine wp_brf (nle_l (m := 30) rfl hi (by omega)) ?_
    rw [n2_add, gA_n (k_104 hy) (by omega) (by omega), gA_n (k_87 hy) hi (by omega), n2_nat (by omega), n2_nat (by omega), n2_s]
    refine hk _ ?_
    rw [sr_ap, sr_sr, sr_ne (by decide), sr_ne (by decide), p5 i hi, rowTo_s]
  intro g s hI
  subst hI
  refine wp_brt (le_l (m := 30) rfl (by omega) (by omega)) ?_
  refine wp_for (i0 := 0) 6 (fun i s => s = sr (sr (sr M 73 O) 87 (rowTo 30 (sB S) (M.1 87))) 88 (rowTo i (sSp S) (M.1 88))) (by decide) rfl (by omega) (by rw [rowTo_0]; refine (sr_self _ 88).symm.trans ?_; rw [sr_ne (by decide), sr_ne (by decide)]) ?_ ?_
  · intro g i s hi hI hk
    subst hI
    refine wp_brf (nle_l (m := 6) rfl hi (by omega)) ?_
    rw [n2_add, gA_n (k_104 hy) (by omega) (by omega), gA_n (k_88 hy) hi (by omega), n2_nat (by omega), n2_nat (by omega), n2_s]
    refine hk _ ?_
    rw [sr_ap, sr_sr, sr_ne (by decide), sr_ne (by decide), sr_ne (by decide), show f + 5 + 30 + i = f + 35 + i by omega, p6 i hi, rowTo_s]
  intro g s hI
  subst hI
  refine wp_brt (le_l (m := 6) rfl (by omega) (by omega)) ?_
  have e1 : rowTo 30 (sB S) (M.1 87) = sB S := by
    funext k
    by_cases q : k < 30
    · exact rowTo_lt q
    · rw [rowTo_ge q]; exact z1 k (by omega)
  have e2 : rowTo 6 (sSp S) (M.1 88) = sSp S := by
    funext k
    by_cases q : k < 6
    · exact rowTo_lt q
    · rw [rowTo_ge q]; exact z2 k (by omega)
  rw [e1, e2]
  refine wp_some ⟨rfl, ⟨rfl, ?_⟩, ?_, ?_⟩
  · intro p hp
    simp only [List.mem_cons, List.not_mem_nil, not_or, or_false] at hp
    simp only [sr_1, if_neg hp.1, if_neg hp.2.1, if_neg hp.2.2]
  · rw [← hO]; rfl
  · intro k hk
    rw [sr_ne (by decide), sr_ne (by decide), sr_ap, ← hO, up_ne (by omega), up_ne (by omega), up_ne (by omega), up_ne (by omega), up_ne (by omega)]
theorem pack_89 {y : Lay} (hy : LY y) {M : Mem} {f : Nat} (hf : f + 41 ≤ 1640) : wp (f_X12_pack y 73 89 (n2 f) M) (fun o => o.1 = 0 ∧ Eqx [89] M o.2 ∧ PKD (o.2.1 89) f (moV M) ∧ ∀ k, (k < f ∨ f + 41 ≤ k) → o.2.1 89 k = M.1 89 k) := by
  unfold f_X12_pack
  simp only [lT_s, jn_s, c0_s, cp_s, cx_s, cx_t, gK_t (k_73 hy), gN_t (r := 73) (by decide), r_73_0 hy, r_73_1 hy, r_73_2 hy, r_73_5 hy, r_73_6 hy, r_73_7 hy, r_73_8 hy, r_73_9 hy, r_73_10 hy, r_73_11 hy, r_73_12 hy, r_73_13 hy, r_73_14 hy, r_73_28 hy, r_73_29 hy, r_73_30 hy, r_73_38 hy, r_73_39 hy, r_73_40 hy, r_73_42 hy, r_73_43 hy, r_73_44 hy, r_73_45 hy, r_73_46 hy, r_73_47 hy, r_73_48 hy, r_73_49 hy, r_73_50 hy, r_73_51 hy, r_73_53 hy, r_73_58 hy, r_73_59 hy, r_73_60 hy, r_73_61 hy, r_73_62 hy, r_73_63 hy, gN_t (r := 89) (by decide), gN_t (r := 87) (by decide), gN_t (r := 88) (by decide), n2_c f (show (1 : Int32) = n2 1 from rfl), n2_c f (show (2 : Int32) = n2 2 from rfl), n2_c f (show (3 : Int32) = n2 3 from rfl), n2_c f (show (4 : Int32) = n2 4 from rfl), n2_c f (show (5 : Int32) = n2 5 from rfl)]
  simp only [n2_c (f + 5) (show (30 : Int32) = n2 30 from rfl)]
  rw [gA_n (k_89 hy) (by omega) (by omega), gA_n (k_89 hy) (by omega) (by omega), gA_n (k_89 hy) (by omega) (by omega), gA_n (k_89 hy) (by omega) (by omega), gA_n (k_89 hy) (by omega) (by omega)]
  rw [n2_nat (show f < 2147483648 by omega), n2_nat (show f + 1 < 2147483648 by omega), n2_nat (show f + 2 < 2147483648 by omega), n2_nat (show f + 3 < 2147483648 by omega), n2_nat (show f + 4 < 2147483648 by omega)]
  simp only [wI_sr, sr_1, Nat.reduceEqDiff, if_false, if_true, ↓reduceIte, sr_sr]
  generalize hR : up (up (up (up (up (M.1 89) f (M.1 73 31)) (f + 1) (M.1 73 32)) (f + 2) (M.1 73 33)) (f + 3) (M.1 73 34)) (f + 4) (M.1 73 35) = R
  have hRk : ∀ k, (k < f ∨ f + 5 ≤ k) → R k = M.1 89 k := fun k hk => by rw [← hR, up_ne (by omega), up_ne (by omega), up_ne (by omega), up_ne (by omega), up_ne (by omega)]
  have hR0 : R f = M.1 73 31 ∧ R (f + 1) = M.1 73 32 ∧ R (f + 2) = M.1 73 33 ∧ R (f + 3) = M.1 73 34 ∧ R (f + 4) = M.1 73 35 := by
    rw [← hR]
    refine ⟨?_, ?_, ?_, ?_, ?_⟩
    · rw [up_ne (by omega), up_ne (by omega), up_ne (by omega), up_ne (by omega), up_eq]
    · rw [up_ne (by omega), up_ne (by omega), up_ne (by omega), up_eq]
    · rw [up_ne (by omega), up_ne (by omega), up_eq]
    · rw [up_ne (by omega), up_eq]
    · rw [up_eq]
  refine wp_for (i0 := 0) 30 (fun i s => Eqx [89] M s ∧ (∀ k, k < i → s.1 89 (f + 5 + k) = M.1 87 k) ∧ ∀ k, (k < f + 5 ∨ f + 5 + i ≤ k) → s.1 89 k = R k) (by decide) rfl (by omega) ⟨(Eqx.refl _ _).sr (by decide), fun k hk => absurd hk (Nat.not_lt_zero _), fun k hk => by rw [sr_ap]⟩ ?_ ?_
  · intro g i s hi hI hk
    refine wp_brf (nle_l (m := 30) rfl hi (by omega)) ?_
    rw [n2_add, gA_n (k_87 hy) hi (by omega), gA_n (k_89 hy) (by omega) (by omega), n2_nat (by omega), n2_nat (by omega), n2_s, hI.1.2 87 (by decide)]
    refine hk _ ⟨hI.1.sr (by decide), fun k hk => ?_, fun k hk => ?_⟩
    · rw [sr_ap]
      by_cases e : k = i
      · subst e; rw [up_eq]
      · rw [up_ne (by omega)]; exact hI.2.1 k (by omega)
    · rw [sr_ap, up_ne (by omega)]
      exact hI.2.2 k (by omega)
  intro g s hI
  refine wp_brt (le_l (m := 30) rfl (by omega) (by omega)) ?_
  refine wp_for (i0 := 0) 6 (fun i z => Eqx [89] M z ∧ (∀ k, k < i → z.1 89 (f + 35 + k) = M.1 88 k) ∧ ∀ k, (k < f + 35 ∨ f + 35 + i ≤ k) → z.1 89 k = s.1 89 k) (by decide) rfl (by omega) ⟨hI.1, fun k hk => absurd hk (Nat.not_lt_zero _), fun k hk => rfl⟩ ?_ ?_
  · intro g i z hi hJ hk
    refine wp_brf (nle_l (m := 6) rfl hi (by omega)) ?_
    rw [n2_add, gA_n (k_88 hy) hi (by omega), gA_n (k_89 hy) (by omega) (by omega), n2_nat (by omega), n2_nat (by omega), n2_s, hJ.1.2 88 (by decide)]
    refine hk _ ⟨hJ.1.sr (by decide), fun k hk => ?_, fun k hk => ?_⟩
    · rw [sr_ap]
      by_cases e : k = i
      · subst e; rw [show f + 5 + 30 + k = f + 35 + k by omega, up_eq]
      · rw [up_ne (by omega)]; exact hJ.2.1 k (by omega)
    · rw [sr_ap, up_ne (by omega)]
      exact hJ.2.2 k (by omega)
  intro g z hJ
  refine wp_brt (le_l (m := 6) rfl (by omega) (by omega)) ?_
  refine wp_some ⟨rfl, hJ.1, ⟨⟨?_, ?_, ?_, ?_, ?_⟩, fun k hk => ?_, fun k hk => ?_⟩, fun k hk => ?_⟩
  · rw [hJ.2.2 _ (by omega), hI.2.2 _ (by omega)]; exact hR0.1
  · rw [hJ.2.2 _ (by omega), hI.2.2 _ (by omega)]; exact hR0.2.1
  · rw [hJ.2.2 _ (by omega), hI.2.2 _ (by omega)]; exact hR0.2.2.1
  · rw [hJ.2.2 _ (by omega), hI.2.2 _ (by omega)]; exact hR0.2.2.2.1
  · rw [hJ.2.2 _ (by omega), hI.2.2 _ (by omega)]; exact hR0.2.2.2.2
  · rw [hJ.2.2 _ (by omega)]; exact hI.2.1 k hk
  · exact hJ.2.1 k hk
  · rw [hJ.2.2 k (by omega), hI.2.2 k (by omega), hRk k (by omega)]
theorem unpack_89 {y : Lay} (hy : LY y) {M : Mem} {f : Nat} (hf : f + 41 ≤ 1640) {S : Sk} (hP : PKD (M.1 89) f S) (z1 : ∀ k, 30 ≤ k → M.1 87 k = sB S k) (z2 : ∀ k, 6 ≤ k → M.1 88 k = sSp S k) : wp (f_X12_unpack y 73 89 (n2 f) M) (fun o => o.1 = 0 ∧ Eqx [73, 87, 88] M o.2 ∧ vo (moV o.2) = vk S (M.1 85) ∧ ∀ k, ¬ (31 ≤ k ∧ k ≤ 35) → o.2.1 73 k = M.1 73 k) := by
  obtain ⟨⟨p0, p1, p2, p3, p4⟩, p5, p6⟩ := hP
  unfold f_X12_unpack
  simp only [lT_s, jn_s, c0_s, cp_s, cx_s, cx_t, gK_t (k_73 hy), gN_t (r := 73) (by decide), r_73_0 hy, r_73_1 hy, r_73_2 hy, r_73_5 hy, r_73_6 hy, r_73_7 hy, r_73_8 hy, r_73_9 hy, r_73_10 hy, r_73_11 hy, r_73_12 hy, r_73_13 hy, r_73_14 hy, r_73_28 hy, r_73_29 hy, r_73_30 hy, r_73_38 hy, r_73_39 hy, r_73_40 hy, r_73_42 hy, r_73_43 hy, r_73_44 hy, r_73_45 hy, r_73_46 hy, r_73_47 hy, r_73_48 hy, r_73_49 hy, r_73_50 hy, r_73_51 hy, r_73_53 hy, r_73_58 hy, r_73_59 hy, r_73_60 hy, r_73_61 hy, r_73_62 hy, r_73_63 hy, gN_t (r := 89) (by decide), gN_t (r := 87) (by decide), gN_t (r := 88) (by decide), n2_c f (show (1 : Int32) = n2 1 from rfl), n2_c f (show (2 : Int32) = n2 2 from rfl), n2_c f (show (3 : Int32) = n2 3 from rfl), n2_c f (show (4 : Int32) = n2 4 from rfl), n2_c f (show (5 : Int32) = n2 5 from rfl)]
  simp only [n2_c (f + 5) (show (30 : Int32) = n2 30 from rfl)]
  rw [gA_n (k_89 hy) (by omega) (by omega), gA_n (k_89 hy) (by omega) (by omega), gA_n (k_89 hy) (by omega) (by omega), gA_n (k_89 hy) (by omega) (by omega), gA_n (k_89 hy) (by omega) (by omega)]
  rw [n2_nat (show f < 2147483648 by omega), n2_nat (show f + 1 < 2147483648 by omega), n2_nat (show f + 2 < 2147483648 by omega), n2_nat (show f + 3 < 2147483648 by omega), n2_nat (show f + 4 < 2147483648 by omega)]
  simp only [wI_sr, sr_1, Nat.reduceEqDiff, if_false, if_true, ↓reduceIte, sr_sr, p0, p1, p2, p3, p4]
  generalize hO : up (up (up (up (up (M.1 73) 31 (sDy S)) 32 (sKn S)) 33 (sMa S)) 34 (sPg S)) 35 (sRs S) = O
  refine wp_for (i0 := 0) 30 (fun i s => s = sr (sr M 73 O) 87 (rowTo i (sB S) (M.1 87))) (by decide) rfl (by omega) (by rw [rowTo_0]; refine (sr_self _ 87).symm.trans ?_; rw [sr_ne (by decide)]) ?_ ?_
  · intro g i s hi hI hk
    subst hI
    refine wp_brf (nle_l (m := 30) rfl hi (by omega)) ?_
    rw [n2_add, gA_n (k_89 hy) (by omega) (by omega), gA_n (k_87 hy) hi (by omega), n2_nat (by omega), n2_nat (by omega), n2_s]
    refine hk _ ?_
    rw [sr_ap, sr_sr, sr_ne (by decide), sr_ne (by decide), p5 i hi, rowTo_s]
  intro g s hI
  subst hI
  refine wp_brt (le_l (m := 30) rfl (by omega) (by omega)) ?_
  refine wp_for (i0 := 0) 6 (fun i s => s = sr (sr (sr M 73 O) 87 (rowTo 30 (sB S) (M.1 87))) 88 (rowTo i (sSp S) (M.1 88))) (by decide) rfl (by omega) (by rw [rowTo_0]; refine (sr_self _ 88).symm.trans ?_; rw [sr_ne (by decide), sr_ne (by decide)]) ?_ ?_
  · intro g i s hi hI hk
    subst hI
    refine wp_brf (nle_l (m := 6) rfl hi (by omega)) ?_
    rw [n2_add, gA_n (k_89 hy) (by omega) (by omega), gA_n (k_88 hy) hi (by omega), n2_nat (by omega), n2_nat (by omega), n2_s]
    refine hk _ ?_
    rw [sr_ap, sr_sr, sr_ne (by decide), sr_ne (by decide), sr_ne (by decide), show f + 5 + 30 + i = f + 35 + i by omega, p6 i hi, rowTo_s]
  intro g s hI
  subst hI
  refine wp_brt (le_l (m := 6) rfl (by omega) (by omega)) ?_
  have e1 : rowTo 30 (sB S) (M.1 87) = sB S := by
    funext k
    by_cases q : k < 30
    · exact rowTo_lt q
    · rw [rowTo_ge q]; exact z1 k (by omega)
  have e2 : rowTo 6 (sSp S) (M.1 88) = sSp S := by
    funext k
    by_cases q : k < 6
    · exact rowTo_lt q
    · rw [rowTo_ge q]; exact z2 k (by omega)
  rw [e1, e2]
  refine wp_some ⟨rfl, ⟨rfl, ?_⟩, ?_, ?_⟩
  · intro p hp
    simp only [List.mem_cons, List.not_mem_nil, not_or, or_false] at hp
    simp only [sr_1, if_neg hp.1, if_neg hp.2.1, if_neg hp.2.2]
  · rw [← hO]; rfl
  · intro k hk
    rw [sr_ne (by decide), sr_ne (by decide), sr_ap, ← hO, up_ne (by omega), up_ne (by omega), up_ne (by omega), up_ne (by omega), up_ne (by omega)]
/-! the class saves and loads -/
theorem va_in {f g : Row} {sp dp n k : Nat} (h1 : dp ≤ k) (h2 : k < dp + n) : va_cpy f g sp dp n k = f (sp + (k - dp)) := if_pos ⟨h1, h2⟩
theorem va_out {f g : Row} {sp dp n k : Nat} (h : ¬ (dp ≤ k ∧ k < dp + n)) : va_cpy f g sp dp n k = g k := if_neg h
theorem z1599 : Int32.ofNat ((1, 1640) : Nat × Nat).2 - 41 = n2 1599 := by decide
theorem save_s {y : Lay} (hy : LY y) {M : Mem} {f : Nat} (hf : f + 41 ≤ 1640) : wp (f_X8_save y 37 32 (n2 f) M) (fun o => o.1 = 0 ∧ Eqx [32] M o.2 ∧ PKC (o.2.1 32) f (skV M 37 38 41 42) ∧ ∀ k, (k < f ∨ f + 41 ≤ k) → o.2.1 32 k = M.1 32 k) := by
  unfold f_X8_save
  have hf0 : ¬ n2 f < 0 := n2_n0 (by omega)
  have f30 : ¬ n2 (f + 30) < 0 := n2_n0 (by omega)
  have nf : (n2 f).toNatClampNeg = f := n2_nat (by omega)
  have nf30 : (n2 (f + 30)).toNatClampNeg = f + 30 := n2_nat (by omega)
  have n30 : ¬ (30 : Int32) < 0 := by decide
  have n6 : ¬ (6 : Int32) < 0 := by decide
  have n0 : ¬ (0 : Int32) < 0 := by decide
  simp only [lT_s, jn_s, c0_s, cp_s, cx_s, cx_t, bR_f hf0, gK_t (k_37 hy), gN_t (r := 37) (by decide), r_37_0 hy, r_37_1 hy, r_37_2 hy, r_37_3 hy, r_37_4 hy, r_37_5 hy, r_37_6 hy, gN_t (r := 38) (by decide), gN_t (r := 41) (by decide), n2_c f (show (30 : Int32) = n2 30 from rfl)]
  rw [gT_t (by rw [k_32 hy]), k_32 hy, z1599]
  refine wp_brt (by rw [n2_le (by omega) (by omega)]; omega) ?_
  rw [gC_t (k_38 hy) (k_32 hy) ⟨⟨n0, hf0, n30⟩, by rw [z030.1, z030.2.1]; decide, by rw [nf, z030.2.1]; omega⟩, gC_t (k_41 hy) (k_32 hy) ⟨⟨n0, f30, n6⟩, by rw [z030.1, z030.2.2]; decide, by rw [nf30, z030.2.2]; omega⟩]
  simp only [n2_c (f + 30) (show (6 : Int32) = n2 6 from rfl), nf, nf30, z030.1, z030.2.1, z030.2.2]
  simp only [n2_c (f + 30 + 6) (show (1 : Int32) = n2 1 from rfl), n2_c (f + 30 + 6) (show (2 : Int32) = n2 2 from rfl), n2_c (f + 30 + 6) (show (3 : Int32) = n2 3 from rfl), n2_c (f + 30 + 6) (show (4 : Int32) = n2 4 from rfl)]
  rw [gA_n (k_32 hy) (by omega) (by omega), gA_n (k_32 hy) (by omega) (by omega), gA_n (k_32 hy) (by omega) (by omega), gA_n (k_32 hy) (by omega) (by omega), gA_n (k_32 hy) (by omega) (by omega)]
  rw [n2_nat (show f + 30 + 6 < 2147483648 by omega), n2_nat (show f + 30 + 6 + 1 < 2147483648 by omega), n2_nat (show f + 30 + 6 + 2 < 2147483648 by omega), n2_nat (show f + 30 + 6 + 3 < 2147483648 by omega), n2_nat (show f + 30 + 6 + 4 < 2147483648 by omega)]
  simp only [cpI_sr, wI_sr, sr_1, Nat.reduceEqDiff, if_false, if_true, ↓reduceIte, sr_sr]
  refine wp_some ⟨rfl, (Eqx.refl _ _).sr (by decide), ?_, ?_⟩
  · rw [sr_ap]
    refine ⟨⟨?_, ?_, ?_, ?_, ?_⟩, fun k hk => ?_, fun k hk => ?_⟩
    · rw [up_ne (by omega), up_ne (by omega), up_ne (by omega), up_ne (by omega)]; exact up_eq
    · rw [up_ne (by omega), up_ne (by omega), up_ne (by omega)]; exact up_eq
    · rw [up_ne (by omega), up_ne (by omega)]; exact up_eq
    · rw [up_ne (by omega)]; exact up_eq
    · exact up_eq
    · rw [up_ne (by omega), up_ne (by omega), up_ne (by omega), up_ne (by omega), up_ne (by omega), va_out (by omega), va_in (by omega) (by omega), show 0 + (f + k - f) = k by omega]; rfl
    · rw [up_ne (by omega), up_ne (by omega), up_ne (by omega), up_ne (by omega), up_ne (by omega), va_in (by omega) (by omega), show 0 + (f + 30 + k - (f + 30)) = k by omega]; rfl
  · intro k hk
    rw [sr_ap, up_ne (by omega), up_ne (by omega), up_ne (by omega), up_ne (by omega), up_ne (by omega), va_out (by omega), va_out (by omega)]
theorem load_s {y : Lay} (hy : LY y) {M : Mem} {f : Nat} (hf : f + 41 ≤ 1640) {S : Sk} (hP : PKC (M.1 32) f S) (z1 : ∀ k, 30 ≤ k → M.1 38 k = sB S k) (z2 : ∀ k, 6 ≤ k → M.1 41 k = sSp S k) : wp (f_X8_load y 37 32 (n2 f) M) (fun o => o.1 = 0 ∧ Eqx [37, 38, 41] M o.2 ∧ vo (skV o.2 37 38 41 42) = vk S (M.1 42) ∧ ∀ k, k < 7 → o.2.1 37 k = M.1 37 k) := by
  obtain ⟨⟨p0, p1, p2, p3, p4⟩, p5, p6⟩ := hP
  unfold f_X8_load
  have hf0 : ¬ n2 f < 0 := n2_n0 (by omega)
  have f30 : ¬ n2 (f + 30) < 0 := n2_n0 (by omega)
  have nf : (n2 f).toNatClampNeg = f := n2_nat (by omega)
  have nf30 : (n2 (f + 30)).toNatClampNeg = f + 30 := n2_nat (by omega)
  have n30 : ¬ (30 : Int32) < 0 := by decide
  have n6 : ¬ (6 : Int32) < 0 := by decide
  have n0 : ¬ (0 : Int32) < 0 := by decide
  simp only [lT_s, jn_s, c0_s, cp_s, cx_s, cx_t, bR_f hf0, gK_t (k_37 hy), gN_t (r := 37) (by decide), r_37_0 hy, r_37_1 hy, r_37_2 hy, r_37_3 hy, r_37_4 hy, r_37_5 hy, r_37_6 hy, gN_t (r := 38) (by decide), gN_t (r := 41) (by decide), n2_c f (show (30 : Int32) = n2 30 from rfl)]
  rw [gT_t (by rw [k_32 hy]), k_32 hy, z1599]
  refine wp_brt (by rw [n2_le (by omega) (by omega)]; omega) ?_
  rw [gC_t (k_32 hy) (k_38 hy) ⟨⟨hf0, n0, n30⟩, by rw [nf, z030.2.1]; omega, by rw [z030.1, z030.2.1]; decide⟩, gC_t (k_32 hy) (k_41 hy) ⟨⟨f30, n0, n6⟩, by rw [nf30, z030.2.2]; omega, by rw [z030.1, z030.2.2]; decide⟩]
  simp only [n2_c (f + 30) (show (6 : Int32) = n2 6 from rfl), nf, nf30, z030.1, z030.2.1, z030.2.2]
  simp only [n2_c (f + 30 + 6) (show (1 : Int32) = n2 1 from rfl), n2_c (f + 30 + 6) (show (2 : Int32) = n2 2 from rfl), n2_c (f + 30 + 6) (show (3 : Int32) = n2 3 from rfl), n2_c (f + 30 + 6) (show (4 : Int32) = n2 4 from rfl)]
  rw [gA_n (k_32 hy) (by omega) (by omega), gA_n (k_32 hy) (by omega) (by omega), gA_n (k_32 hy) (by omega) (by omega), gA_n (k_32 hy) (by omega) (by omega), gA_n (k_32 hy) (by omega) (by omega)]
  rw [n2_nat (show f + 30 + 6 < 2147483648 by omega), n2_nat (show f + 30 + 6 + 1 < 2147483648 by omega), n2_nat (show f + 30 + 6 + 2 < 2147483648 by omega), n2_nat (show f + 30 + 6 + 3 < 2147483648 by omega), n2_nat (show f + 30 + 6 + 4 < 2147483648 by omega)]
  simp only [cpI_sr, wI_sr, sr_1, Nat.reduceEqDiff, if_false, if_true, ↓reduceIte, sr_sr]
  have e1 : va_cpy (M.1 32) (M.1 38) f 0 30 = sB S := by
    funext k
    by_cases q : k < 30
    · rw [va_in (by omega) (by omega), show f + (k - 0) = f + k by omega]; exact p5 k q
    · rw [va_out (by omega)]; exact z1 k (by omega)
  have e2 : va_cpy (M.1 32) (M.1 41) (f + 30) 0 6 = sSp S := by
    funext k
    by_cases q : k < 6
    · rw [va_in (by omega) (by omega), show f + 30 + (k - 0) = f + 30 + k by omega]; exact p6 k q
    · rw [va_out (by omega)]; exact z2 k (by omega)
  rw [e1, e2, show f + 30 + 6 = f + 36 by omega, show f + 36 + 1 = f + 37 by omega, show f + 36 + 2 = f + 38 by omega, show f + 36 + 3 = f + 39 by omega, show f + 36 + 4 = f + 40 by omega, p0, p1, p2, p3, p4]
  refine wp_some ⟨rfl, ⟨rfl, ?_⟩, rfl, ?_⟩
  · intro p hp
    simp only [List.mem_cons, List.not_mem_nil, not_or, or_false] at hp
    simp only [sr_1, if_neg hp.1, if_neg hp.2.1, if_neg hp.2.2]
  · intro k hk
    have q7 : ¬ k = 7 := by omega
    have q8 : ¬ k = 8 := by omega
    have q9 : ¬ k = 9 := by omega
    have q10 : ¬ k = 10 := by omega
    have q11 : ¬ k = 11 := by omega
    simp only [sr_1, Nat.reduceEqDiff, if_false, if_true, ↓reduceIte, up, if_neg q7, if_neg q8, if_neg q9, if_neg q10, if_neg q11]
