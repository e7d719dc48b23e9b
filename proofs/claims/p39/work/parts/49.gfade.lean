/-! ===== the class's night and day ===== -/
theorem WFR.six {m : Nat} (hm : m ≤ 6) {code : Row} {n : Nat} (h : WFR m code n) : WFR 6 code n := by
  refine ⟨fun i hi => ?_, h.2⟩
  obtain ⟨a, b⟩ := h.1 i hi
  refine ⟨?_, b⟩
  rcases a with a | a | a
  · exact Or.inl a
  · exact Or.inr (Or.inl (by omega))
  · exact Or.inr (Or.inr a)
def skV (M : Mem) (s b sp sk : Nat) : Sk := (M.1 b, M.1 sp, M.1 sk, M.1 s 7, M.1 s 8, M.1 s 9, M.1 s 10, M.1 s 11, M.1 s 12)
theorem fadeOf_37 {y : Lay} (hy : LY y) {M : Mem} {K : KG} (hK : KOK K) (hC : COA K M) {c : Nat} (hc : c < 30) (hB : ∀ k, kn K ≤ k → M.1 38 k = 0) : wp (f_X8_fadeOf y 37 (n2 c) M) (fun o => o.1 = fdP K (M.1 38) (M.1 37 11) c ∧ Eqx [43, 11] M o.2) := by
  unfold f_X8_fadeOf
  simp only [lT_s, jn_s, c0_s, cp_s, cx_s, cx_t, gK_t (k_37 hy), gN_t (r := 37) (by decide), r_37_0 hy, r_37_1 hy, r_37_2 hy, r_37_3 hy, r_37_4 hy, r_37_5 hy, r_37_6 hy, gK_t (k_4 hy), gN_t (r := 4) (by decide), r_4_6 hy, r_4_7 hy, r_4_8 hy, gK_t (k_9 hy), gN_t (r := 9) (by decide), r_9_0 hy, r_9_1 hy, isTold_g (k_9 hy), blueOf_37 hy hc, hC.2.2.2.1]
  unfold fdP
  by_cases h : fl K = 0
  · rw [if_pos h, h]
    refine wp_brt (by decide) ?_
    rw [gd_t (by decide)]
    exact wp_some ⟨rfl, Eqx.refl _ _⟩
  · have hd7 := hK.2.2.2.1
    rw [if_neg h]
    have hn : ¬ n2 (fl K) ≤ 0 := by rw [show (0 : Int32) = n2 0 from rfl, n2_le (by omega) (by decide)]; omega
    rw [if_neg hn]
    refine wp_brf (by decide) ?_
    by_cases h0 : M.1 38 c = 0
    · rw [if_pos h0]
      exact wp_brt h0 (wp_some ⟨rfl, Eqx.refl _ _⟩)
    · rw [if_neg h0]
      refine wp_brf h0 ?_
      have h1 : c < kn K := Nat.lt_of_not_le (fun q => h0 (hB c q))
      rw [setValues_37 hy hK hC h1]
      simp only [lT_s, jn_s, c0_s, cp_s, cx_s, cx_t, blueOf_37 hy hc, sr_ne (show ¬ 38 = 43 by decide), gN_t (r := 43) (by decide)]
      generalize hV : up (up (up (up (M.1 43) 0 (M.1 38 c)) 1 (bsum (bes K c) (M.1 38))) 2 (n2 (c / kw K))) 3 (M.1 37 11) = V
      have hW := hK.2.2.2.2 (by omega)
      refine wp_c0 _ (worth_g (ru := 9) (cr := 10) (sk := 11) (va := 43) (n := fl K) (k_9 hy) (r_9_0 hy) (r_9_1 hy) (k_10 hy) (k_11 hy) (k_43 hy) (by decide) (by decide) (by decide) (by decide) (by decide) (by rw [sr_ne (by decide)]; exact hC.2.2.2.1) hd7 (by rw [sr_ne (by decide), hC.2.2.2.2]; exact hW.six (by decide))) (fun r M1 h => ?_)
      obtain ⟨e1, e2⟩ := h
      dsimp only at e1 e2
      refine wp_some ⟨?_, ((Eqx.refl _ _).sr (by decide)).trans (e2.mono (by decide))⟩
      rw [e1, sr_ap, sr_ne (by decide), hC.2.2.2.2, ← hV, evR_v (m := 4) vals_f37 (by decide) (fun i hi => (hW.1 i hi).1)]
theorem fade_37 {y : Lay} (hy : LY y) {M : Mem} {K : KG} (hK : KOK K) (hC : COA K M) (hB : ∀ k, kn K ≤ k → M.1 38 k = 0) : wp (f_X8_fade y 37 M) (fun o => o.1 = 0 ∧ Eqx [38, 40, 43, 11] M o.2 ∧ o.2.1 38 = nF K (M.1 38) (M.1 37 11)) := by
  unfold f_X8_fade
  simp only [lT_s, jn_s, c0_s, cp_s, cx_s, cx_t, gK_t (k_37 hy), gN_t (r := 37) (by decide), r_37_0 hy, r_37_1 hy, r_37_2 hy, r_37_3 hy, r_37_4 hy, r_37_5 hy, r_37_6 hy, gN_t (r := 38) (by decide), gN_t (r := 40) (by decide)]
  refine wp_for (i0 := 0) 30 (fun i s => Eqx [40, 43, 11] M s ∧ ∀ k, k < i → s.1 40 k = fdP K (M.1 38) (M.1 37 11) k) (by decide) rfl (by omega) ⟨Eqx.refl _ _, fun k hk => absurd hk (Nat.not_lt_zero _)⟩ ?_ ?_
  · intro f i s hi hI hk
    obtain ⟨hE, hL⟩ := hI
    have qb : s.1 38 = M.1 38 := hE.2 38 (by decide)
    have qs : s.1 37 = M.1 37 := hE.2 37 (by decide)
    refine wp_brf (nle_l (m := 30) rfl hi (by omega)) ?_
    refine wp_c0 _ (fadeOf_37 hy hK (hC.eqx hE (by decide)) hi (by rw [qb]; exact hB)) (fun r M1 h => ?_)
    obtain ⟨e1, e2⟩ := h
    dsimp only at e1 e2
    rw [gA_n (k_40 hy) hi (by omega), n2_nat (by omega), n2_s, wI_sr]
    refine hk _ ⟨(hE.trans (e2.mono (by decide))).sr (by decide), fun k hk => ?_⟩
    rw [sr_ap]
    by_cases q : k = i
    · rw [q, up_eq, e1, qb, qs]
    · rw [up_ne q, e2.2 40 (by decide)]; exact hL k (by omega)
  · intro f s hI
    obtain ⟨hE, hL⟩ := hI
    have qb : s.1 38 = M.1 38 := hE.2 38 (by decide)
    refine wp_brt (le_l (m := 30) rfl (by omega) (by omega)) ?_
    refine wp_for (i0 := 0) 30 (fun i z => z = sr s 38 (rowTo i (fun k => M.1 38 k - fdP K (M.1 38) (M.1 37 11) k) (M.1 38))) (by decide) rfl (by omega) (by rw [rowTo_0, ← qb, sr_self]) ?_ ?_
    · intro f i z hi hI hk
      subst hI
      refine wp_brf (nle_l (m := 30) rfl hi (by omega)) ?_
      rw [gA_n (k_38 hy) hi (by omega), gA_n (k_40 hy) hi (by omega), gA_n (k_38 hy) hi (by omega)]
      simp only [n2_nat (show i < 2147483648 by omega), sr_ne (show ¬ 40 = 38 by decide), sr_ap, n2_s]
      refine hk _ ?_
      rw [wI_sr, sr_ap, sr_sr, rowTo_n, hL i hi, rowTo_s i (fun k => M.1 38 k - fdP K (M.1 38) (M.1 37 11) k)]
    · intro f z hI
      subst hI
      refine wp_brt (le_l (m := 30) rfl (by omega) (by omega)) ?_
      refine wp_some ⟨rfl, (hE.mono (by decide)).sr (by decide), ?_⟩
      rw [sr_ap]; rfl
theorem passDay_37 {y : Lay} (hy : LY y) {M : Mem} {K : KG} (hK : KOK K) (hC : COA K M) (hS : SOK K (skV M 37 38 41 42)) : wp (f_X8_passDay y 37 M) (fun o => o.1 = 0 ∧ Eqx [37, 38, 39, 40, 43, 8, 11] M o.2 ∧ skV o.2 37 38 41 42 = pDay K (skV M 37 38 41 42) ∧ o.2.1 39 = va_cpy (M.1 38) (M.1 39) 0 0 30 ∧ ∀ k, k < 7 → o.2.1 37 k = M.1 37 k) := by
  unfold f_X8_passDay
  have hg6 := hK.2.1.2.2
  have h30 := hK.n30
  simp only [lT_s, jn_s, c0_s, cp_s, cx_s, cx_t, gK_t (k_37 hy), gN_t (r := 37) (by decide), r_37_0 hy, r_37_1 hy, r_37_2 hy, r_37_3 hy, r_37_4 hy, r_37_5 hy, r_37_6 hy, gN_t (r := 38) (by decide), gN_t (r := 39) (by decide), gK_t (k_4 hy), gN_t (r := 4) (by decide), r_4_6 hy, r_4_7 hy, r_4_8 hy]
  rw [gC_t (k_38 hy) (k_39 hy) (by decide)]
  rw [cpI_sr]
  generalize hM0 : sr M 39 (va_cpy (M.1 38) (M.1 39) (0 : Int32).toNatClampNeg (0 : Int32).toNatClampNeg (30 : Int32).toNatClampNeg) = M0
  have g0 : ∀ p, ¬ p = 39 → M0.1 p = M.1 p := fun p hp => by rw [← hM0, sr_ne hp]
  have gm : M0.1 39 = va_cpy (M.1 38) (M.1 39) 0 0 30 := by rw [← hM0, sr_ap]; rfl
  have gE : Eqx [39] M M0 := by rw [← hM0]; exact (Eqx.refl _ _).sr (by decide)
  let D := dawnF K (M.1 41) (M.1 42) (M.1 37 7) (M.1 37 8) (M.1 37 11)
  refine wp_for (i0 := 0) (kg K) (fun i s => Eqx [37, 38, 43, 8] M0 s ∧ s.1 38 = (it D (M.1 38, M.1 37 9) i).1 ∧ s.1 37 = up (M.1 37) 9 (it D (M.1 38, M.1 37 9) i).2) (by have : FUEL = 100000 := rfl; omega) rfl (by omega) ⟨Eqx.refl _ _, g0 38 (by decide), ?_⟩ ?_ ?_
  · rw [g0 37 (by decide)]
    funext k
    show _ = if k = 9 then M.1 37 9 else M.1 37 k
    split
    · rename_i q; rw [q]
    · rfl
  · intro f i s hi hI hk
    obtain ⟨hE, hb, hs⟩ := hI
    have hCs : COA K s := (hC.eqx gE (by decide)).eqx hE (by decide)
    have qp : s.1 41 = M.1 41 := (hE.2 41 (by decide)).trans (g0 41 (by decide))
    have qk : s.1 42 = M.1 42 := (hE.2 42 (by decide)).trans (g0 42 (by decide))
    have hDs : it D (M.1 38, M.1 37 9) (i + 1) = D i (it D (M.1 38, M.1 37 9) i) := rfl
    generalize it D (M.1 38, M.1 37 9) i = q at hb hs hDs
    have s7 : s.1 37 7 = M.1 37 7 := by rw [hs]; rfl
    have s8 : s.1 37 8 = M.1 37 8 := by rw [hs]; rfl
    have s9 : s.1 37 9 = q.2 := by rw [hs]; rfl
    have s11 : s.1 37 11 = M.1 37 11 := by rw [hs]; rfl
    refine wp_brf (by rw [hCs.1.2.2.2.2.1, n2_le (by omega) (by omega)]; omega) ?_
    rw [isResting_g (k_37 hy), cp_s]
    by_cases hr : bt (M.1 37 8) i = 0
    · refine wp_brt (fl_0 (by rw [s8]; exact hr)) ?_
      by_cases h9 : q.2 ≤ 0
      · refine wp_brt (by rw [s9]; exact h9) ?_
        rw [n2_s]
        refine hk _ ⟨hE, ?_, ?_⟩
        · rw [hDs]; show _ = (dawnF K _ _ _ _ _ i q).1; unfold dawnF; rw [if_pos hr, if_pos h9]; exact hb
        · rw [hDs]; show _ = up _ _ (dawnF K _ _ _ _ _ i q).2; unfold dawnF; rw [if_pos hr, if_pos h9]; exact hs
      · refine wp_brf (by rw [s9]; exact h9) ?_
        rw [wI_sr, s9]
        have hC2 : COA K (sr s 37 (up (s.1 37) 9 (q.2 - 1))) := hCs.eqx ((Eqx.refl [37] s).sr (by decide)) (by decide)
        have e9 : (sr s 37 (up (s.1 37) 9 (q.2 - 1))).1 37 9 = q.2 - 1 := by rw [sr_ap, up_eq]
        rw [e9]
        refine wp_c0 _ (swish_37 hy hK hC2 (by rw [sr_ne (by decide), qp]; exact hS.2.1) (show i < 6 by omega) (q.2 - 1)) (fun r M1 h => ?_)
        obtain ⟨-, a2, a3⟩ := h
        dsimp only at a2 a3
        rw [sr_ne (by decide), sr_ne (by decide), sr_ne (by decide), sr_ap, up_ne (by decide), up_ne (by decide), hb, qp, qk, s7, s11] at a3
        rw [n2_s]
        refine hk _ ⟨((hE.sr (by decide)).trans (a2.mono (by decide))), ?_, ?_⟩
        · rw [hDs]; show _ = (dawnF K _ _ _ _ _ i q).1; unfold dawnF; rw [if_pos hr, if_neg h9]; exact a3
        · rw [hDs, a2.2 37 (by decide), sr_ap, hs]; show _ = up _ _ (dawnF K _ _ _ _ _ i q).2; unfold dawnF; rw [if_pos hr, if_neg h9]
          funext k
          unfold up
          split <;> rfl
    · refine wp_brf (fl_1 (by rw [s8]; exact hr)) ?_
      rw [n2_s]
      refine hk _ ⟨hE, ?_, ?_⟩
      · rw [hDs]; show _ = (dawnF K _ _ _ _ _ i q).1; unfold dawnF; rw [if_neg hr]; exact hb
      · rw [hDs]; show _ = up _ _ (dawnF K _ _ _ _ _ i q).2; unfold dawnF; rw [if_neg hr]; exact hs
  intro f s hI
  obtain ⟨hE, hb, hs⟩ := hI
  have hCs : COA K s := (hC.eqx gE (by decide)).eqx hE (by decide)
  have hd := dawn_ok hK hS (kg K)
  have hdw : it D (M.1 38, M.1 37 9) (kg K) = dawn K (skV M 37 38 41 42) := rfl
  have hd' : BP (kn K) (M.1 37 7) (dawn K (skV M 37 38 41 42)).1 := hd.1
  rw [hdw] at hb hs
  have hpd : pDay K (skV M 37 38 41 42) = dusk K (skV M 37 38 41 42) (dawn K (skV M 37 38 41 42)) := rfl
  rw [hpd]
  generalize dawn K (skV M 37 38 41 42) = q at hb hs hd'
  clear hd hdw hpd
  have s11 : s.1 37 11 = M.1 37 11 := by rw [hs]; rfl
  have s10 : s.1 37 10 = M.1 37 10 := by rw [hs]; rfl
  refine wp_brt (by rw [hCs.1.2.2.2.2.1]; exact Int32.le_refl _) ?_
  rw [markOverdone_37 hy, c0_s, hCs.1.2.2.2.1, hb, s10]
  generalize hO : up (up (s.1 37) 12 (ovB (n2 (kb K)) q.1)) 10 (jmin 9999 (M.1 37 10 + bcJ (ovB (n2 (kb K)) q.1))) = O
  have hE1 : Eqx [37, 38, 43, 8] M0 (sr s 37 O) := hE.sr (by decide)
  have hb1 : (sr s 37 O).1 38 = q.1 := by rw [sr_ne (by decide), hb]
  have hs1 : (sr s 37 O).1 37 = O := sr_ap _ _ _
  have hC1 : COA K (sr s 37 O) := hCs.eqx ((Eqx.refl [37] s).sr (by decide)) (by decide)
  generalize sr s 37 O = M1 at hE1 hb1 hs1 hC1
  refine wp_for (i0 := 0) 30 (fun i z => z = sr M1 38 (rowTo i (fun k => jmax 0 (q.1 k - n2 (kr K))) q.1)) (by decide) rfl (by omega) (by rw [rowTo_0, ← hb1, sr_self]) ?_ ?_
  · intro f i z hi hI hk
    subst hI
    refine wp_brf (nle_l (m := 30) rfl hi (by omega)) ?_
    rw [gA_n (k_38 hy) hi (by omega), gA_n (k_38 hy) hi (by omega)]
    simp only [n2_nat (show i < 2147483648 by omega), sr_ap, sr_ne (show ¬ 4 = 38 by decide), n2_s, hC1.1.2.2.1]
    refine hk _ ?_
    rw [wI_sr, sr_ap, sr_sr, rowTo_n, rowTo_s i (fun k => jmax 0 (q.1 k - n2 (kr K)))]
  intro f z hI
  subst hI
  refine wp_brt (le_l (m := 30) rfl (by omega) (by omega)) ?_
  have hn1 := nB1_ok hd' hK.2.1.1 h30
  have eB : rowTo 30 (fun k => jmax 0 (q.1 k - n2 (kr K))) q.1 = nB1 (n2 (kr K)) q.1 := rfl
  rw [eB]
  refine wp_c0 _ (fade_37 hy hK (hC1.eqx ((Eqx.refl [38] M1).sr (by decide)) (by decide)) (by rw [sr_ap]; exact hn1.1.2)) (fun r M2 h => ?_)
  obtain ⟨-, a2, a3⟩ := h
  dsimp only at a2 a3
  rw [sr_ap, sr_ne (by decide), hs1] at a3
  have o11 : O 11 = M.1 37 11 := by rw [← hO, up_ne (by decide), up_ne (by decide), s11]
  rw [o11] at a3
  have as : M2.1 37 = O := by rw [a2.2 37 (by decide), sr_ne (by decide), hs1]
  rw [wI_sr, as, o11]
  have hEE : Eqx [37, 38, 39, 40, 43, 8, 11] M M2 := (gE.mono (by decide)).trans ((hE1.mono (by decide)).trans (((Eqx.refl _ M1).sr (by decide)).trans (a2.mono (by decide))))
  refine wp_some ⟨rfl, hEE.sr (by decide), ?_, ?_, ?_⟩
  · unfold skV dusk
    rw [sr_ap]
    rw [sr_ne (show ¬ 38 = 37 by decide), sr_ne (show ¬ 41 = 37 by decide), sr_ne (show ¬ 42 = 37 by decide), a3, hEE.2 41 (by decide), hEE.2 42 (by decide), ← hO, hs]
    rfl
  · rw [sr_ne (by decide), a2.2 39 (by decide), sr_ne (by decide), hE1.2 39 (by decide), gm]
  · intro k hk
    rw [sr_ap, up_ne (by omega), ← hO, up_ne (by omega), up_ne (by omega), hs, up_ne (by omega)]
theorem fadeOf_58 {y : Lay} (hy : LY y) {M : Mem} {K : KG} (hK : KOK K) (hC : COA K M) {c : Nat} (hc : c < 30) (hB : ∀ k, kn K ≤ k → M.1 59 k = 0) : wp (f_X8_fadeOf y 58 (n2 c) M) (fun o => o.1 = fdP K (M.1 59) (M.1 58 11) c ∧ Eqx [64, 11] M o.2) := by
  unfold f_X8_fadeOf
  simp only [lT_s, jn_s, c0_s, cp_s, cx_s, cx_t, gK_t (k_58 hy), gN_t (r := 58) (by decide), r_58_0 hy, r_58_1 hy, r_58_2 hy, r_58_3 hy, r_58_4 hy, r_58_5 hy, r_58_6 hy, gK_t (k_4 hy), gN_t (r := 4) (by decide), r_4_6 hy, r_4_7 hy, r_4_8 hy, gK_t (k_9 hy), gN_t (r := 9) (by decide), r_9_0 hy, r_9_1 hy, isTold_g (k_9 hy), blueOf_58 hy hc, hC.2.2.2.1]
  unfold fdP
  by_cases h : fl K = 0
  · rw [if_pos h, h]
    refine wp_brt (by decide) ?_
    rw [gd_t (by decide)]
    exact wp_some ⟨rfl, Eqx.refl _ _⟩
  · have hd7 := hK.2.2.2.1
    rw [if_neg h]
    have hn : ¬ n2 (fl K) ≤ 0 := by rw [show (0 : Int32) = n2 0 from rfl, n2_le (by omega) (by decide)]; omega
    rw [if_neg hn]
    refine wp_brf (by decide) ?_
    by_cases h0 : M.1 59 c = 0
    · rw [if_pos h0]
      exact wp_brt h0 (wp_some ⟨rfl, Eqx.refl _ _⟩)
    · rw [if_neg h0]
      refine wp_brf h0 ?_
      have h1 : c < kn K := Nat.lt_of_not_le (fun q => h0 (hB c q))
      rw [setValues_58 hy hK hC h1]
      simp only [lT_s, jn_s, c0_s, cp_s, cx_s, cx_t, blueOf_58 hy hc, sr_ne (show ¬ 59 = 64 by decide), gN_t (r := 64) (by decide)]
      generalize hV : up (up (up (up (M.1 64) 0 (M.1 59 c)) 1 (bsum (bes K c) (M.1 59))) 2 (n2 (c / kw K))) 3 (M.1 58 11) = V
      have hW := hK.2.2.2.2 (by omega)
      refine wp_c0 _ (worth_g (ru := 9) (cr := 10) (sk := 11) (va := 64) (n := fl K) (k_9 hy) (r_9_0 hy) (r_9_1 hy) (k_10 hy) (k_11 hy) (k_64 hy) (by decide) (by decide) (by decide) (by decide) (by decide) (by rw [sr_ne (by decide)]; exact hC.2.2.2.1) hd7 (by rw [sr_ne (by decide), hC.2.2.2.2]; exact hW.six (by decide))) (fun r M1 h => ?_)
      obtain ⟨e1, e2⟩ := h
      dsimp only at e1 e2
      refine wp_some ⟨?_, ((Eqx.refl _ _).sr (by decide)).trans (e2.mono (by decide))⟩
      rw [e1, sr_ap, sr_ne (by decide), hC.2.2.2.2, ← hV, evR_v (m := 4) vals_f58 (by decide) (fun i hi => (hW.1 i hi).1)]
theorem fade_58 {y : Lay} (hy : LY y) {M : Mem} {K : KG} (hK : KOK K) (hC : COA K M) (hB : ∀ k, kn K ≤ k → M.1 59 k = 0) : wp (f_X8_fade y 58 M) (fun o => o.1 = 0 ∧ Eqx [59, 61, 64, 11] M o.2 ∧ o.2.1 59 = nF K (M.1 59) (M.1 58 11)) := by
  unfold f_X8_fade
  simp only [lT_s, jn_s, c0_s, cp_s, cx_s, cx_t, gK_t (k_58 hy), gN_t (r := 58) (by decide), r_58_0 hy, r_58_1 hy, r_58_2 hy, r_58_3 hy, r_58_4 hy, r_58_5 hy, r_58_6 hy, gN_t (r := 59) (by decide), gN_t (r := 61) (by decide)]
  refine wp_for (i0 := 0) 30 (fun i s => Eqx [61, 64, 11] M s ∧ ∀ k, k < i → s.1 61 k = fdP K (M.1 59) (M.1 58 11) k) (by decide) rfl (by omega) ⟨Eqx.refl _ _, fun k hk => absurd hk (Nat.not_lt_zero _)⟩ ?_ ?_
  · intro f i s hi hI hk
    obtain ⟨hE, hL⟩ := hI
    have qb : s.1 59 = M.1 59 := hE.2 59 (by decide)
    have qs : s.1 58 = M.1 58 := hE.2 58 (by decide)
    refine wp_brf (nle_l (m := 30) rfl hi (by omega)) ?_
    refine wp_c0 _ (fadeOf_58 hy hK (hC.eqx hE (by decide)) hi (by rw [qb]; exact hB)) (fun r M1 h => ?_)
    obtain ⟨e1, e2⟩ := h
    dsimp only at e1 e2
    rw [gA_n (k_61 hy) hi (by omega), n2_nat (by omega), n2_s, wI_sr]
    refine hk _ ⟨(hE.trans (e2.mono (by decide))).sr (by decide), fun k hk => ?_⟩
    rw [sr_ap]
    by_cases q : k = i
    · rw [q, up_eq, e1, qb, qs]
    · rw [up_ne q, e2.2 61 (by decide)]; exact hL k (by omega)
  · intro f s hI
    obtain ⟨hE, hL⟩ := hI
    have qb : s.1 59 = M.1 59 := hE.2 59 (by decide)
    refine wp_brt (le_l (m := 30) rfl (by omega) (by omega)) ?_
    refine wp_for (i0 := 0) 30 (fun i z => z = sr s 59 (rowTo i (fun k => M.1 59 k - fdP K (M.1 59) (M.1 58 11) k) (M.1 59))) (by decide) rfl (by omega) (by rw [rowTo_0, ← qb, sr_self]) ?_ ?_
    · intro f i z hi hI hk
      subst hI
      refine wp_brf (nle_l (m := 30) rfl hi (by omega)) ?_
      rw [gA_n (k_59 hy) hi (by omega), gA_n (k_61 hy) hi (by omega), gA_n (k_59 hy) hi (by omega)]
      simp only [n2_nat (show i < 2147483648 by omega), sr_ne (show ¬ 61 = 59 by decide), sr_ap, n2_s]
      refine hk _ ?_
      rw [wI_sr, sr_ap, sr_sr, rowTo_n, hL i hi, rowTo_s i (fun k => M.1 59 k - fdP K (M.1 59) (M.1 58 11) k)]
    · intro f z hI
      subst hI
      refine wp_brt (le_l (m := 30) rfl (by omega) (by omega)) ?_
      refine wp_some ⟨rfl, (hE.mono (by decide)).sr (by decide), ?_⟩
      rw [sr_ap]; rfl
theorem passDay_58 {y : Lay} (hy : LY y) {M : Mem} {K : KG} (hK : KOK K) (hC : COA K M) (hS : SOK K (skV M 58 59 62 63)) : wp (f_X8_passDay y 58 M) (fun o => o.1 = 0 ∧ Eqx [58, 59, 60, 61, 64, 8, 11] M o.2 ∧ skV o.2 58 59 62 63 = pDay K (skV M 58 59 62 63) ∧ o.2.1 60 = va_cpy (M.1 59) (M.1 60) 0 0 30 ∧ ∀ k, k < 7 → o.2.1 58 k = M.1 58 k) := by
  unfold f_X8_passDay
  have hg6 := hK.2.1.2.2
  have h30 := hK.n30
  simp only [lT_s, jn_s, c0_s, cp_s, cx_s, cx_t, gK_t (k_58 hy), gN_t (r := 58) (by decide), r_58_0 hy, r_58_1 hy, r_58_2 hy, r_58_3 hy, r_58_4 hy, r_58_5 hy, r_58_6 hy, gN_t (r := 59) (by decide), gN_t (r := 60) (by decide), gK_t (k_4 hy), gN_t (r := 4) (by decide), r_4_6 hy, r_4_7 hy, r_4_8 hy]
  rw [gC_t (k_59 hy) (k_60 hy) (by decide)]
  rw [cpI_sr]
  generalize hM0 : sr M 60 (va_cpy (M.1 59) (M.1 60) (0 : Int32).toNatClampNeg (0 : Int32).toNatClampNeg (30 : Int32).toNatClampNeg) = M0
  have g0 : ∀ p, ¬ p = 60 → M0.1 p = M.1 p := fun p hp => by rw [← hM0, sr_ne hp]
  have gm : M0.1 60 = va_cpy (M.1 59) (M.1 60) 0 0 30 := by rw [← hM0, sr_ap]; rfl
  have gE : Eqx [60] M M0 := by rw [← hM0]; exact (Eqx.refl _ _).sr (by decide)
  let D := dawnF K (M.1 62) (M.1 63) (M.1 58 7) (M.1 58 8) (M.1 58 11)
  refine wp_for (i0 := 0) (kg K) (fun i s => Eqx [58, 59, 64, 8] M0 s ∧ s.1 59 = (it D (M.1 59, M.1 58 9) i).1 ∧ s.1 58 = up (M.1 58) 9 (it D (M.1 59, M.1 58 9) i).2) (by have : FUEL = 100000 := rfl; omega) rfl (by omega) ⟨Eqx.refl _ _, g0 59 (by decide), ?_⟩ ?_ ?_
  · rw [g0 58 (by decide)]
    funext k
    show _ = if k = 9 then M.1 58 9 else M.1 58 k
    split
    · rename_i q; rw [q]
    · rfl
  · intro f i s hi hI hk
    obtain ⟨hE, hb, hs⟩ := hI
    have hCs : COA K s := (hC.eqx gE (by decide)).eqx hE (by decide)
    have qp : s.1 62 = M.1 62 := (hE.2 62 (by decide)).trans (g0 62 (by decide))
    have qk : s.1 63 = M.1 63 := (hE.2 63 (by decide)).trans (g0 63 (by decide))
    have hDs : it D (M.1 59, M.1 58 9) (i + 1) = D i (it D (M.1 59, M.1 58 9) i) := rfl
    generalize it D (M.1 59, M.1 58 9) i = q at hb hs hDs
    have s7 : s.1 58 7 = M.1 58 7 := by rw [hs]; rfl
    have s8 : s.1 58 8 = M.1 58 8 := by rw [hs]; rfl
    have s9 : s.1 58 9 = q.2 := by rw [hs]; rfl
    have s11 : s.1 58 11 = M.1 58 11 := by rw [hs]; rfl
    refine wp_brf (by rw [hCs.1.2.2.2.2.1, n2_le (by omega) (by omega)]; omega) ?_
    rw [isResting_g (k_58 hy), cp_s]
    by_cases hr : bt (M.1 58 8) i = 0
    · refine wp_brt (fl_0 (by rw [s8]; exact hr)) ?_
      by_cases h9 : q.2 ≤ 0
      · refine wp_brt (by rw [s9]; exact h9) ?_
        rw [n2_s]
        refine hk _ ⟨hE, ?_, ?_⟩
        · rw [hDs]; show _ = (dawnF K _ _ _ _ _ i q).1; unfold dawnF; rw [if_pos hr, if_pos h9]; exact hb
        · rw [hDs]; show _ = up _ _ (dawnF K _ _ _ _ _ i q).2; unfold dawnF; rw [if_pos hr, if_pos h9]; exact hs
      · refine wp_brf (by rw [s9]; exact h9) ?_
        rw [wI_sr, s9]
        have hC2 : COA K (sr s 58 (up (s.1 58) 9 (q.2 - 1))) := hCs.eqx ((Eqx.refl [58] s).sr (by decide)) (by decide)
        have e9 : (sr s 58 (up (s.1 58) 9 (q.2 - 1))).1 58 9 = q.2 - 1 := by rw [sr_ap, up_eq]
        rw [e9]
        refine wp_c0 _ (swish_58 hy hK hC2 (by rw [sr_ne (by decide), qp]; exact hS.2.1) (show i < 6 by omega) (q.2 - 1)) (fun r M1 h => ?_)
        obtain ⟨-, a2, a3⟩ := h
        dsimp only at a2 a3
        rw [sr_ne (by decide), sr_ne (by decide), sr_ne (by decide), sr_ap, up_ne (by decide), up_ne (by decide), hb, qp, qk, s7, s11] at a3
        rw [n2_s]
        refine hk _ ⟨((hE.sr (by decide)).trans (a2.mono (by decide))), ?_, ?_⟩
        · rw [hDs]; show _ = (dawnF K _ _ _ _ _ i q).1; unfold dawnF; rw [if_pos hr, if_neg h9]; exact a3
        · rw [hDs, a2.2 58 (by decide), sr_ap, hs]; show _ = up _ _ (dawnF K _ _ _ _ _ i q).2; unfold dawnF; rw [if_pos hr, if_neg h9]
          funext k
          unfold up
          split <;> rfl
    · refine wp_brf (fl_1 (by rw [s8]; exact hr)) ?_
      rw [n2_s]
      refine hk _ ⟨hE, ?_, ?_⟩
      · rw [hDs]; show _ = (dawnF K _ _ _ _ _ i q).1; unfold dawnF; rw [if_neg hr]; exact hb
      · rw [hDs]; show _ = up _ _ (dawnF K _ _ _ _ _ i q).2; unfold dawnF; rw [if_neg hr]; exact hs
  intro f s hI
  obtain ⟨hE, hb, hs⟩ := hI
  have hCs : COA K s := (hC.eqx gE (by decide)).eqx hE (by decide)
  have hd := dawn_ok hK hS (kg K)
  have hdw : it D (M.1 59, M.1 58 9) (kg K) = dawn K (skV M 58 59 62 63) := rfl
  have hd' : BP (kn K) (M.1 58 7) (dawn K (skV M 58 59 62 63)).1 := hd.1
  rw [hdw] at hb hs
  have hpd : pDay K (skV M 58 59 62 63) = dusk K (skV M 58 59 62 63) (dawn K (skV M 58 59 62 63)) := rfl
  rw [hpd]
  generalize dawn K (skV M 58 59 62 63) = q at hb hs hd'
  clear hd hdw hpd
  have s11 : s.1 58 11 = M.1 58 11 := by rw [hs]; rfl
  have s10 : s.1 58 10 = M.1 58 10 := by rw [hs]; rfl
  refine wp_brt (by rw [hCs.1.2.2.2.2.1]; exact Int32.le_refl _) ?_
  rw [markOverdone_58 hy, c0_s, hCs.1.2.2.2.1, hb, s10]
  generalize hO : up (up (s.1 58) 12 (ovB (n2 (kb K)) q.1)) 10 (jmin 9999 (M.1 58 10 + bcJ (ovB (n2 (kb K)) q.1))) = O
  have hE1 : Eqx [58, 59, 64, 8] M0 (sr s 58 O) := hE.sr (by decide)
  have hb1 : (sr s 58 O).1 59 = q.1 := by rw [sr_ne (by decide), hb]
  have hs1 : (sr s 58 O).1 58 = O := sr_ap _ _ _
  have hC1 : COA K (sr s 58 O) := hCs.eqx ((Eqx.refl [58] s).sr (by decide)) (by decide)
  generalize sr s 58 O = M1 at hE1 hb1 hs1 hC1
  refine wp_for (i0 := 0) 30 (fun i z => z = sr M1 59 (rowTo i (fun k => jmax 0 (q.1 k - n2 (kr K))) q.1)) (by decide) rfl (by omega) (by rw [rowTo_0, ← hb1, sr_self]) ?_ ?_
  · intro f i z hi hI hk
    subst hI
    refine wp_brf (nle_l (m := 30) rfl hi (by omega)) ?_
    rw [gA_n (k_59 hy) hi (by omega), gA_n (k_59 hy) hi (by omega)]
    simp only [n2_nat (show i < 2147483648 by omega), sr_ap, sr_ne (show ¬ 4 = 59 by decide), n2_s, hC1.1.2.2.1]
    refine hk _ ?_
    rw [wI_sr, sr_ap, sr_sr, rowTo_n, rowTo_s i (fun k => jmax 0 (q.1 k - n2 (kr K)))]
  intro f z hI
  subst hI
  refine wp_brt (le_l (m := 30) rfl (by omega) (by omega)) ?_
  have hn1 := nB1_ok hd' hK.2.1.1 h30
  have eB : rowTo 30 (fun k => jmax 0 (q.1 k - n2 (kr K))) q.1 = nB1 (n2 (kr K)) q.1 := rfl
  rw [eB]
  refine wp_c0 _ (fade_58 hy hK (hC1.eqx ((Eqx.refl [59] M1).sr (by decide)) (by decide)) (by rw [sr_ap]; exact hn1.1.2)) (fun r M2 h => ?_)
  obtain ⟨-, a2, a3⟩ := h
  dsimp only at a2 a3
  rw [sr_ap, sr_ne (by decide), hs1] at a3
  have o11 : O 11 = M.1 58 11 := by rw [← hO, up_ne (by decide), up_ne (by decide), s11]
  rw [o11] at a3
  have as : M2.1 58 = O := by rw [a2.2 58 (by decide), sr_ne (by decide), hs1]
  rw [wI_sr, as, o11]
  have hEE : Eqx [58, 59, 60, 61, 64, 8, 11] M M2 := (gE.mono (by decide)).trans ((hE1.mono (by decide)).trans (((Eqx.refl _ M1).sr (by decide)).trans (a2.mono (by decide))))
  refine wp_some ⟨rfl, hEE.sr (by decide), ?_, ?_, ?_⟩
  · unfold skV dusk
    rw [sr_ap]
    rw [sr_ne (show ¬ 59 = 58 by decide), sr_ne (show ¬ 62 = 58 by decide), sr_ne (show ¬ 63 = 58 by decide), a3, hEE.2 62 (by decide), hEE.2 63 (by decide), ← hO, hs]
    rfl
  · rw [sr_ne (by decide), a2.2 60 (by decide), sr_ne (by decide), hE1.2 60 (by decide), gm]
  · intro k hk
    rw [sr_ap, up_ne (by omega), ← hO, up_ne (by omega), up_ne (by omega), hs, up_ne (by omega)]
