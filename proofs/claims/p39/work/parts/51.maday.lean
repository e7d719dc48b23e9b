/-! ===== the model's day, whole ===== -/
theorem knb0 : ∀ v : Fin 100, n2 v.val = 0 ↔ n2 v.val ≤ 0 := by decide +kernel
def dayM (M : Mem) (q : Row × Int32) (o : Int32) : Row := up (up (up (up (M.1 73) 32 q.2) 41 o) 33 (jmin 9999 (M.1 73 33 + bcJ o))) 31 (M.1 73 31 + 1)
theorem aDay_v {y : Lay} (hy : LY y) {M : Mem} {K : KG} (hK : KOK K) (hC : COM K M) (hS : SOK K (moV M)) : wp (f_X12_aDay y 73 M) (fun o => o.1 = 0 ∧ Eqx [73, 87, 90, 91, 92] M o.2 ∧ moV o.2 = pDay K (moV M) ∧ ∀ k, ¬ k = 31 → ¬ k = 32 → ¬ k = 33 → ¬ k = 41 → o.2.1 73 k = M.1 73 k) := by
  have e2 : (2 : Int32).toNatClampNeg = 2 := rfl
  have e4 : (4 : Int32).toNatClampNeg = 4 := rfl
  have e5 : (5 : Int32).toNatClampNeg = 5 := rfl
  have hg6 := hK.2.1.2.2
  have hn30 := hK.n30
  have g := hC.geo hK
  unfold f_X12_aDay
  simp only [lT_s, jn_s, c0_s, cp_s, cx_s, cx_t, gK_t (k_73 hy), gN_t (r := 73) (by decide), r_73_0 hy, r_73_1 hy, r_73_2 hy, r_73_5 hy, r_73_6 hy, r_73_7 hy, r_73_8 hy, r_73_9 hy, r_73_10 hy, r_73_11 hy, r_73_12 hy, r_73_13 hy, r_73_14 hy, r_73_28 hy, r_73_29 hy, r_73_30 hy, r_73_38 hy, r_73_39 hy, r_73_40 hy, r_73_42 hy, r_73_43 hy, r_73_44 hy, r_73_45 hy, r_73_46 hy, r_73_47 hy, r_73_48 hy, r_73_49 hy, r_73_50 hy, r_73_51 hy, r_73_53 hy, r_73_58 hy, r_73_59 hy, r_73_60 hy, r_73_61 hy, r_73_62 hy, r_73_63 hy, gN_t (r := 77) (by decide), gN_t (r := 87) (by decide), gN_t (r := 92) (by decide), isOf_s, e2, e4, e5]
  let D := dawnF K (M.1 88) (M.1 85) (M.1 73 34) (M.1 73 35) (M.1 73 31)
  refine wp_for (i0 := 0) (kg K) (fun i s => Eqx [73, 87, 90, 91] M s ∧ s.1 87 = (it D (M.1 87, M.1 73 32) i).1 ∧ s.1 73 = up (M.1 73) 32 (it D (M.1 87, M.1 73 32) i).2) (by have : FUEL = 100000 := rfl; omega) rfl (by omega) ⟨Eqx.refl _ _, rfl, ?_⟩ ?_ ?_
  · funext k
    show _ = if k = 32 then M.1 73 32 else M.1 73 k
    split
    · rename_i q; rw [q]
    · rfl
  · intro f i s hi hI hk
    obtain ⟨hE, hb, hs⟩ := hI
    have hCs : COM K s := hC.eqx hE (by decide)
    have qp : s.1 88 = M.1 88 := hE.2 88 (by decide)
    have qk : s.1 85 = M.1 85 := hE.2 85 (by decide)
    have hDs : it D (M.1 87, M.1 73 32) (i + 1) = D i (it D (M.1 87, M.1 73 32) i) := rfl
    have hdo : BP (kn K) (M.1 73 34) (it D (M.1 87, M.1 73 32) i).1 ∧ KNB (it D (M.1 87, M.1 73 32) i).2 := dawn_ok hK hS i
    generalize it D (M.1 87, M.1 73 32) i = q at hb hs hDs hdo
    have s34 : s.1 73 34 = M.1 73 34 := by rw [hs]; rfl
    have s35 : s.1 73 35 = M.1 73 35 := by rw [hs]; rfl
    have s32 : s.1 73 32 = q.2 := by rw [hs]; rfl
    have s31 : s.1 73 31 = M.1 73 31 := by rw [hs]; rfl
    rw [gA_t (k_77 hy) (by decide)]
    refine wp_brf (by rw [hCs.1.2.2.2.2, n2_le (by omega) (by omega)]; omega) ?_
    rw [s35, isOf_s, cp_s]
    rcases bt01 (M.1 73 35) i with hr | hr
    · rw [if_neg (by rw [hr]; decide)]
      refine wp_brt rfl ?_
      obtain ⟨v, v1, v2⟩ := hdo.2
      have h0 := knb0 ⟨v, by omega⟩
      dsimp only at h0
      rw [← v2] at h0
      by_cases h9 : q.2 = 0
      · refine wp_brt (by rw [s32]; exact h9) ?_
        rw [n2_s]
        refine hk _ ⟨hE, ?_, ?_⟩
        · rw [hDs]; show _ = (dawnF K _ _ _ _ _ i q).1; unfold dawnF; rw [if_pos hr, if_pos (h0.mp h9)]; exact hb
        · rw [hDs]; show _ = up _ _ (dawnF K _ _ _ _ _ i q).2; unfold dawnF; rw [if_pos hr, if_pos (h0.mp h9)]; exact hs
      · refine wp_brf (by rw [s32]; exact h9) ?_
        rw [wI_sr, s32]
        have hC2 : COM K (sr s 73 (up (s.1 73) 32 (q.2 - 1))) := hCs.eqx ((Eqx.refl [73] s).sr (by decide)) (by decide)
        have e9 : (sr s 73 (up (s.1 73) 32 (q.2 - 1))).1 73 32 = q.2 - 1 := by rw [sr_ap, up_eq]
        rw [e9]
        refine wp_c0 _ (swishM hy hK hC2 (by rw [sr_ap, up_ne (by decide), s34, sr_ne (by decide), hb]; exact hdo.1) (by rw [sr_ne (by decide), qp]; exact hS.2.1) (by rw [sr_ne (by decide), qk]; exact hS.2.2.1) hi (q.2 - 1)) (fun r M1 h => ?_)
        obtain ⟨-, a2, a3⟩ := h
        dsimp only at a2 a3
        rw [sr_ne (by decide), sr_ne (by decide), sr_ne (by decide), sr_ap, up_ne (by decide), up_ne (by decide), hb, qp, qk, s34, s31] at a3
        rw [n2_s]
        refine hk _ ⟨((hE.sr (by decide)).trans (a2.mono (by decide))), ?_, ?_⟩
        · rw [hDs]; show _ = (dawnF K _ _ _ _ _ i q).1; unfold dawnF; rw [if_pos hr, if_neg (fun z => h9 (h0.mpr z))]; exact a3
        · rw [hDs, a2.2 73 (by decide), sr_ap, hs]; show _ = up _ _ (dawnF K _ _ _ _ _ i q).2; unfold dawnF; rw [if_pos hr, if_neg (fun z => h9 (h0.mpr z))]
          funext k
          unfold up
          split <;> rfl
    · rw [if_pos hr]
      refine wp_brf (by decide) ?_
      rw [n2_s]
      have hr0 : ¬ bt (M.1 73 35) i = 0 := by rw [hr]; decide
      refine hk _ ⟨hE, ?_, ?_⟩
      · rw [hDs]; show _ = (dawnF K _ _ _ _ _ i q).1; unfold dawnF; rw [if_neg hr0]; exact hb
      · rw [hDs]; show _ = up _ _ (dawnF K _ _ _ _ _ i q).2; unfold dawnF; rw [if_neg hr0]; exact hs
  intro f s hI
  obtain ⟨hE, hb, hs⟩ := hI
  have hCs : COM K s := hC.eqx hE (by decide)
  have hd := dawn_ok hK hS (kg K)
  have hdw : it D (M.1 87, M.1 73 32) (kg K) = dawn K (moV M) := rfl
  have hd' : BP (kn K) (M.1 73 34) (dawn K (moV M)).1 := hd.1
  rw [hdw] at hb hs
  have hpd : pDay K (moV M) = dusk K (moV M) (dawn K (moV M)) := rfl
  rw [hpd]
  generalize dawn K (moV M) = q at hb hs hd'
  clear hd hdw hpd
  have s31 : s.1 73 31 = M.1 73 31 := by rw [hs]; rfl
  have s33 : s.1 73 33 = M.1 73 33 := by rw [hs]; rfl
  rw [gA_t (k_77 hy) (by decide)]
  refine wp_brt (by rw [hCs.1.2.2.2.2]; exact Int32.le_refl _) ?_
  have q1 : ∀ (M' : Mem), M'.1 77 = s.1 77 → f_X12_cells y 73 M' = some (n2 (kn K)) := fun M' h => cellsG hy (w := kw K) (h := kh K) (by rw [h]; exact hCs.geo hK)
  have c77 : s.1 77 5 = n2 (kb K) := hCs.1.2.2.2.1
  have c774 : s.1 77 4 = n2 (kr K) := hCs.1.2.2.1
  -- overdone
  refine wp_for (i0 := 0) (kn K) (fun i z => z = sr s 73 (up (s.1 73) 41 (it (ovF (n2 (kb K)) q.1) 0 i))) (by have : FUEL = 100000 := rfl; omega) rfl (by omega) (by rw [wI_sr]; rfl) ?_ ?_
  · intro f i z hi hI hk
    subst hI
    rw [q1 _ (sr_ne (by decide)), cp_s]
    refine wp_brf (by rw [n2_le (by omega) (by omega)]; omega) ?_
    rw [gA_n (k_87 hy) (by omega) (by omega), gA_t (k_77 hy) (by decide)]
    simp only [n2_nat (show i < 2147483648 by omega), sr_ap, sr_ne (show ¬ 77 = 73 by decide), sr_ne (show ¬ 87 = 73 by decide), n2_s, c77, hb]
    refine wp_br (fun h => hk _ ?_) (fun h => hk _ ?_)
    · rw [wI_sr, sr_ap, sr_sr, it_s, or_0]
      refine congrArg (sr s 73) ?_
      funext k
      unfold up ovF
      by_cases hk : k = 41
      · rw [if_pos hk, if_pos hk, if_pos h, if_pos rfl]
      · rw [if_neg hk, if_neg hk, if_neg hk]
    · rw [wI_sr, sr_ap, sr_sr, it_s]
      refine congrArg (sr s 73) ?_
      funext k
      unfold up ovF bit
      by_cases hk : k = 41
      · rw [if_pos hk, if_pos hk, if_neg h, if_pos rfl]
      · rw [if_neg hk, if_neg hk, if_neg hk]
  intro f z hI
  subst hI
  rw [q1 _ (sr_ne (by decide)), cp_s]
  refine wp_brt (Int32.le_refl _) ?_
  have e41 : (sr s 73 (up (s.1 73) 41 (it (ovF (n2 (kb K)) q.1) 0 (kn K)))).1 73 41 = it (ovF (n2 (kb K)) q.1) 0 (kn K) := by rw [sr_ap]; exact if_pos rfl
  rw [e41, bitsOf_ov hn30]
  simp only [cp_s]
  rw [wI_sr, sr_ap, sr_sr]
  have e33 : up (s.1 73) 41 (it (ovF (n2 (kb K)) q.1) 0 (kn K)) 33 = M.1 73 33 := by rw [up_ne (by decide), s33]
  rw [e33]
  have eov : it (ovF (n2 (kb K)) q.1) 0 (kn K) = ovB (n2 (kb K)) q.1 := ov_eq hd'.1 hK.2.1.2.1 hn30
  rw [eov]
  generalize hO : up (up (s.1 73) 41 (ovB (n2 (kb K)) q.1)) 33 (jmin 9999 (M.1 73 33 + bcJ (ovB (n2 (kb K)) q.1))) = O
  have hE1 : Eqx [73, 87, 90, 91] M (sr s 73 O) := hE.sr (by decide)
  have hC1 : COM K (sr s 73 O) := hCs.eqx ((Eqx.refl [73] s).sr (by decide)) (by decide)
  have hb1 : (sr s 73 O).1 87 = q.1 := by rw [sr_ne (by decide), hb]
  have hs1 : (sr s 73 O).1 73 = O := sr_ap _ _ _
  have h77 : (sr s 73 O).1 77 = s.1 77 := sr_ne (by decide)
  generalize sr s 73 O = M1 at hE1 hC1 hb1 hs1 h77
  -- rinse
  refine wp_for (i0 := 0) (kn K) (fun i z => z = sr M1 87 (rowTo i (fun k => jmax 0 (q.1 k - n2 (kr K))) q.1)) (by have : FUEL = 100000 := rfl; omega) rfl (by omega) (by rw [rowTo_0, ← hb1, sr_self]) ?_ ?_
  · intro f i z hi hI hk
    subst hI
    rw [q1 _ (by rw [sr_ne (by decide), h77]), cp_s]
    refine wp_brf (by rw [n2_le (by omega) (by omega)]; omega) ?_
    rw [gA_n (k_87 hy) (by omega) (by omega), gA_t (k_77 hy) (by decide), gA_n (k_87 hy) (by omega) (by omega)]
    simp only [n2_nat (show i < 2147483648 by omega), sr_ap, sr_ne (show ¬ 77 = 87 by decide), n2_s, h77, c774]
    refine hk _ ?_
    rw [wI_sr, sr_ap, sr_sr, rowTo_n, rowTo_s i (fun k => jmax 0 (q.1 k - n2 (kr K)))]
  intro f z hI
  subst hI
  rw [q1 _ (by rw [sr_ne (by decide), h77]), cp_s]
  refine wp_brt (Int32.le_refl _) ?_
  have hn1 := nB1_ok hd' hK.2.1.1 hn30
  have eB : rowTo (kn K) (fun k => jmax 0 (q.1 k - n2 (kr K))) q.1 = nB1 (n2 (kr K)) q.1 := (n1_ok hd'.1 hK.2.1.1 hn30).1
  rw [eB]
  generalize hB2 : nB1 (n2 (kr K)) q.1 = B2 at hn1 eB
  have hE2 : Eqx [73, 87, 90, 91, 92] M (sr M1 87 B2) := (hE1.mono (by decide)).sr (by decide)
  have f87 : (sr M1 87 B2).1 87 = B2 := sr_ap _ _ _
  have f73 : (sr M1 87 B2).1 73 = O := by rw [sr_ne (by decide), hs1]
  have f77 : (sr M1 87 B2).1 77 = s.1 77 := by rw [sr_ne (by decide), h77]
  have hC2 : COM K (sr M1 87 B2) := hC1.eqx ((Eqx.refl [87] M1).sr (by decide)) (by decide)
  generalize sr M1 87 B2 = M2 at hE2 f87 f73 f77 hC2
  have o31 : O 31 = M.1 73 31 := by rw [← hO, up_ne (by decide), up_ne (by decide), s31]
  -- fading
  refine wp_for (i0 := 0) (kn K) (fun i z => Eqx [90, 91, 92] M2 z ∧ ∀ k, k < i → z.1 92 k = fdP K B2 (M.1 73 31) k) (by have : FUEL = 100000 := rfl; omega) rfl (by omega) ⟨Eqx.refl _ _, fun k hk => absurd hk (Nat.not_lt_zero _)⟩ ?_ ?_
  · intro f i z hi hI hk
    obtain ⟨hZ, hL⟩ := hI
    rw [q1 _ (by rw [hZ.2 77 (by decide), f77]), cp_s]
    refine wp_brf (by rw [n2_le (by omega) (by omega)]; omega) ?_
    refine wp_c0 _ (fadesOf_s hy hK (hC2.eqx hZ (by decide)) hi (by rw [hZ.2 87 (by decide), f87]; exact hn1.1.1 i)) (fun r M3 h => ?_)
    obtain ⟨a1, a2⟩ := h
    dsimp only at a1 a2
    rw [hZ.2 87 (by decide), hZ.2 73 (by decide), f87, f73, o31] at a1
    rw [gA_n (k_92 hy) (show i < 30 by omega) (by omega), n2_nat (show i < 2147483648 by omega), n2_s, wI_sr]
    refine hk _ ⟨(hZ.trans (a2.mono (by decide))).sr (by decide), fun k hk => ?_⟩
    rw [sr_ap]
    by_cases e : k = i
    · rw [e, up_eq, a1]
    · rw [up_ne e, a2.2 92 (by decide)]; exact hL k (by omega)
  intro f z hI
  obtain ⟨hZ, hL⟩ := hI
  rw [q1 _ (by rw [hZ.2 77 (by decide), f77]), cp_s]
  refine wp_brt (Int32.le_refl _) ?_
  have g87 : z.1 87 = B2 := (hZ.2 87 (by decide)).trans f87
  have g77 : z.1 77 = s.1 77 := (hZ.2 77 (by decide)).trans f77
  have g73 : z.1 73 = O := (hZ.2 73 (by decide)).trans f73
  refine wp_for (i0 := 0) (kn K) (fun i w => w = sr z 87 (rowTo i (fun k => B2 k - fdP K B2 (M.1 73 31) k) B2)) (by have : FUEL = 100000 := rfl; omega) rfl (by omega) (by rw [rowTo_0, ← g87, sr_self]) ?_ ?_
  · intro f i w hi hI hk
    subst hI
    rw [q1 _ (by rw [sr_ne (by decide), g77]), cp_s]
    refine wp_brf (by rw [n2_le (by omega) (by omega)]; omega) ?_
    rw [gA_n (k_87 hy) (by omega) (by omega), gA_n (k_92 hy) (by omega) (by omega), gA_n (k_87 hy) (by omega) (by omega)]
    simp only [n2_nat (show i < 2147483648 by omega), sr_ap, sr_ne (show ¬ 92 = 87 by decide), n2_s]
    refine hk _ ?_
    rw [wI_sr, sr_ap, sr_sr, rowTo_n, hL i hi, rowTo_s i (fun k => B2 k - fdP K B2 (M.1 73 31) k)]
  intro f w hI
  subst hI
  rw [q1 _ (by rw [sr_ne (by decide), g77]), cp_s]
  refine wp_brt (Int32.le_refl _) ?_
  have hEE : Eqx [73, 87, 90, 91, 92] M z := hE2.trans (hZ.mono (by decide))
  have eN : rowTo (kn K) (fun k => B2 k - fdP K B2 (M.1 73 31) k) B2 = nF K B2 (M.1 73 31) := by
    funext k
    unfold nF
    by_cases h1 : k < kn K
    · rw [rowTo_lt h1, rowTo_lt (by omega)]
    · rw [rowTo_ge h1]
      by_cases h2 : k < 30
      · rw [rowTo_lt h2]
        obtain ⟨u, u1, u2⟩ := fdP_ok (K := K) (B := B2) (dy := M.1 73 31) (c := k) (v := 0) (by decide) (hn1.1.2 k (by omega))
        have : u = 0 := by omega
        subst this
        rw [u2, hn1.1.2 k (by omega)]
        rfl
      · rw [rowTo_ge h2]
  rw [eN, wI_sr, sr_ne (show ¬ 73 = 87 by decide), g73, o31]
  refine wp_some ⟨rfl, (hEE.sr (by decide)).sr (by decide), ?_, ?_⟩
  · unfold moV dusk
    rw [sr_ap]
    rw [sr_ne (show ¬ 87 = 73 by decide), sr_ap, sr_ne (show ¬ 88 = 73 by decide), sr_ne (show ¬ 88 = 87 by decide), sr_ne (show ¬ 85 = 73 by decide), sr_ne (show ¬ 85 = 87 by decide), hEE.2 88 (by decide), hEE.2 85 (by decide), ← hO, hs, ← hB2]
    rfl
  · intro k k1 k2 k3 k4
    rw [sr_ap, up_ne k1, ← hO, up_ne k3, up_ne k4, hs, up_ne k2]
