/-! ===== the same, for the law ===== -/
theorem xw {M N : Mem} (h : Eqx [58, 59, 60, 61, 62, 63] MS N) : MEQ N := MEQ_x h (by decide)
theorem op_then (c d : Int32) : chkL (f_L_then yS 1 c d 110 MS) (f_X12_then yS 73 c d) = true := by
  unfold f_L_then
  rcases needCell_s yS_ly g0 c with ⟨hc, e⟩ | ⟨hc, e⟩
  · rcases needWithin_s (y := yS) (M := MS) (a := 0) (b := 40) (by decide) (by decide) d with ⟨hd, e2⟩ | ⟨hd, e2⟩
    · obtain ⟨c1, c2⟩ := inN_n hc
      obtain ⟨d1, -, d2⟩ := inR_n hd
      rw [c1] at e ⊢
      rw [d1] at e2 ⊢
      refine chk_g yS_ly 0 0 0 (wp_mono (then_c yS_ly FRC_S c2 d2 e e2) (fun o h => ⟨h.1, h.2.1, MEQ_x h.2.2 (by decide)⟩)) (fun N r h => MEQ_wL h) (fun N hN => ?_) (fun _ => rfl) (fun h => absurd h (by decide)) (fun h => absurd h (by decide)) (by decide) (fun h => absurd rfl h)
      rcases isCell_s yS_ly (gN0 hN) (n2 c.toInt.toNat) with ⟨q1, q2⟩ | ⟨q1, q2⟩
      · rcases isIn_r (y := yS) (M := wI N 73 4 0) (a := 0) (b := 40) z64.1 z64.2.2.2.2.2.1 (n2 d.toInt.toNat) with ⟨w1, w2⟩ | ⟨w1, w2⟩
        · exact then_m yS_ly (FRM_0 hN) c2 d2 q2 w2
        · exact absurd (by rw [← d1]; exact hd) w1
      · exact absurd (by rw [← c1]; exact hc) q1
    · refine chk_g yS_ly 2 2 0 (thr_c (by decide) ?_) (fun N r h => MEQ_wL h) (fun N hN => thr_m (k := 2) rfl (by decide) ?_) (by decide) (fun h => absurd h (by decide)) (fun _ _ => rfl) (by decide) (by decide)
      · unfold f_X11_then
        have e2 : f_X11_needWithin yS 1 d (0 : Int32) (40 : Int32) MS = _ := e2
        rw [gK_t (k_1 yS_ly), e, cx_s, e2, cx_2]
      · unfold f_X12_then
        rcases isCell_s yS_ly (gN0 hN) c with ⟨q1, q2⟩ | ⟨q1, q2⟩
        · rcases isIn_r (y := yS) (M := wI N 73 4 0) (a := 0) (b := 40) z64.1 z64.2.2.2.2.2.1 d with ⟨w1, w2⟩ | ⟨w1, w2⟩
          · exact absurd w1 hd
          · rw [gK_t (k_73 yS_ly), lT_s, q2, cp_s, bR_f (by decide), w2, cp_s, bR_t rfl, fail_s yS_ly, c0_s]
        · exact absurd hc q1
  · refine chk_g yS_ly 1 1 0 (thr_c (by decide) ?_) (fun N r h => MEQ_wL h) (fun N hN => thr_m (k := 1) rfl (by decide) ?_) (by decide) (fun _ _ => rfl) (fun h => absurd h (by decide)) (by decide) (by decide)
    · unfold f_X11_then
      rw [gK_t (k_1 yS_ly), e, cx_1]
    · unfold f_X12_then
      rcases isCell_s yS_ly (gN0 hN) c with ⟨q1, q2⟩ | ⟨q1, q2⟩
      · exact absurd q1 hc
      · rw [gK_t (k_73 yS_ly), lT_s, q2, cp_s, bR_t rfl, fail_s yS_ly, c0_s]
theorem op_first (c : Int32) : chkL (f_L_first yS 1 c 110 MS) (f_X12_first yS 73 c) = true := by
  unfold f_L_first
  rcases needCell_s yS_ly g0 c with ⟨hc, e⟩ | ⟨hc, e⟩
  · obtain ⟨c1, c2⟩ := inN_n hc
    rw [c1] at e ⊢
    refine chk_g yS_ly 0 0 (-1) (wp_mono (first_c yS_ly FRC_S e) (fun o h => ⟨h.1, h.2.1, MEQ_x h.2.2 (by decide)⟩)) (fun N r h => MEQ_wL h) (fun N hN => ?_) (fun _ => rfl) (fun h => absurd h (by decide)) (fun h => absurd h (by decide)) (by decide) (fun h => absurd rfl h)
    rcases isCell_s yS_ly (gN0 hN) (n2 c.toInt.toNat) with ⟨q1, q2⟩ | ⟨q1, q2⟩
    · exact first_m yS_ly (FRM_0 hN) q2
    · exact absurd (by rw [← c1]; exact hc) q1
  · refine chk_g yS_ly 1 1 0 (thr_c (by decide) ?_) (fun N r h => MEQ_wL h) (fun N hN => thr_m (k := 1) rfl (by decide) ?_) (by decide) (fun _ _ => rfl) (fun h => absurd h (by decide)) (by decide) (by decide)
    · unfold f_X11_first
      rw [gK_t (k_1 yS_ly), e, cx_1]
    · unfold f_X12_first
      rcases isCell_s yS_ly (gN0 hN) c with ⟨q1, q2⟩ | ⟨q1, q2⟩
      · exact absurd q1 hc
      · rw [gK_t (k_73 yS_ly), lT_s, q2, cp_s, bR_t rfl, fail_s yS_ly, c0_s]
theorem op_sky (d w : Int32) : chkL (f_L_sky yS 1 d w 110 MS) (f_X12_sky yS 73 d w) = true := by
  unfold f_L_sky
  rcases needWhat_s (y := yS) (M := MS) (m := 4) (by decide) w with ⟨hc, e⟩ | ⟨hc, e⟩
  · have hc' : inR 0 4 w := ⟨hc.1, by have := hc.2; omega⟩
    rcases needWithin_s (y := yS) (M := MS) (a := 0) (b := 40) (by decide) (by decide) d with ⟨hd, e2⟩ | ⟨hd, e2⟩
    · obtain ⟨c1, c2⟩ := inN_n hc
      obtain ⟨d1, -, d2⟩ := inR_n hd
      rw [c1] at e ⊢
      rw [d1] at e2 ⊢
      refine chk_g yS_ly 0 0 (skyR w.toInt.toNat) (wp_mono (sky_c yS_ly FRC_S c2 d2 e e2) (fun o h => ⟨h.1, h.2.1, MEQ_x h.2.2 (by decide)⟩)) (fun N r h => MEQ_wL h) (fun N hN => ?_) (fun _ => rfl) (fun h => absurd h (by decide)) (fun h => absurd h (by decide)) (by decide) (fun h => absurd rfl h)
      rcases isIn_r (y := yS) (M := wI N 73 4 0) (a := 0) (b := 4) z64.1 z64.2.2.2.1 (n2 w.toInt.toNat) with ⟨q1, q2⟩ | ⟨q1, q2⟩
      · rcases isIn_r (y := yS) (M := wI N 73 4 0) (a := 0) (b := 40) z64.1 z64.2.2.2.2.2.1 (n2 d.toInt.toNat) with ⟨w1, w2⟩ | ⟨w1, w2⟩
        · exact sky_m yS_ly (FRM_0 hN) c2 d2 q2 w2
        · exact absurd (by rw [← d1]; exact hd) w1
      · exact absurd (by rw [← c1]; exact hc') q1
    · refine chk_g yS_ly 2 2 0 (thr_c (by decide) ?_) (fun N r h => MEQ_wL h) (fun N hN => thr_m (k := 2) rfl (by decide) ?_) (by decide) (fun h => absurd h (by decide)) (fun _ _ => rfl) (by decide) (by decide)
      · unfold f_X11_sky
        have e : f_X11_needWhat yS 1 w (4 : Int32) MS = _ := e
        have e2 : f_X11_needWithin yS 1 d (0 : Int32) (40 : Int32) MS = _ := e2
        rw [gK_t (k_1 yS_ly), e, cx_s, e2, cx_2]
      · unfold f_X12_sky
        rcases isIn_r (y := yS) (M := wI N 73 4 0) (a := 0) (b := 4) z64.1 z64.2.2.2.1 w with ⟨q1, q2⟩ | ⟨q1, q2⟩
        · rcases isIn_r (y := yS) (M := wI N 73 4 0) (a := 0) (b := 40) z64.1 z64.2.2.2.2.2.1 d with ⟨w1, w2⟩ | ⟨w1, w2⟩
          · exact absurd w1 hd
          · rw [gK_t (k_73 yS_ly), lT_s, q2, cp_s, bR_f (by decide), w2, cp_s, bR_t rfl, fail_s yS_ly, c0_s]
        · exact absurd hc' q1
  · refine chk_g yS_ly 1 1 0 (thr_c (by decide) ?_) (fun N r h => MEQ_wL h) (fun N hN => thr_m (k := 1) rfl (by decide) ?_) (by decide) (fun _ _ => rfl) (fun h => absurd h (by decide)) (by decide) (by decide)
    · unfold f_X11_sky
      have e : f_X11_needWhat yS 1 w (4 : Int32) MS = _ := e
      rw [gK_t (k_1 yS_ly), e, cx_1]
    · unfold f_X12_sky
      rcases isIn_r (y := yS) (M := wI N 73 4 0) (a := 0) (b := 4) z64.1 z64.2.2.2.1 w with ⟨q1, q2⟩ | ⟨q1, q2⟩
      · exact absurd ⟨q1.1, by have := q1.2; omega⟩ hc
      · rw [gK_t (k_73 yS_ly), lT_s, q2, cp_s, bR_t rfl, fail_s yS_ly, c0_s]
theorem op_overdone (d : Int32) : chkL (f_L_overdone yS 1 d 110 MS) (f_X12_overdone yS 73 d) = true := by
  unfold f_L_overdone
  rcases needWithin_s (y := yS) (M := MS) (a := 1) (b := 40) (by decide) (by decide) d with ⟨hd, e2⟩ | ⟨hd, e2⟩
  · obtain ⟨d1, -, d2⟩ := inR_n hd
    rw [d1] at e2 ⊢
    refine chk_g yS_ly 0 0 0 (wp_mono (over_c yS_ly FRC_S d2 e2) (fun o h => ⟨h.1, h.2.1, MEQ_x h.2.2 (by decide)⟩)) (fun N r h => MEQ_wL h) (fun N hN => ?_) (fun _ => rfl) (fun h => absurd h (by decide)) (fun h => absurd h (by decide)) (by decide) (fun h => absurd rfl h)
    rcases isIn_r (y := yS) (M := wI N 73 4 0) (a := 1) (b := 40) z64.2.1 z64.2.2.2.2.2.1 (n2 d.toInt.toNat) with ⟨w1, w2⟩ | ⟨w1, w2⟩
    · exact over_m yS_ly (FRM_0 hN) d2 w2
    · exact absurd (by rw [← d1]; exact hd) w1
  · refine chk_g yS_ly 2 1 0 (thr_c (by decide) ?_) (fun N r h => MEQ_wL h) (fun N hN => thr_m (k := 1) rfl (by decide) ?_) (by decide) (fun h => absurd h (by decide)) (fun _ _ => rfl) (by decide) (by decide)
    · unfold f_X11_overdone
      have e2 : f_X11_needWithin yS 1 d (1 : Int32) (40 : Int32) MS = _ := e2
      rw [gK_t (k_1 yS_ly), e2, cx_2]
    · unfold f_X12_overdone
      rcases isIn_r (y := yS) (M := wI N 73 4 0) (a := 1) (b := 40) z64.2.1 z64.2.2.2.2.2.1 d with ⟨w1, w2⟩ | ⟨w1, w2⟩
      · exact absurd w1 hd
      · rw [gK_t (k_73 yS_ly), lT_s, w2, cp_s, bR_t rfl, fail_s yS_ly, c0_s]
theorem op_band (d : Int32) : chkL (f_L_band yS 1 d 110 MS) (f_X12_band yS 73 d) = true := by
  unfold f_L_band
  rcases needWithin_s (y := yS) (M := MS) (a := 0) (b := 40) (by decide) (by decide) d with ⟨hd, e2⟩ | ⟨hd, e2⟩
  · obtain ⟨d1, -, d2⟩ := inR_n hd
    rw [d1] at e2 ⊢
    refine chk_g yS_ly 0 0 0 (wp_mono (band_c yS_ly FRC_S d2 e2) (fun o h => ⟨h.1, h.2.1, MEQ_x h.2.2 (by decide)⟩)) (fun N r h => MEQ_wL h) (fun N hN => ?_) (fun _ => rfl) (fun h => absurd h (by decide)) (fun h => absurd h (by decide)) (by decide) (fun h => absurd rfl h)
    rcases isIn_r (y := yS) (M := wI N 73 4 0) (a := 0) (b := 40) z64.1 z64.2.2.2.2.2.1 (n2 d.toInt.toNat) with ⟨w1, w2⟩ | ⟨w1, w2⟩
    · exact band_m yS_ly (FRM_0 hN) d2 w2
    · exact absurd (by rw [← d1]; exact hd) w1
  · refine chk_g yS_ly 2 1 0 (thr_c (by decide) ?_) (fun N r h => MEQ_wL h) (fun N hN => thr_m (k := 1) rfl (by decide) ?_) (by decide) (fun h => absurd h (by decide)) (fun _ _ => rfl) (by decide) (by decide)
    · unfold f_X11_band
      have e2 : f_X11_needWithin yS 1 d (0 : Int32) (40 : Int32) MS = _ := e2
      rw [gK_t (k_1 yS_ly), e2, cx_2]
    · unfold f_X12_band
      rcases isIn_r (y := yS) (M := wI N 73 4 0) (a := 0) (b := 40) z64.1 z64.2.2.2.2.2.1 d with ⟨w1, w2⟩ | ⟨w1, w2⟩
      · exact absurd w1 hd
      · rw [gK_t (k_73 yS_ly), lT_s, w2, cp_s, bR_t rfl, fail_s yS_ly, c0_s]
theorem op_spent : chk1 (f_X11_spent yS 1 MS) (f_X12_spent yS 73) = true :=
  chk1_of (R := -1) (FR := MEQ) (wp_mono (spent_c yS_ly FRC_S) (fun o h => ⟨h.1, MEQ_x h.2 (by decide)⟩)) (fun N hN => spent_m yS_ly (FRM_0 hN))
/-! coast, patches -/
theorem coast_t {y : Lay} (hy : LY y) {M : Mem} (h : M.1 2 1 = 0) {c : Int32} (hc : ¬ c = 0) : f_X11_coast y 1 c M = some (2, 0, M) := by
  unfold f_X11_coast
  rw [jn_s]
  by_cases h1 : c < 0
  · rw [bR_t h1]
  · rw [bR_f h1]
    simp only [gK_t (k_1 hy), gN_t (r := 1) (by decide), r_1_0 hy, r_1_1 hy, r_1_2 hy, r_1_3 hy, r_1_4 hy, r_1_5 hy, r_1_6 hy, r_1_7 hy, r_1_8 hy, r_1_9 hy, r_1_10 hy, gK_t (k_2 hy), gN_t (r := 2) (by decide), r_2_0 hy, h]
    have h2 : ¬ c ≤ 0 := fun q => hc (by
      rw [i_lt] at h1
      rw [i_le] at q
      rw [i_eq]
      omega)
    rw [bR_f h2]
theorem coast_tM {y : Lay} (hy : LY y) {M : Mem} (h : M.1 73 15 = 0) {c : Int32} (hc : ¬ c = 0) : f_X12_coast y 73 c M = some (0, sr (wI M 73 4 0) 73 (up ((wI M 73 4 0).1 73) 4 1)) := by
  unfold f_X12_coast
  have h15 : (wI M 73 4 0).1 73 15 = 0 := by rw [wI_sr, sr_ap, up_ne (by decide), h]
  rw [gK_t (k_73 hy), lT_s, jn_s, fail_s hy, c0_s]
  by_cases h1 : c < 0
  · rw [bR_t h1]
  · rw [bR_f h1, h15]
    have h2 : ¬ c ≤ 0 := fun q => hc (by
      rw [i_lt] at h1
      rw [i_le] at q
      rw [i_eq]
      omega)
    rw [bR_f h2]
theorem op_coast (c : Int32) : chkL (f_L_coast yS 1 c 110 MS) (f_X12_coast yS 73 c) = true := by
  by_cases hc : c = 0
  · subst hc
    exact ev_coast
  · unfold f_L_coast
    exact chk_g yS_ly 2 1 0 (thr_c (by decide) (coast_t yS_ly (rwB_get e_2 (k := 1) (by decide)) hc)) (fun N r h => MEQ_wL h) (fun N hN => thr_m (k := 1) rfl (by decide) (coast_tM yS_ly (by rw [hN 73 (by decide)]; exact g_73 (k := 15) (by decide)) hc)) (by decide) (fun h => absurd h (by decide)) (fun _ _ => rfl) (by decide) (by decide)
