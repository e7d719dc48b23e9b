/-! ===== patches by any difference, senders, the tape ===== -/
theorem bl0 {y : Lay} (hy : LY y) {M : Mem} (hz : M.1 38 = zr) (v : Int32) : f_X8_blueOf y 37 v M = some 0 := by
  unfold f_X8_blueOf
  rw [jn_s, jn_s]
  by_cases h1 : v < 0
  · rw [bR_t h1]
  · rw [bR_f h1]
    by_cases h2 : (30 : Int32) ≤ v
    · rw [bR_t h2]
    · rw [bR_f h2]
      simp only [gK_t (k_37 hy), gN_t (r := 37) (by decide), r_37_0 hy, r_37_1 hy, r_37_2 hy, r_37_3 hy, r_37_4 hy, r_37_5 hy, r_37_6 hy, gN_t (r := 38) (by decide)]
      rw [gA_t (k_38 hy) (fun q => ?_), hz]
      · rfl
      · rcases q with q | q
        · exact h1 q
        · rw [i_lt] at h1
          rw [i_le] at h2
          rw [i_nat] at q
          have z : (0 : Int32).toInt = 0 := rfl
          have z30 : (30 : Int32).toInt = 30 := rfl
          rw [z] at h1
          rw [z30] at h2
          omega
theorem off_0 {off : Int32} (h : inR 0 99 off) : ¬ off < jabs (0 - 0) := by
  intro q
  have e : jabs (0 - 0) = 0 := by decide
  rw [e, i_lt] at q
  have z : (0 : Int32).toInt = 0 := rfl
  rw [z] at q
  have := h.1
  omega
theorem z_off : inR 0 99 0 := by
  have z : (0 : Int32).toInt = 0 := rfl
  unfold inR
  rw [z]
  omega
theorem bw_off {y : Lay} (hy : LY y) {M : Mem} (hz : M.1 38 = zr) {off : Int32} (h : inR 0 99 off) (p : Int32) : f_X8_besideWithin y 37 p off M = f_X8_besideWithin y 37 p 0 M := by
  have h1 := off_0 h
  have h2 := off_0 z_off
  unfold f_X8_besideWithin
  simp only [bl0 hy hz, cp_s, bR_f h1, bR_f h2]
theorem pb_off {y : Lay} (hy : LY y) {M : Mem} (hz : M.1 38 = zr) {off : Int32} (h : inR 0 99 off) (c : Int32) : f_X8_patchBits y 37 c off M = f_X8_patchBits y 37 c 0 M := by
  unfold f_X8_patchBits
  simp only [bw_off hy hz h]
theorem po_off {y : Lay} (hy : LY y) {M : Mem} (hz : M.1 87 = zr) {off : Int32} (h : inR 0 99 off) (c : Int32) : f_X12_patchOf y 73 c off M = f_X12_patchOf y 73 c 0 M := by
  have h1 := off_0 h
  have h2 := off_0 z_off
  unfold f_X12_patchOf
  simp only [gK_t (k_73 hy), gN_t (r := 73) (by decide), r_73_0 hy, r_73_1 hy, r_73_2 hy, r_73_5 hy, r_73_6 hy, r_73_7 hy, r_73_8 hy, r_73_9 hy, r_73_10 hy, r_73_11 hy, r_73_12 hy, r_73_13 hy, r_73_14 hy, r_73_28 hy, r_73_29 hy, r_73_30 hy, r_73_38 hy, r_73_39 hy, r_73_40 hy, r_73_42 hy, r_73_43 hy, r_73_44 hy, r_73_45 hy, r_73_46 hy, r_73_47 hy, r_73_48 hy, r_73_49 hy, r_73_50 hy, r_73_51 hy, r_73_53 hy, r_73_58 hy, r_73_59 hy, r_73_60 hy, r_73_61 hy, r_73_62 hy, r_73_63 hy, gN_t (r := 87) (by decide), hz, zr, bR_f h1, bR_f h2]
theorem chk_congr {x : Option (Int32 × Mem)} {m m' : Mem → Option (Int32 × Mem)} (h : ∀ r M1, x = some (r, M1) → m M1 = m' M1) : chkL x m = chkL x m' := by
  unfold chkL
  cases x with
  | none => rfl
  | some o =>
    obtain ⟨r, M1⟩ := o
    dsimp only
    rw [h r M1 rfl]
theorem patch_x {y : Lay} (hy : LY y) {M : Mem} {c off : Int32} (e : f_X11_needCell y 1 c M = some (0, 0, M)) (e2 : f_X11_needWithin y 1 off (n2 0) (n2 99) M = some (0, 0, M)) : f_L_patch y 1 c off 110 M = cp (f_X8_patchBits y 37 c off M) fun r => some (0, wL M 110 0 r.toInt64) := by
  unfold f_L_patch f_X11_patch
  have e2 : f_X11_needWithin y 1 off (0 : Int32) (99 : Int32) M = _ := e2
  rw [gK_t (k_1 hy), gK_t (k_1 hy), e, cx_s, e2, cx_s]
  simp only [gK_t (k_1 hy), gN_t (r := 1) (by decide), r_1_0 hy, r_1_1 hy, r_1_2 hy, r_1_3 hy, r_1_4 hy, r_1_5 hy, r_1_6 hy, r_1_7 hy, r_1_8 hy, r_1_9 hy, r_1_10 hy, gK_t (k_30 hy), gN_t (r := 30) (by decide), r_30_0 hy, r_30_1 hy, r_30_2 hy, r_30_3 hy, r_30_4 hy, r_30_5 hy, gK_t (k_37 hy), gN_t (r := 37) (by decide), r_37_0 hy, r_37_1 hy, r_37_2 hy, r_37_3 hy, r_37_4 hy, r_37_5 hy, r_37_6 hy]
  cases f_X8_patchBits y 37 c off M with
  | none => rfl
  | some r =>
    show gA y 110 3 (0 : Int32) (lt (wL M 110 (0 : Int32).toNatClampNeg (r.toInt64)) fun (M7 : Mem) => some ((0 : Int32), M7)) = _
    rw [gA_t (k_110 hy) (by decide)]
    rfl
theorem patch_m {y : Lay} (hy : LY y) {N : Mem} (hz : N.1 87 = zr) {c off : Int32} (e1 : f_X12_isCell y 73 c (wI N 73 4 0) = some 1) (h : inR 0 99 off) : f_X12_patch y 73 c off N = f_X12_patch y 73 c 0 N := by
  unfold f_X12_patch
  have hz' : (wI N 73 4 0).1 87 = zr := by rw [wI_sr, sr_ne (by decide), hz]
  rw [gK_t (k_73 hy), gK_t (k_73 hy), lT_s, lT_s, e1, cp_s, cp_s, bR_f (by decide), bR_f (by decide)]
  rcases isIn_r (y := y) (M := wI N 73 4 0) (a := 0) (b := 99) z64.1 z64.2.2.2.2.2.2.2 off with ⟨q1, q2⟩ | ⟨q1, q2⟩
  · rcases isIn_r (y := y) (M := wI N 73 4 0) (a := 0) (b := 99) z64.1 z64.2.2.2.2.2.2.2 0 with ⟨w1, w2⟩ | ⟨w1, w2⟩
    · rw [q2, w2, cp_s, cp_s, jn_s, jn_s, bR_f (by decide), bR_f (by decide), po_off hy hz' h]
    · exact absurd z_off w1
  · exact absurd h q1
theorem op_patch (c off : Int32) : chkL (f_L_patch yS 1 c off 110 MS) (f_X12_patch yS 73 c off) = true := by
  rcases needCell_s yS_ly g0 c with ⟨hc, e⟩ | ⟨hc, e⟩
  · rcases needWithin_s (y := yS) (M := MS) (a := 0) (b := 99) (by decide) (by decide) off with ⟨hd, e2⟩ | ⟨hd, e2⟩
    · rcases needWithin_s (y := yS) (M := MS) (a := 0) (b := 99) (by decide) (by decide) 0 with ⟨hz, e3⟩ | ⟨hz, e3⟩
      · have ev := ev_patch ⟨c.toInt.toNat, (inN_n hc).2⟩
        dsimp only at ev
        rw [← (inN_n hc).1] at ev
        rw [patch_x yS_ly e e2, pb_off yS_ly m_38 hd c, ← patch_x yS_ly e e3]
        rw [← ev]
        refine chk_congr (fun r M1 h1 => ?_)
        rw [patch_x yS_ly e e3] at h1
        cases hP : f_X8_patchBits yS 37 c 0 MS with
        | none => rw [hP] at h1; cases h1
        | some v =>
          rw [hP] at h1
          cases h1
          have hN : MEQ (wL MS 110 0 v.toInt64) := MEQ_wL MEQ_S
          rcases isCell_s yS_ly (gN0 hN) c with ⟨q1, q2⟩ | ⟨q1, q2⟩
          · exact patch_m yS_ly (mov_l (mov_S hN)).1 q2 hd
          · exact absurd hc q1
      · exact absurd z_off hz
    · unfold f_L_patch
      refine chk_g yS_ly 2 2 0 (thr_c (by decide) ?_) (fun N r h => MEQ_wL h) (fun N hN => thr_m (k := 2) rfl (by decide) ?_) (by decide) (fun h => absurd h (by decide)) (fun _ _ => rfl) (by decide) (by decide)
      · unfold f_X11_patch
        have e2 : f_X11_needWithin yS 1 off (0 : Int32) (99 : Int32) MS = _ := e2
        rw [gK_t (k_1 yS_ly), e, cx_s, e2, cx_2]
      · unfold f_X12_patch
        rcases isCell_s yS_ly (gN0 hN) c with ⟨q1, q2⟩ | ⟨q1, q2⟩
        · rcases isIn_r (y := yS) (M := wI N 73 4 0) (a := 0) (b := 99) z64.1 z64.2.2.2.2.2.2.2 off with ⟨w1, w2⟩ | ⟨w1, w2⟩
          · exact absurd w1 hd
          · rw [gK_t (k_73 yS_ly), lT_s, q2, cp_s, bR_f (by decide), w2, cp_s, jn_s, bR_t rfl, fail_s yS_ly, c0_s]
        · exact absurd hc q1
  · unfold f_L_patch
    refine chk_g yS_ly 1 1 0 (thr_c (by decide) ?_) (fun N r h => MEQ_wL h) (fun N hN => thr_m (k := 1) rfl (by decide) ?_) (by decide) (fun _ _ => rfl) (fun h => absurd h (by decide)) (by decide) (by decide)
    · unfold f_X11_patch
      rw [gK_t (k_1 yS_ly), e, cx_1]
    · unfold f_X12_patch
      rcases isCell_s yS_ly (gN0 hN) c with ⟨q1, q2⟩ | ⟨q1, q2⟩
      · exact absurd q1 hc
      · rw [gK_t (k_73 yS_ly), lT_s, q2, cp_s, bR_t rfl, fail_s yS_ly, c0_s]
/-! patches -/
theorem patches_off {y : Lay} (hy : LY y) {M : Mem} (hz : M.1 38 = zr) {off : Int32} (h : inR 0 99 off) (e : f_X11_needWithin y 1 off (n2 0) (n2 99) M = some (0, 0, M)) (e3 : f_X11_needWithin y 1 0 (n2 0) (n2 99) M = some (0, 0, M)) : f_X11_patches y 1 off M = f_X11_patches y 1 0 M := by
  unfold f_X11_patches
  have e : f_X11_needWithin y 1 off (0 : Int32) (99 : Int32) M = _ := e
  have e3 : f_X11_needWithin y 1 0 (0 : Int32) (99 : Int32) M = _ := e3
  rw [e, e3]
  simp only [gK_t (k_1 hy), gN_t (r := 1) (by decide), r_1_0 hy, r_1_1 hy, r_1_2 hy, r_1_3 hy, r_1_4 hy, r_1_5 hy, r_1_6 hy, r_1_7 hy, r_1_8 hy, r_1_9 hy, r_1_10 hy, gK_t (k_30 hy), gN_t (r := 30) (by decide), r_30_0 hy, r_30_1 hy, r_30_2 hy, r_30_3 hy, r_30_4 hy, r_30_5 hy, cx_s, pb_off hy hz h]
theorem patches_M {y : Lay} (hy : LY y) {M : Mem} (e3 : f_X11_needWithin y 1 0 (n2 0) (n2 99) M = some (0, 0, M)) : pc (f_X11_patches y 1 0 M) (fun o => o.2.2 = M) := by
  unfold f_X11_patches
  have e3 : f_X11_needWithin y 1 0 (0 : Int32) (99 : Int32) M = _ := e3
  rw [gK_t (k_1 hy), e3, cx_s]
  refine fix_i (P := fun (f : Int32 → Int32 → Int32 → Option (Nat × Int32 × Mem)) => ∀ a b c, pc (f a b c) (fun o => o.2.2 = M)) (fun _ _ _ => pc_none) (fun s hs a b c => ?_) FUEL _ _ _
  simp only [jn_s, lT_s]
  repeat' (first
    | with_reducible refine pc_gK (fun _ => ?_)
    | with_reducible refine pc_gN ?_
    | with_reducible refine pc_br ?_ ?_
    | with_reducible refine pc_cp (fun _ => ?_)
    | with_reducible exact hs _ _ _
    | with_reducible exact pc_some rfl)
theorem patches_mo {y : Lay} (hy : LY y) {N : Mem} (hz : N.1 87 = zr) {off : Int32} (h : inR 0 99 off) : f_X12_patches y 73 off N = f_X12_patches y 73 0 N := by
  unfold f_X12_patches
  have hz' : (wI N 73 4 0).1 87 = zr := by rw [wI_sr, sr_ne (by decide), hz]
  rcases isIn_r (y := y) (M := wI N 73 4 0) (a := 0) (b := 99) z64.1 z64.2.2.2.2.2.2.2 off with ⟨q1, q2⟩ | ⟨q1, q2⟩
  · rcases isIn_r (y := y) (M := wI N 73 4 0) (a := 0) (b := 99) z64.1 z64.2.2.2.2.2.2.2 0 with ⟨w1, w2⟩ | ⟨w1, w2⟩
    · rw [gK_t (k_73 hy), gK_t (k_73 hy), lT_s, lT_s, q2, w2, cp_s, cp_s, bR_f (by decide), bR_f (by decide)]
      simp only [po_off hy hz' h]
    · exact absurd z_off w1
  · exact absurd h q1
theorem Lpatches_M {y : Lay} (hy : LY y) {M : Mem} {x : Option (Nat × Int32 × Mem)} (hM : pc x (fun o => o.2.2 = M)) {r : Int32} {M1 : Mem} (h1 : ct x (fun (_ : Mem) => none) (fun (M5 : Mem) => some ((1 : Int32), M5)) (fun (r2 : Int32) (M3 : Mem) => gA y 110 3 (0 : Int32) (lt (wL M3 110 (0 : Int32).toNatClampNeg (r2.toInt64)) fun (M7 : Mem) => some ((0 : Int32), M7))) = some (r, M1)) : M1.1 = M.1 := by
  cases hx : x with
  | none => rw [hx] at h1; cases h1
  | some o =>
    have hm := hM o hx
    rw [hx] at h1
    obtain ⟨e, v, M2⟩ := o
    have hm : M2 = M := hm
    subst hm
    match e, h1 with
    | 0, h1 =>
      have h1 : gA y 110 3 (0 : Int32) (lt (wL M2 110 (0 : Int32).toNatClampNeg (v.toInt64)) fun (M7 : Mem) => some ((0 : Int32), M7)) = some (r, M1) := h1
      rw [gA_t (k_110 hy) (by decide), lT_s] at h1
      have h1 := Option.some.inj h1
      have h1 : wL M2 110 (0 : Int32).toNatClampNeg v.toInt64 = M1 := congrArg Prod.snd h1
      rw [← h1]
      rfl
    | 1, h1 => cases h1
    | e + 2, h1 =>
      have h1 : some ((1 : Int32), M2) = some (r, M1) := h1
      have h1 := Option.some.inj h1
      have h1 : M2 = M1 := congrArg Prod.snd h1
      rw [← h1]
theorem op_patches (off : Int32) : chkL (f_L_patches yS 1 off 110 MS) (f_X12_patches yS 73 off) = true := by
  rcases needWithin_s (y := yS) (M := MS) (a := 0) (b := 99) (by decide) (by decide) off with ⟨hd, e2⟩ | ⟨hd, e2⟩
  · rcases needWithin_s (y := yS) (M := MS) (a := 0) (b := 99) (by decide) (by decide) 0 with ⟨hz, e3⟩ | ⟨hz, e3⟩
    · have ev := ev_patches
      have hM := patches_M yS_ly e3
      have hx : f_L_patches yS 1 off 110 MS = f_L_patches yS 1 0 110 MS := by
        unfold f_L_patches
        rw [patches_off yS_ly m_38 hd e2 e3]
      rw [hx, ← ev]
      refine chk_congr (fun r M1 h1 => ?_)
      unfold f_L_patches at h1
      rw [gK_t (k_1 yS_ly)] at h1
      have e1 := Lpatches_M yS_ly hM h1
      have h87 : M1.1 87 = zr := by
        rw [e1]
        exact (mov_l (mov_S MEQ_S)).1
      exact patches_mo yS_ly h87 hd
    · exact absurd z_off hz
  · unfold f_L_patches
    refine chk_g yS_ly 2 1 0 (thr_c (by decide) ?_) (fun N r h => MEQ_wL h) (fun N hN => thr_m (k := 1) rfl (by decide) ?_) (by decide) (fun h => absurd h (by decide)) (fun _ _ => rfl) (by decide) (by decide)
    · unfold f_X11_patches
      have e2 : f_X11_needWithin yS 1 off (0 : Int32) (99 : Int32) MS = _ := e2
      rw [gK_t (k_1 yS_ly), e2, cx_2]
    · unfold f_X12_patches
      rcases isIn_r (y := yS) (M := wI N 73 4 0) (a := 0) (b := 99) z64.1 z64.2.2.2.2.2.2.2 off with ⟨w1, w2⟩ | ⟨w1, w2⟩
      · exact absurd w1 hd
      · rw [gK_t (k_73 yS_ly), lT_s, w2, cp_s, bR_t rfl, fail_s yS_ly, c0_s]
