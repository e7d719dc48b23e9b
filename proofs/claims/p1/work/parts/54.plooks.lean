/-! ===== looking ahead from a new object ===== -/
def FRC (M : Mem) : Prop := COA K0 M ∧ skV M 37 38 41 42 = SD 0 ∧ ZT M
def FRM (M : Mem) : Prop := COM K0 M ∧ moV M = SD 0
theorem FRC_S : FRC MS := ⟨coa_S, skv_S, zt_S⟩
theorem FRM_0 {N : Mem} (h : MEQ N) : FRM (wI N 73 4 0) := ⟨com_0 h, mov_0 h⟩
def LC (d : Nat) (M0 M : Mem) : Prop := Eqx [58, 59, 60, 61, 62, 63] M0 M ∧ skV M 58 59 62 63 = SD (n2 d)
theorem LC.coa {d : Nat} {M0 M : Mem} (hF : FRC M0) (h : LC d M0 M) : COA K0 M := hF.1.frame (h.1.2 4 (by decide)) (h.1.2 9 (by decide))
theorem la {y : Lay} (hy : LY y) {M : Mem} (hF : FRC M) {d : Nat} (hd : d ≤ 40) : wp (f_X11_lookAhead y 1 (n2 d) M) (fun o => LC d M o.2) := by
  refine wp_mono (lookAhead_v hy hF.1 (by rw [hF.2.1]; exact sok_d 0) hF.2.2 hd) (fun o h => ⟨h.2.1, ?_⟩)
  rw [h.2.2, hF.2.1, pds_z]
theorem la_d {y : Lay} (hy : LY y) {M0 M : Mem} (hF : FRC M0) {d : Nat} (h : LC d M0 M) : wp (f_X8_passDay y 58 M) (fun o => LC (d + 1) M0 o.2) := by
  refine wp_mono (passDay_v58 hy (h.coa hF)) (fun o q => ⟨h.1.trans (q.2.1.mono (by decide)), ?_⟩)
  rw [q.2.2.1, h.2, pd_z, n2_s]
def LK (d : Nat) (N0 N : Mem) : Prop := Eqx [73, 87, 92, 93] N0 N ∧ COM K0 N ∧ moV N = SD (n2 d) ∧ PKD (N.1 93) 0 (SD 0) ∧ N.1 73 4 = 0
theorem lk_p {y : Lay} (hy : LY y) {N : Mem} (hF : FRM N) (h4 : N.1 73 4 = 0) : wp (f_X12_pack y 73 93 0 N) (fun o => LK 0 N o.2) := by
  refine wp_mono (pack_93 hy (f := 0) (by decide)) (fun o h => ?_)
  obtain ⟨-, q2, q3, -⟩ := h
  have em : moV o.2 = moV N := by
    unfold moV
    rw [q2.2 73 (by decide), q2.2 87 (by decide), q2.2 88 (by decide), q2.2 85 (by decide)]
  refine ⟨q2.mono (by decide), hF.1.frame (q2.2 77 (by decide)), by rw [em, hF.2]; rfl, ?_, by rw [q2.2 73 (by decide), h4]⟩
  rw [hF.2] at q3
  exact q3
theorem lk_d {y : Lay} (hy : LY y) {N0 N : Mem} {d : Nat} (h : LK d N0 N) : wp (f_X12_aDay y 73 N) (fun o => LK (d + 1) N0 o.2) := by
  refine wp_mono (aDay_v hy h.2.1 (by rw [h.2.2.1]; exact sok_d _)) (fun o q => ?_)
  obtain ⟨-, q2, q3, q4⟩ := q
  refine ⟨h.1.trans (q2.mono (by decide)), h.2.1.frame (q2.2 77 (by decide)), by rw [q3, h.2.2.1, pd_z, n2_s], by rw [q2.2 93 (by decide)]; exact h.2.2.2.1, ?_⟩
  rw [q4 4 (by decide) (by decide) (by decide) (by decide)]
  exact h.2.2.2.2
theorem lk_g {y : Lay} (hy : LY y) {N0 N : Mem} {d : Nat} (hd : d ≤ 40) (h : LK 0 N0 N) : wp (f_X12_goOn y 73 (n2 d) N) (fun o => LK d N0 o.2) := by
  refine wp_mono (goOn_v hy h.2.1 (by rw [h.2.2.1]; exact sok_d _) (by omega)) (fun o q => ?_)
  obtain ⟨-, q2, q3, q4⟩ := q
  refine ⟨h.1.trans (q2.mono (by decide)), h.2.1.frame (q2.2 77 (by decide)), ?_, by rw [q2.2 93 (by decide)]; exact h.2.2.2.1, ?_⟩
  · rw [q3, h.2.2.1]
    exact pds_z d
  · rw [q4 4 (by decide) (by decide) (by decide) (by decide)]
    exact h.2.2.2.2
theorem lk_u {y : Lay} (hy : LY y) {N0 N : Mem} {d : Nat} (h : LK d N0 N) : wp (f_X12_unpack y 73 93 0 N) (fun o => o.2.1 73 4 = n2 0 ∧ o.2.1 73 41 = 0 ∧ o.2.2 = N0.2) := by
  have hm := mov_l h.2.2.1
  refine wp_mono (unpack_93 hy (f := 0) (by decide) h.2.2.2.1 (fun k _ => by rw [hm.1]; rfl) (fun k _ => by rw [hm.2.1]; rfl)) (fun o q => ?_)
  obtain ⟨-, q2, -, q4⟩ := q
  refine ⟨?_, ?_, q2.1.trans h.1.1⟩
  · rw [q4 4 (by decide)]
    exact h.2.2.2.2
  · rw [q4 41 (by decide)]
    exact hm.2.2.2.2.2.2
theorem n4_0 {N : Mem} : (wI N 73 4 0).1 73 4 = 0 := by rw [wI_sr, sr_ap, up_eq]
/-! then -/
theorem then_c {y : Lay} (hy : LY y) {M : Mem} (hF : FRC M) {c d : Nat} (hc : c < 9) (hd : d ≤ 40) (e1 : f_X11_needCell y 1 (n2 c) M = some (0, 0, M)) (e2 : f_X11_needWithin y 1 (n2 d) (n2 0) (n2 40) M = some (0, 0, M)) : wp (f_X11_then y 1 (n2 c) (n2 d) M) (fun o => o.1 = 0 ∧ (0 = 0 → o.2.1 = 0) ∧ Eqx [58, 59, 60, 61, 62, 63] M o.2.2) := by
  unfold f_X11_then
  have e2 : f_X11_needWithin y 1 (n2 d) (0 : Int32) (40 : Int32) M = _ := e2
  rw [gK_t (k_1 hy), e1, cx_s, e2, cx_s]
  refine wp_c0 (fun o => LC d M o.2) (la hy hF hd) (fun r N h => ?_)
  have h : LC d M N := h
  simp only [gK_t (k_1 hy), gN_t (r := 1) (by decide), r_1_0 hy, r_1_1 hy, r_1_2 hy, r_1_3 hy, r_1_4 hy, r_1_5 hy, r_1_6 hy, r_1_7 hy, r_1_8 hy, r_1_9 hy, r_1_10 hy, gK_t (k_58 hy), gN_t (r := 58) (by decide), r_58_0 hy, r_58_1 hy, r_58_2 hy, r_58_3 hy, r_58_4 hy, r_58_5 hy, r_58_6 hy]
  rw [blueOf_58 hy (by omega), cp_s, (skv_l h.2).1]
  exact wp_some ⟨rfl, fun _ => rfl, h.1⟩
theorem then_m {y : Lay} (hy : LY y) {N : Mem} (hF : FRM (wI N 73 4 0)) {c d : Nat} (hc : c < 9) (hd : d ≤ 40) (e1 : f_X12_isCell y 73 (n2 c) (wI N 73 4 0) = some 1) (e2 : f_X12_isIn y (n2 d).toInt64 0 40 (wI N 73 4 0) = some 1) : wp (f_X12_then y 73 (n2 c) (n2 d) N) (fun o => o.2.1 73 4 = n2 0 ∧ (0 = 0 → o.1 = 0) ∧ o.2.2 = N.2) := by
  unfold f_X12_then
  rw [gK_t (k_73 hy), lT_s, e1, cp_s, bR_f (by decide), e2, cp_s, bR_f (by decide)]
  simp only [gK_t (k_73 hy), gN_t (r := 73) (by decide), r_73_0 hy, r_73_1 hy, r_73_2 hy, r_73_5 hy, r_73_6 hy, r_73_7 hy, r_73_8 hy, r_73_9 hy, r_73_10 hy, r_73_11 hy, r_73_12 hy, r_73_13 hy, r_73_14 hy, r_73_28 hy, r_73_29 hy, r_73_30 hy, r_73_38 hy, r_73_39 hy, r_73_40 hy, r_73_42 hy, r_73_43 hy, r_73_44 hy, r_73_45 hy, r_73_46 hy, r_73_47 hy, r_73_48 hy, r_73_49 hy, r_73_50 hy, r_73_51 hy, r_73_53 hy, r_73_58 hy, r_73_59 hy, r_73_60 hy, r_73_61 hy, r_73_62 hy, r_73_63 hy, gN_t (r := 93) (by decide), gN_t (r := 87) (by decide)]
  refine wp_c0 (fun o => LK 0 (wI N 73 4 0) o.2) (lk_p hy hF n4_0) (fun r N1 h1 => ?_)
  have h1 : LK 0 (wI N 73 4 0) N1 := h1
  refine wp_c0 (fun o => LK d (wI N 73 4 0) o.2) (lk_g hy hd h1) (fun r N2 h2 => ?_)
  have h2 : LK d (wI N 73 4 0) N2 := h2
  rw [gA_n (k_87 hy) (by omega) (by omega), lT_s]
  refine wp_c0 _ (lk_u hy h2) (fun r N3 h3 => wp_some ⟨h3.1, fun _ => ?_, h3.2.2⟩)
  rw [(mov_l h2.2.2.1).1]
  rfl
/-! sky -/
theorem pl_z : unP 0 zr 9 = 0 ∧ deP 0 zr 9 = some 0 ∧ paP 0 zr 9 = some 0 := by decide +kernel
def skyR (w : Nat) : Int32 := if w = 0 then 20 else 0
theorem sky_c {y : Lay} (hy : LY y) {M : Mem} (hF : FRC M) {w d : Nat} (hw : w < 5) (hd : d ≤ 40) (e1 : f_X11_needWhat y 1 (n2 w) (n2 4) M = some (0, 0, M)) (e2 : f_X11_needWithin y 1 (n2 d) (n2 0) (n2 40) M = some (0, 0, M)) : wp (f_X11_sky y 1 (n2 d) (n2 w) M) (fun o => o.1 = 0 ∧ (0 = 0 → o.2.1 = skyR w) ∧ Eqx [58, 59, 60, 61, 62, 63] M o.2.2) := by
  unfold f_X11_sky
  have e1 : f_X11_needWhat y 1 (n2 w) (4 : Int32) M = _ := e1
  have e2 : f_X11_needWithin y 1 (n2 d) (0 : Int32) (40 : Int32) M = _ := e2
  rw [gK_t (k_1 hy), e1, cx_s, e2, cx_s]
  refine wp_c0 (fun o => LC d M o.2) (la hy hF hd) (fun r N h => ?_)
  have h : LC d M N := h
  have g : GEO 3 3 (N.1 4 0) (N.1 4 1) := (h.coa hF).1.1
  have hs := skv_l h.2
  simp only [gK_t (k_1 hy), gN_t (r := 1) (by decide), r_1_0 hy, r_1_1 hy, r_1_2 hy, r_1_3 hy, r_1_4 hy, r_1_5 hy, r_1_6 hy, r_1_7 hy, r_1_8 hy, r_1_9 hy, r_1_10 hy, gK_t (k_58 hy), gN_t (r := 58) (by decide), r_58_0 hy, r_58_1 hy, r_58_2 hy, r_58_3 hy, r_58_4 hy, r_58_5 hy, r_58_6 hy, palest_58 hy g, deepest_58 hy g, uneven_58 hy g, cp_s, hs.1, hs.2.1, hs.2.2.1, hs.2.2.2.1]
  match w, hw with
  | 0, _ =>
    rw [bR_f (by decide), bR_t (by decide)]
    exact wp_some ⟨rfl, fun _ => rfl, h.1⟩
  | 1, _ =>
    rw [bR_f (by decide), bR_f (by decide), bR_t (by decide)]
    exact wp_some ⟨rfl, fun _ => rfl, h.1⟩
  | 2, _ =>
    rw [bR_f (by decide), bR_f (by decide), bR_f (by decide), bR_t (by decide)]
    exact wp_some ⟨rfl, fun _ => pl_z.1, h.1⟩
  | 3, _ =>
    rw [bR_f (by decide), bR_f (by decide), bR_f (by decide), bR_f (by decide)]
    exact wp_some ⟨rfl, fun _ => congrArg enc pl_z.2.1, h.1⟩
  | 4, _ =>
    rw [bR_t (by decide)]
    exact wp_some ⟨rfl, fun _ => congrArg enc pl_z.2.2, h.1⟩
  | k + 5, h => omega
theorem sky_m {y : Lay} (hy : LY y) {N : Mem} (hF : FRM (wI N 73 4 0)) {w d : Nat} (hw : w < 5) (hd : d ≤ 40) (e1 : f_X12_isIn y (n2 w).toInt64 0 4 (wI N 73 4 0) = some 1) (e2 : f_X12_isIn y (n2 d).toInt64 0 40 (wI N 73 4 0) = some 1) : wp (f_X12_sky y 73 (n2 d) (n2 w) N) (fun o => o.2.1 73 4 = n2 0 ∧ (0 = 0 → o.1 = skyR w) ∧ o.2.2 = N.2) := by
  unfold f_X12_sky
  rw [gK_t (k_73 hy), lT_s, e1, cp_s, bR_f (by decide), e2, cp_s, bR_f (by decide)]
  simp only [gK_t (k_73 hy), gN_t (r := 73) (by decide), r_73_0 hy, r_73_1 hy, r_73_2 hy, r_73_5 hy, r_73_6 hy, r_73_7 hy, r_73_8 hy, r_73_9 hy, r_73_10 hy, r_73_11 hy, r_73_12 hy, r_73_13 hy, r_73_14 hy, r_73_28 hy, r_73_29 hy, r_73_30 hy, r_73_38 hy, r_73_39 hy, r_73_40 hy, r_73_42 hy, r_73_43 hy, r_73_44 hy, r_73_45 hy, r_73_46 hy, r_73_47 hy, r_73_48 hy, r_73_49 hy, r_73_50 hy, r_73_51 hy, r_73_53 hy, r_73_58 hy, r_73_59 hy, r_73_60 hy, r_73_61 hy, r_73_62 hy, r_73_63 hy, gN_t (r := 93) (by decide)]
  refine wp_c0 (fun o => LK 0 (wI N 73 4 0) o.2) (lk_p hy hF n4_0) (fun r N1 h1 => ?_)
  have h1 : LK 0 (wI N 73 4 0) N1 := h1
  refine wp_c0 (fun o => LK d (wI N 73 4 0) o.2) (lk_g hy hd h1) (fun r N2 h2 => ?_)
  have h2 : LK d (wI N 73 4 0) N2 := h2
  have g : GEO 3 3 (N2.1 77 0) (N2.1 77 1) := h2.2.1.1.1
  have hs := mov_l h2.2.2.1
  simp only [jn_s, unevenM hy g, extreme_1 hy g, extreme_0 hy g, cp_s, hs.1, hs.2.2.1, hs.2.2.2.1, hs.2.2.2.2.1]
  have fin : ∀ v : Int32, v = skyR w → wp (c0 (f_X12_unpack y 73 93 (0 : Int32) N2) fun (r16 : Int32) (M17 : Mem) => some (v, M17)) (fun o => o.2.1 73 4 = n2 0 ∧ (True → o.1 = skyR w) ∧ o.2.2 = N.2) := fun v hv => wp_c0 _ (lk_u hy h2) (fun r N3 h3 => wp_some ⟨h3.1, fun _ => hv, h3.2.2⟩)
  rcases (show w = 0 ∨ w = 1 ∨ w = 2 ∨ w = 3 ∨ w = 4 by omega) with rfl | rfl | rfl | rfl | rfl
  · refine wp_brt (by decide) ?_
    exact fin _ rfl
  · refine wp_brf (by decide) (wp_brt (by decide) ?_)
    exact fin _ rfl
  · refine wp_brf (by decide) (wp_brf (by decide) (wp_brt (by decide) ?_))
    exact fin _ pl_z.1
  · refine wp_brf (by decide) (wp_brf (by decide) (wp_brf (by decide) (wp_brt (by decide) ?_)))
    exact fin _ (congrArg enc pl_z.2.1)
  · refine wp_brf (by decide) (wp_brf (by decide) (wp_brf (by decide) (wp_brf (by decide) ?_)))
    exact fin _ (congrArg enc pl_z.2.2)
/-! overdone -/
theorem over_c {y : Lay} (hy : LY y) {M : Mem} (hF : FRC M) {d : Nat} (hd : d ≤ 40) (e2 : f_X11_needWithin y 1 (n2 d) (n2 1) (n2 40) M = some (0, 0, M)) : wp (f_X11_overdone y 1 (n2 d) M) (fun o => o.1 = 0 ∧ (0 = 0 → o.2.1 = 0) ∧ Eqx [58, 59, 60, 61, 62, 63] M o.2.2) := by
  unfold f_X11_overdone
  have e2 : f_X11_needWithin y 1 (n2 d) (1 : Int32) (40 : Int32) M = _ := e2
  rw [gK_t (k_1 hy), e2, cx_s]
  refine wp_c0 (fun o => LC d M o.2) (la hy hF hd) (fun r N h => ?_)
  have h : LC d M N := h
  simp only [gK_t (k_1 hy), gN_t (r := 1) (by decide), r_1_0 hy, r_1_1 hy, r_1_2 hy, r_1_3 hy, r_1_4 hy, r_1_5 hy, r_1_6 hy, r_1_7 hy, r_1_8 hy, r_1_9 hy, r_1_10 hy, gK_t (k_58 hy), gN_t (r := 58) (by decide), r_58_0 hy, r_58_1 hy, r_58_2 hy, r_58_3 hy, r_58_4 hy, r_58_5 hy, r_58_6 hy, (skv_l h.2).2.2.2.2.2]
  exact wp_some ⟨rfl, fun _ => rfl, h.1⟩
theorem over_m {y : Lay} (hy : LY y) {N : Mem} (hF : FRM (wI N 73 4 0)) {d : Nat} (hd : d ≤ 40) (e2 : f_X12_isIn y (n2 d).toInt64 1 40 (wI N 73 4 0) = some 1) : wp (f_X12_overdone y 73 (n2 d) N) (fun o => o.2.1 73 4 = n2 0 ∧ (0 = 0 → o.1 = 0) ∧ o.2.2 = N.2) := by
  unfold f_X12_overdone
  rw [gK_t (k_73 hy), lT_s, e2, cp_s, bR_f (by decide)]
  simp only [gK_t (k_73 hy), gN_t (r := 73) (by decide), r_73_0 hy, r_73_1 hy, r_73_2 hy, r_73_5 hy, r_73_6 hy, r_73_7 hy, r_73_8 hy, r_73_9 hy, r_73_10 hy, r_73_11 hy, r_73_12 hy, r_73_13 hy, r_73_14 hy, r_73_28 hy, r_73_29 hy, r_73_30 hy, r_73_38 hy, r_73_39 hy, r_73_40 hy, r_73_42 hy, r_73_43 hy, r_73_44 hy, r_73_45 hy, r_73_46 hy, r_73_47 hy, r_73_48 hy, r_73_49 hy, r_73_50 hy, r_73_51 hy, r_73_53 hy, r_73_58 hy, r_73_59 hy, r_73_60 hy, r_73_61 hy, r_73_62 hy, r_73_63 hy, gN_t (r := 93) (by decide)]
  refine wp_c0 (fun o => LK 0 (wI N 73 4 0) o.2) (lk_p hy hF n4_0) (fun r N1 h1 => ?_)
  have h1 : LK 0 (wI N 73 4 0) N1 := h1
  refine wp_c0 (fun o => LK d (wI N 73 4 0) o.2) (lk_g hy hd h1) (fun r N2 h2 => ?_)
  have h2 : LK d (wI N 73 4 0) N2 := h2
  exact wp_c0 _ (lk_u hy h2) (fun r N3 h3 => wp_some ⟨h3.1, fun _ => h3.2.1, h3.2.2⟩)
/-! first, spent -/
theorem bt_00 : ∀ c : Nat, bt 0 c = 0 := by
  intro c
  unfold bt
  apply Int32.toBitVec_inj.1
  apply BitVec.eq_of_toNat_eq
  show ((BitVec.ofNat 32 0).sshiftRight ((n2 c &&& 31).toBitVec.smod 32).toNat &&& 1#32).toNat = 0
  rw [BitVec.sshiftRight_eq_of_msb_false (by decide), BitVec.toNat_and, BitVec.toNat_ushiftRight]
  simp
theorem bt_0 (c : Nat) : ((0 : Int32) >>> (n2 c &&& 31)) &&& 1 = 0 := bt_00 c
theorem bt_0' (c : Nat) : bt 0 c = 0 := bt_00 c
theorem first_c {y : Lay} (hy : LY y) {M : Mem} (hF : FRC M) {c : Nat} (e1 : f_X11_needCell y 1 (n2 c) M = some (0, 0, M)) : wp (f_X11_first y 1 (n2 c) M) (fun o => o.1 = 0 ∧ (0 = 0 → o.2.1 = -1) ∧ Eqx [58, 59, 60, 61, 62, 63] M o.2.2) := by
  unfold f_X11_first
  rw [gK_t (k_1 hy), e1, cx_s]
  refine wp_c0 (fun o => LC 0 M o.2) (la hy hF (d := 0) (by decide)) (fun r N h => ?_)
  have h : LC 0 M N := h
  simp only [gK_t (k_1 hy), gN_t (r := 1) (by decide), r_1_0 hy, r_1_1 hy, r_1_2 hy, r_1_3 hy, r_1_4 hy, r_1_5 hy, r_1_6 hy, r_1_7 hy, r_1_8 hy, r_1_9 hy, r_1_10 hy, gK_t (k_58 hy), gN_t (r := 58) (by decide), r_58_0 hy, r_58_1 hy, r_58_2 hy, r_58_3 hy, r_58_4 hy, r_58_5 hy, r_58_6 hy]
  refine wp_for (i0 := 1) 41 (fun i s => 1 ≤ i ∧ LC (i - 1) M s) (by decide) rfl (by decide) ⟨by decide, h⟩ ?_ ?_
  · intro f i s hi hI hk
    refine wp_brf (fun q => ?_) ?_
    · have := (n2_lt (i := 40) (j := i) (by decide) (by omega)).mp q
      omega
    refine wp_c0 (fun o => LC (i - 1 + 1) M o.2) (la_d hy hF hI.2) (fun r N2 h2 => ?_)
    have h2 : LC (i - 1 + 1) M N2 := h2
    have e12 : N2.1 58 12 = 0 := (skv_l h2.2).2.2.2.2.2
    rw [e12]
    refine wp_brt (bt_0 c) ?_
    simp only [lT_s, n2_s]
    exact hk N2 ⟨by omega, by rw [show i + 1 - 1 = i - 1 + 1 by have := hI.1; omega]; exact h2⟩
  · intro f s hI
    exact wp_brt (by decide) (wp_some ⟨rfl, fun _ => rfl, hI.2.1⟩)
theorem first_m {y : Lay} (hy : LY y) {N : Mem} (hF : FRM (wI N 73 4 0)) {c : Nat} (e1 : f_X12_isCell y 73 (n2 c) (wI N 73 4 0) = some 1) : wp (f_X12_first y 73 (n2 c) N) (fun o => o.2.1 73 4 = n2 0 ∧ (0 = 0 → o.1 = -1) ∧ o.2.2 = N.2) := by
  unfold f_X12_first
  rw [gK_t (k_73 hy), lT_s, e1, cp_s, bR_f (by decide)]
  simp only [gK_t (k_73 hy), gN_t (r := 73) (by decide), r_73_0 hy, r_73_1 hy, r_73_2 hy, r_73_5 hy, r_73_6 hy, r_73_7 hy, r_73_8 hy, r_73_9 hy, r_73_10 hy, r_73_11 hy, r_73_12 hy, r_73_13 hy, r_73_14 hy, r_73_28 hy, r_73_29 hy, r_73_30 hy, r_73_38 hy, r_73_39 hy, r_73_40 hy, r_73_42 hy, r_73_43 hy, r_73_44 hy, r_73_45 hy, r_73_46 hy, r_73_47 hy, r_73_48 hy, r_73_49 hy, r_73_50 hy, r_73_51 hy, r_73_53 hy, r_73_58 hy, r_73_59 hy, r_73_60 hy, r_73_61 hy, r_73_62 hy, r_73_63 hy, gN_t (r := 93) (by decide)]
  refine wp_c0 (fun o => LK 0 (wI N 73 4 0) o.2) (lk_p hy hF n4_0) (fun r N1 h1 => ?_)
  have h1 : LK 0 (wI N 73 4 0) N1 := h1
  rw [lT_s]
  refine wp_for2M (i0 := 1) 41 (fun i a s => 1 ≤ i ∧ a = -1 ∧ LK (i - 1) (wI N 73 4 0) s) (by decide) rfl (by decide) ⟨by decide, rfl, h1⟩ ?_ ?_
  · intro f i a s hi hI hk
    obtain ⟨hi1, ha, hL⟩ := hI
    subst ha
    rw [jn_s]
    refine wp_brf (fun q => ?_) (wp_brt rfl ?_)
    · have := (n2_lt (i := 40) (j := i) (by decide) (by omega)).mp q
      omega
    refine wp_c0 (fun o => LK (i - 1 + 1) (wI N 73 4 0) o.2) (lk_d hy hL) (fun r N2 h2 => ?_)
    have h2 : LK (i - 1 + 1) (wI N 73 4 0) N2 := h2
    rw [(mov_l h2.2.2.1).2.2.2.2.2.2, isOf_s, if_neg (by rw [bt_0' c]; decide), cp_s, jn_s]
    refine wp_brt rfl ?_
    simp only [lT_s, n2_s]
    exact hk _ N2 ⟨by omega, rfl, by rw [show i + 1 - 1 = i - 1 + 1 by omega]; exact h2⟩
  · intro f a s hI
    obtain ⟨hi1, ha, hL⟩ := hI
    subst ha
    rw [jn_s]
    refine wp_brt (by decide) ?_
    exact wp_c0 _ (lk_u hy hL) (fun r N3 h3 => wp_some ⟨h3.1, fun _ => rfl, h3.2.2⟩)
theorem spent_c {y : Lay} (hy : LY y) {M : Mem} (hF : FRC M) : wp (f_X11_spent y 1 M) (fun o => o.1 = -1 ∧ Eqx [58, 59, 60, 61, 62, 63] M o.2) := by
  unfold f_X11_spent
  rw [gK_t (k_1 hy)]
  refine wp_c0 (fun o => LC 0 M o.2) (la hy hF (d := 0) (by decide)) (fun r N h => ?_)
  have h : LC 0 M N := h
  simp only [gK_t (k_1 hy), gN_t (r := 1) (by decide), r_1_0 hy, r_1_1 hy, r_1_2 hy, r_1_3 hy, r_1_4 hy, r_1_5 hy, r_1_6 hy, r_1_7 hy, r_1_8 hy, r_1_9 hy, r_1_10 hy, gK_t (k_58 hy), gN_t (r := 58) (by decide), r_58_0 hy, r_58_1 hy, r_58_2 hy, r_58_3 hy, r_58_4 hy, r_58_5 hy, r_58_6 hy]
  refine wp_for (i0 := 0) 41 (fun i s => LC i M s) (by decide) rfl (by decide) h ?_ ?_
  · intro f i s hi hI hk
    refine wp_brf (fun q => ?_) ?_
    · have := (n2_lt (i := 40) (j := i) (by decide) (by omega)).mp q
      omega
    have e9 : s.1 58 9 = 20 := (skv_l hI.2).2.2.1
    rw [e9]
    refine wp_brf (by decide) ?_
    refine wp_c0 (fun o => LC (i + 1) M o.2) (la_d hy hF hI) (fun r N2 h2 => ?_)
    have h2 : LC (i + 1) M N2 := h2
    simp only [lT_s, n2_s]
    exact hk N2 h2
  · intro f s hI
    exact wp_brt (by decide) (wp_some ⟨rfl, hI.1⟩)
theorem spent_m {y : Lay} (hy : LY y) {N : Mem} (hF : FRM (wI N 73 4 0)) : wp (f_X12_spent y 73 N) (fun o => o.1 = -1) := by
  unfold f_X12_spent
  rw [gK_t (k_73 hy), lT_s]
  simp only [gK_t (k_73 hy), gN_t (r := 73) (by decide), r_73_0 hy, r_73_1 hy, r_73_2 hy, r_73_5 hy, r_73_6 hy, r_73_7 hy, r_73_8 hy, r_73_9 hy, r_73_10 hy, r_73_11 hy, r_73_12 hy, r_73_13 hy, r_73_14 hy, r_73_28 hy, r_73_29 hy, r_73_30 hy, r_73_38 hy, r_73_39 hy, r_73_40 hy, r_73_42 hy, r_73_43 hy, r_73_44 hy, r_73_45 hy, r_73_46 hy, r_73_47 hy, r_73_48 hy, r_73_49 hy, r_73_50 hy, r_73_51 hy, r_73_53 hy, r_73_58 hy, r_73_59 hy, r_73_60 hy, r_73_61 hy, r_73_62 hy, r_73_63 hy, gN_t (r := 93) (by decide)]
  refine wp_c0 (fun o => LK 0 (wI N 73 4 0) o.2) (lk_p hy hF n4_0) (fun r N1 h1 => ?_)
  have h1 : LK 0 (wI N 73 4 0) N1 := h1
  rw [lT_s]
  refine wp_for2M (i0 := 0) 41 (fun i a s => a = -1 ∧ LK i (wI N 73 4 0) s) (by decide) rfl (by decide) ⟨rfl, h1⟩ ?_ ?_
  · intro f i a s hi hI hk
    obtain ⟨ha, hL⟩ := hI
    subst ha
    rw [jn_s]
    refine wp_brf (fun q => ?_) (wp_brt rfl ?_)
    · have := (n2_lt (i := 40) (j := i) (by decide) (by omega)).mp q
      omega
    rw [jn_s, (mov_l hL.2.2.1).2.2.2.1]
    refine wp_brf (by decide) ?_
    refine wp_c0 (fun o => LK (i + 1) (wI N 73 4 0) o.2) (lk_d hy hL) (fun r N2 h2 => ?_)
    have h2 : LK (i + 1) (wI N 73 4 0) N2 := h2
    simp only [lT_s, n2_s]
    exact hk _ N2 ⟨rfl, h2⟩
  · intro f a s hI
    obtain ⟨ha, hL⟩ := hI
    subst ha
    rw [jn_s]
    refine wp_brt (by decide) ?_
    exact wp_c0 _ (lk_u hy hL) (fun r N3 h3 => wp_some rfl)
/-! band -/
theorem rowBlue_z {y : Lay} (hy : LY y) {M : Mem} (hz : M.1 59 = zr) (g : GEO 3 3 (M.1 4 0) (M.1 4 1)) (r : Int32) : f_X8_rowBlue y 58 r M = some 0 := by
  unfold f_X8_rowBlue
  simp only [lT_s, jn_s, c0_s, cp_s, cx_s, cx_t, gK_t (k_58 hy), gN_t (r := 58) (by decide), r_58_0 hy, r_58_1 hy, r_58_2 hy, r_58_3 hy, r_58_4 hy, r_58_5 hy, r_58_6 hy, gK_t (k_4 hy), gN_t (r := 4) (by decide), r_4_6 hy, r_4_7 hy, r_4_8 hy, cells_4 hy g]
  refine wp_eq ?_
  refine wp_for2 (i0 := 0) 9 (fun i s => s = 0) (by decide) rfl (by decide) rfl ?_ ?_
  · intro f i s hi hI hk
    subst hI
    refine wp_brf (by rw [n2_le (by decide) (by omega)]; omega) ?_
    rw [rowOf_4 hy g (by omega), cp_s]
    refine wp_br (fun _ => ?_) (fun _ => ?_)
    · rw [blueOf_58 hy (by omega), cp_s, hz, n2_s]
      exact hk _ rfl
    · rw [n2_s]
      exact hk _ rfl
  · intro f s hI
    subst hI
    exact wp_brt (by decide) (wp_some rfl)
theorem band_c {y : Lay} (hy : LY y) {M : Mem} (hF : FRC M) {d : Nat} (hd : d ≤ 40) (e2 : f_X11_needWithin y 1 (n2 d) (n2 0) (n2 40) M = some (0, 0, M)) : wp (f_X11_band y 1 (n2 d) M) (fun o => o.1 = 0 ∧ (0 = 0 → o.2.1 = 0) ∧ Eqx [58, 59, 60, 61, 62, 63] M o.2.2) := by
  unfold f_X11_band
  have e2 : f_X11_needWithin y 1 (n2 d) (0 : Int32) (40 : Int32) M = _ := e2
  rw [gK_t (k_1 hy), e2, cx_s]
  refine wp_c0 (fun o => LC d M o.2) (la hy hF hd) (fun r N h => ?_)
  have h : LC d M N := h
  have g : GEO 3 3 (N.1 4 0) (N.1 4 1) := (h.coa hF).1.1
  have hh : N.1 4 1 = n2 3 := g.2.2.2
  have hz := (skv_l h.2).1
  simp only [gK_t (k_1 hy), gN_t (r := 1) (by decide), r_1_0 hy, r_1_1 hy, r_1_2 hy, r_1_3 hy, r_1_4 hy, r_1_5 hy, r_1_6 hy, r_1_7 hy, r_1_8 hy, r_1_9 hy, r_1_10 hy, gK_t (k_4 hy), gN_t (r := 4) (by decide), r_4_6 hy, r_4_7 hy, r_4_8 hy, gK_t (k_58 hy), gN_t (r := 58) (by decide), r_58_0 hy, r_58_1 hy, r_58_2 hy, r_58_3 hy, r_58_4 hy, r_58_5 hy, r_58_6 hy, hh]
  refine wp_for2 (i0 := 1) 3 (fun i s => s = 0) (by decide) rfl (by decide) rfl ?_ ?_
  · intro f i s hi hI hk
    subst hI
    refine wp_brf (by rw [n2_le (by decide) (by omega)]; omega) ?_
    rw [rowBlue_z hy hz g, rowBlue_z hy hz g, cp_s, cp_s, jn_s]
    refine wp_brt (by decide) ?_
    simp only [lT_s, n2_s]
    exact hk _ rfl
  · intro f s hI
    subst hI
    exact wp_brt (by decide) (wp_some ⟨rfl, fun _ => rfl, h.1⟩)
theorem band_m {y : Lay} (hy : LY y) {N : Mem} (hF : FRM (wI N 73 4 0)) {d : Nat} (hd : d ≤ 40) (e2 : f_X12_isIn y (n2 d).toInt64 0 40 (wI N 73 4 0) = some 1) : wp (f_X12_band y 73 (n2 d) N) (fun o => o.2.1 73 4 = n2 0 ∧ (0 = 0 → o.1 = 0) ∧ o.2.2 = N.2) := by
  unfold f_X12_band
  rw [gK_t (k_73 hy), lT_s, e2, cp_s, bR_f (by decide)]
  simp only [gK_t (k_73 hy), gN_t (r := 73) (by decide), r_73_0 hy, r_73_1 hy, r_73_2 hy, r_73_5 hy, r_73_6 hy, r_73_7 hy, r_73_8 hy, r_73_9 hy, r_73_10 hy, r_73_11 hy, r_73_12 hy, r_73_13 hy, r_73_14 hy, r_73_28 hy, r_73_29 hy, r_73_30 hy, r_73_38 hy, r_73_39 hy, r_73_40 hy, r_73_42 hy, r_73_43 hy, r_73_44 hy, r_73_45 hy, r_73_46 hy, r_73_47 hy, r_73_48 hy, r_73_49 hy, r_73_50 hy, r_73_51 hy, r_73_53 hy, r_73_58 hy, r_73_59 hy, r_73_60 hy, r_73_61 hy, r_73_62 hy, r_73_63 hy, gN_t (r := 77) (by decide), gN_t (r := 87) (by decide), gN_t (r := 93) (by decide)]
  refine wp_c0 (fun o => LK 0 (wI N 73 4 0) o.2) (lk_p hy hF n4_0) (fun r N1 h1 => ?_)
  have h1 : LK 0 (wI N 73 4 0) N1 := h1
  refine wp_c0 (fun o => LK d (wI N 73 4 0) o.2) (lk_g hy hd h1) (fun r N2 h2 => ?_)
  have h2 : LK d (wI N 73 4 0) N2 := h2
  have g : GEO 3 3 (N2.1 77 0) (N2.1 77 1) := h2.2.1.1.1
  have hw : N2.1 77 0 = n2 3 := g.2.2.1
  have hh : N2.1 77 1 = n2 3 := g.2.2.2
  have hz := (mov_l h2.2.2.1).1
  have e0 : (0 : Int32).toNatClampNeg = 0 := rfl
  have e1 : (1 : Int32).toNatClampNeg = 1 := rfl
  simp only [lT_s, e0, e1, hw, hh]
  refine wp_for3 (i0 := 0) 3 (fun i c s => c = 0 ∧ ((i = 0 ∧ s = -1) ∨ s = 0)) (by decide) rfl (by decide) ⟨rfl, Or.inl ⟨rfl, rfl⟩⟩ ?_ ?_
  · intro f i c s hi hI hk
    obtain ⟨hc, hs⟩ := hI
    subst hc
    rw [gA_t (k_77 hy) (by decide)]
    refine wp_brf (by rw [n2_le (by decide) (by omega)]; omega) ?_
    refine wp_for2 (i0 := 0) 3 (fun j a => a = 0) (by decide) rfl (by decide) rfl ?_ ?_
    · intro f2 j a hj hJ hk2
      subst hJ
      rw [gA_t (k_77 hy) (by decide)]
      refine wp_brf (by rw [n2_le (by decide) (by omega)]; omega) ?_
      rw [gA_t (k_77 hy) (by decide), n2_mul, n2_add, gA_n (k_87 hy) (by omega) (by omega), hz, n2_s]
      exact hk2 _ rfl
    · intro f2 a hJ
      subst hJ
      rw [gA_t (k_77 hy) (by decide)]
      refine wp_brt (by decide) ?_
      rw [jn_s]
      rcases hs with ⟨hi0, hs⟩ | hs
      · subst hs
        subst hi0
        refine wp_brt (by decide) ?_
        exact hk _ _ ⟨rfl, Or.inr rfl⟩
      · subst hs
        refine wp_brf (by decide) ?_
        rw [n2_s]
        exact hk _ _ ⟨rfl, Or.inr rfl⟩
  · intro f c s hI
    obtain ⟨hc, hs⟩ := hI
    subst hc
    rw [gA_t (k_77 hy) (by decide)]
    refine wp_brt (by decide) ?_
    exact wp_c0 _ (lk_u hy h2) (fun r N3 h3 => wp_some ⟨h3.1, fun _ => rfl, h3.2.2⟩)
