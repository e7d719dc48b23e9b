/-! ===== refusals, sayings of what is seen, patches, senders ===== -/
theorem refuse_c {y : Lay} (hy : LY y) {M : Mem} {k : Nat} (hk : k < 3) : f_X4_refuse y 30 (n2 k) M = some (0, sr M 36 (up (M.1 36) k (M.1 36 k + 1))) := by
  unfold f_X4_refuse
  have h1 : ¬ n2 k < 0 := n2_n0 (by omega)
  have h2 : ¬ (3 : Int32) ≤ n2 k := nle_l (m := 3) rfl hk (by omega)
  simp only [lT_s, jn_s, c0_s, cp_s, cx_s, cx_t, bR_f h1, bR_f h2, gK_t (k_30 hy), gN_t (r := 30) (by decide), r_30_0 hy, r_30_1 hy, r_30_2 hy, r_30_3 hy, r_30_4 hy, r_30_5 hy, gN_t (r := 36) (by decide), gA_n (k_36 hy) hk (by omega), n2_nat (show k < 2147483648 by omega), wI_sr]
theorem refuse_m {y : Lay} (hy : LY y) {M : Mem} {k : Nat} (hk : k < 3) : f_X12_refuse y 73 (n2 k) M = some (-1, sr M 84 (up (M.1 84) k (M.1 84 k + 1))) := by
  unfold f_X12_refuse
  simp only [lT_s, jn_s, c0_s, cp_s, cx_s, cx_t, gK_t (k_73 hy), gN_t (r := 73) (by decide), r_73_0 hy, r_73_1 hy, r_73_2 hy, r_73_5 hy, r_73_6 hy, r_73_7 hy, r_73_8 hy, r_73_9 hy, r_73_10 hy, r_73_11 hy, r_73_12 hy, r_73_13 hy, r_73_14 hy, r_73_28 hy, r_73_29 hy, r_73_30 hy, r_73_38 hy, r_73_39 hy, r_73_40 hy, r_73_42 hy, r_73_43 hy, r_73_44 hy, r_73_45 hy, r_73_46 hy, r_73_47 hy, r_73_48 hy, r_73_49 hy, r_73_50 hy, r_73_51 hy, r_73_53 hy, r_73_58 hy, r_73_59 hy, r_73_60 hy, r_73_61 hy, r_73_62 hy, r_73_63 hy, gN_t (r := 84) (by decide), gA_n (k_84 hy) hk (by omega), n2_nat (show k < 2147483648 by omega), wI_sr]
theorem refuseAct_c {y : Lay} (hy : LY y) {M : Mem} : f_X11_refuseAct y 1 M = some (-1, sr M 36 (up (M.1 36) 1 (M.1 36 1 + 1))) := by
  unfold f_X11_refuseAct
  have e : f_X4_refuse y 30 (1 : Int32) M = _ := refuse_c hy (k := 1) (by decide)
  simp only [lT_s, jn_s, c0_s, cp_s, cx_s, cx_t, gK_t (k_1 hy), gN_t (r := 1) (by decide), r_1_0 hy, r_1_1 hy, r_1_2 hy, r_1_3 hy, r_1_4 hy, r_1_5 hy, r_1_6 hy, r_1_7 hy, r_1_8 hy, r_1_9 hy, r_1_10 hy, gK_t (k_30 hy), gN_t (r := 30) (by decide), r_30_0 hy, r_30_1 hy, r_30_2 hy, r_30_3 hy, r_30_4 hy, r_30_5 hy, e]
theorem t_bag {y : Lay} (hy : LY y) {M : Mem} {c : Int32} (hc : ¬ inR 1 50 c) : f_X11_bag y 1 c M = some (-1, sr M 36 (up (M.1 36) 1 (M.1 36 1 + 1))) := by
  unfold f_X11_bag
  rw [jn_s, gK_t (k_1 hy), refuseAct_c hy, c0_s]
  by_cases h1 : c < 1
  · rw [bR_t h1]
  · have h2 : ¬ c ≤ 50 := fun q => hc (by
      rw [i_lt] at h1
      rw [i_le] at q
      have z : (1 : Int32).toInt = 1 := rfl
      have z1 : (50 : Int32).toInt = 50 := rfl
      rw [z] at h1
      rw [z1] at q
      exact ⟨by omega, by omega⟩)
    rw [bR_f h1, bR_f h2]
theorem t_bagM {y : Lay} (hy : LY y) {M : Mem} {c : Int32} (hc : ¬ inR 1 50 c) : wp (f_X12_bag y 73 c M) (fun o => o.1 = -1) := by
  unfold f_X12_bag
  rw [gK_t (k_73 hy), lT_s]
  rcases isIn_r (y := y) (M := wI M 73 4 0) (a := 1) (b := 50) z64.2.1 z64.2.2.2.2.2.2.1 c with ⟨q1, q2⟩ | ⟨q1, q2⟩
  · exact absurd q1 hc
  · have e : f_X12_refuse y 73 (1 : Int32) (wI M 73 4 0) = _ := refuse_m hy (k := 1) (by decide)
    rw [q2, cp_s, bR_t rfl, e, c0_s]
    exact wp_some rfl
theorem op_bag (c : Int32) : chk1 (f_X11_bag yS 1 c MS) (f_X12_bag yS 73 c) = true := by
  by_cases h : inR 1 50 c
  · obtain ⟨h1, h2, h3⟩ := inR_n h
    rw [h1]
    exact ev_bag ⟨c.toInt.toNat, by omega⟩
  · exact chk1_of (R := -1) (FR := fun _ => True) ⟨_, t_bag yS_ly h, rfl, trivial⟩ (fun N _ => t_bagM yS_ly h)
/-! see -/
theorem addSeen_0 {y : Lay} (hy : LY y) {M : Mem} (h : M.1 30 6 = 0) (a b c : Int32) : wp (f_X4_addSeen y 30 a b c M) (fun o => o.1 = 1 ∧ o.2.1 30 6 = 1 ∧ Eqx [30, 33, 34, 35] M o.2) := by
  unfold f_X4_addSeen
  simp only [lT_s, jn_s, c0_s, cp_s, cx_s, cx_t, gK_t (k_30 hy), gN_t (r := 30) (by decide), r_30_0 hy, r_30_1 hy, r_30_2 hy, r_30_3 hy, r_30_4 hy, r_30_5 hy, gN_t (r := 33) (by decide), gN_t (r := 34) (by decide), gN_t (r := 35) (by decide), h, wI_sr, sr_1, Nat.reduceEqDiff, if_false, ↓reduceIte]
  rw [bR_f (by decide), bR_t (by decide), gA_t (k_33 hy) (by decide), gA_t (k_34 hy) (by decide), gA_t (k_35 hy) (by decide)]
  refine wp_some ⟨rfl, ?_, ?_⟩
  · rw [sr_ap, up_eq]
    rfl
  · exact ((((Eqx.refl _ M).sr (by decide)).sr (by decide)).sr (by decide)).sr (by decide)
def seeR (d b : Int32) : Int32 := if (0 ≤ d.toInt ∧ d.toInt ≤ 20) ∧ (0 ≤ b.toInt ∧ b.toInt ≤ 99) then 1 else -1
theorem see_c {y : Lay} (hy : LY y) {M : Mem} (h : M.1 30 6 = 0) {c : Int32} (e : f_X11_needCell y 1 c M = some (0, 0, M)) (d b : Int32) : wp (f_X11_see y 1 c d b M) (fun o => o.1 = 0 ∧ (0 = 0 → o.2.1 = seeR d b) ∧ Eqx [30, 33, 34, 35, 36] M o.2.2) := by
  unfold f_X11_see
  have er : ∀ N : Mem, f_X4_refuse y 30 (2 : Int32) N = _ := fun N => refuse_c hy (k := 2) (by decide)
  rw [gK_t (k_1 hy), e, cx_s, jn_s]
  have z : (0 : Int32).toInt = 0 := rfl
  have z20 : (20 : Int32).toInt = 20 := rfl
  have z99 : (99 : Int32).toInt = 99 := rfl
  have hno : ∀ N : Mem, Eqx [30, 33, 34, 35, 36] M N → ¬ ((0 ≤ d.toInt ∧ d.toInt ≤ 20) ∧ (0 ≤ b.toInt ∧ b.toInt ≤ 99)) → wp (gN (y.2.1 1 3) (gK y (y.2.1 1 3) (0, 4) (c0 (f_X4_refuse y (y.2.1 1 3) (2 : Int32) N) fun (r8 : Int32) (M9 : Mem) => some (0, ((-1) : Int32), M9)))) (fun o : Nat × Int32 × Mem => o.1 = 0 ∧ (0 = 0 → o.2.1 = seeR d b) ∧ Eqx [30, 33, 34, 35, 36] M o.2.2) := by
    intro N hN hx
    simp only [gK_t (k_1 hy), gN_t (r := 1) (by decide), r_1_0 hy, r_1_1 hy, r_1_2 hy, r_1_3 hy, r_1_4 hy, r_1_5 hy, r_1_6 hy, r_1_7 hy, r_1_8 hy, r_1_9 hy, r_1_10 hy, gK_t (k_30 hy), gN_t (r := 30) (by decide), r_30_0 hy, r_30_1 hy, r_30_2 hy, r_30_3 hy, r_30_4 hy, r_30_5 hy, er, c0_s]
    refine wp_some ⟨rfl, fun _ => ?_, hN.sr (by decide)⟩
    unfold seeR
    rw [if_neg hx]
  by_cases h1 : d < 0
  · rw [bR_t h1]
    exact hno M (Eqx.refl _ _) (fun q => by rw [i_lt, z] at h1; omega)
  rw [bR_f h1]
  by_cases h2 : (20 : Int32) < d
  · rw [bR_t h2]
    exact hno M (Eqx.refl _ _) (fun q => by rw [i_lt, z20] at h2; omega)
  rw [bR_f h2]
  by_cases h3 : b < 0
  · rw [bR_t h3]
    exact hno M (Eqx.refl _ _) (fun q => by rw [i_lt, z] at h3; omega)
  rw [bR_f h3]
  by_cases h4 : (99 : Int32) < b
  · rw [bR_t h4]
    exact hno M (Eqx.refl _ _) (fun q => by rw [i_lt, z99] at h4; omega)
  rw [bR_f h4]
  simp only [gK_t (k_1 hy), gN_t (r := 1) (by decide), r_1_0 hy, r_1_1 hy, r_1_2 hy, r_1_3 hy, r_1_4 hy, r_1_5 hy, r_1_6 hy, r_1_7 hy, r_1_8 hy, r_1_9 hy, r_1_10 hy, gK_t (k_30 hy), gN_t (r := 30) (by decide), r_30_0 hy, r_30_1 hy, r_30_2 hy, r_30_3 hy, r_30_4 hy, r_30_5 hy]
  refine wp_c0 _ (addSeen_0 hy h c d b) (fun r N hN => ?_)
  obtain ⟨q1, q2, q3⟩ := hN
  have q1 : r = 1 := q1
  subst q1
  rw [bR_f (by decide)]
  refine wp_some ⟨rfl, fun _ => ?_, q3.mono (by decide)⟩
  rw [i_lt] at h1 h2 h3 h4
  rw [z] at h1 h3
  rw [z20] at h2
  rw [z99] at h4
  unfold seeR
  rw [if_pos ⟨⟨by omega, by omega⟩, ⟨by omega, by omega⟩⟩]
  exact q2
theorem see_m {y : Lay} (hy : LY y) {M : Mem} (h : M.1 73 37 = 0) {c : Int32} (e : f_X12_isCell y 73 c (wI M 73 4 0) = some 1) (d b : Int32) : wp (f_X12_see y 73 c d b M) (fun o => o.2.1 73 4 = n2 0 ∧ (0 = 0 → o.1 = seeR d b) ∧ o.2.2 = M.2) := by
  unfold f_X12_see
  have er : ∀ N : Mem, f_X12_refuse y 73 (2 : Int32) N = _ := fun N => refuse_m hy (k := 2) (by decide)
  have h37 : (wI M 73 4 0).1 73 37 = 0 := by rw [wI_sr, sr_ap, up_ne (by decide), h]
  rw [gK_t (k_73 hy), lT_s, e, cp_s, bR_f (by decide), jn_s, h37, bR_f (by decide)]
  have hno : ¬ ((0 ≤ d.toInt ∧ d.toInt ≤ 20) ∧ (0 ≤ b.toInt ∧ b.toInt ≤ 99)) → wp (c0 (f_X12_refuse y 73 (2 : Int32) (wI M 73 4 0)) fun (r7 : Int32) (M8 : Mem) => some (r7, M8)) (fun o => o.2.1 73 4 = n2 0 ∧ (0 = 0 → o.1 = seeR d b) ∧ o.2.2 = M.2) := by
    intro hx
    rw [er, c0_s]
    refine wp_some ⟨?_, fun _ => ?_, rfl⟩
    · rw [sr_ne (by decide), wI_sr, sr_ap, up_eq]; rfl
    · unfold seeR
      rw [if_neg hx]
  rcases isIn_r (y := y) (M := wI M 73 4 0) (a := 0) (b := 20) z64.1 z64.2.2.2.2.1 d with ⟨q1, q2⟩ | ⟨q1, q2⟩
  · rw [q2, cp_s, bR_f (by decide)]
    rcases isIn_r (y := y) (M := wI M 73 4 0) (a := 0) (b := 99) z64.1 z64.2.2.2.2.2.2.2 b with ⟨w1, w2⟩ | ⟨w1, w2⟩
    · rw [w2, cp_s, bR_f (by decide)]
      have a1 : ∀ (p : Nat) (R : Row), ¬ p = 73 → (sr (wI M 73 4 0) p R).1 73 37 = 0 := fun p R hp => by rw [sr_ne (fun q => hp q.symm), h37]
      simp only [lT_s, jn_s, c0_s, cp_s, cx_s, cx_t, gK_t (k_73 hy), gN_t (r := 73) (by decide), r_73_0 hy, r_73_1 hy, r_73_2 hy, r_73_5 hy, r_73_6 hy, r_73_7 hy, r_73_8 hy, r_73_9 hy, r_73_10 hy, r_73_11 hy, r_73_12 hy, r_73_13 hy, r_73_14 hy, r_73_28 hy, r_73_29 hy, r_73_30 hy, r_73_38 hy, r_73_39 hy, r_73_40 hy, r_73_42 hy, r_73_43 hy, r_73_44 hy, r_73_45 hy, r_73_46 hy, r_73_47 hy, r_73_48 hy, r_73_49 hy, r_73_50 hy, r_73_51 hy, r_73_53 hy, r_73_58 hy, r_73_59 hy, r_73_60 hy, r_73_61 hy, r_73_62 hy, r_73_63 hy, gN_t (r := 97) (by decide), gN_t (r := 98) (by decide), gN_t (r := 99) (by decide), wI_sr, sr_1, Nat.reduceEqDiff, if_false, ↓reduceIte, up, h]
      rw [gA_t (k_97 hy) (by decide), gA_t (k_98 hy) (by decide), gA_t (k_99 hy) (by decide)]
      refine wp_some ⟨?_, fun _ => ?_, rfl⟩
      · simp only [sr_1, Nat.reduceEqDiff, if_false, ↓reduceIte, up]
        rfl
      · unfold seeR
        rw [if_pos ⟨⟨q1.1, q1.2⟩, ⟨w1.1, w1.2⟩⟩]
        rfl
    · rw [w2, cp_s, bR_t rfl]
      exact hno (fun q => w1 ⟨q.2.1, q.2.2⟩)
  · rw [q2, cp_s, bR_t rfl]
    exact hno (fun q => q1 ⟨q.1.1, q.1.2⟩)
theorem t_see {y : Lay} (hy : LY y) {M : Mem} {c : Int32} (e : f_X11_needCell y 1 c M = some (1, 0, M)) (d b : Int32) : f_X11_see y 1 c d b M = some (1, 0, M) := by
  unfold f_X11_see
  rw [gK_t (k_1 hy), e, cx_1]
theorem t_seeM {y : Lay} (hy : LY y) {M : Mem} {c : Int32} (e : f_X12_isCell y 73 c (wI M 73 4 0) = some 0) (d b : Int32) : f_X12_see y 73 c d b M = some (0, sr (wI M 73 4 0) 73 (up ((wI M 73 4 0).1 73) 4 1)) := by
  unfold f_X12_see
  rw [gK_t (k_73 hy), lT_s, e, cp_s, bR_t rfl, fail_s hy, c0_s]
theorem op_see (c d b : Int32) : chkL (f_L_see yS 1 c d b 110 MS) (f_X12_see yS 73 c d b) = true := by
  unfold f_L_see
  rcases needCell_s yS_ly g0 c with ⟨hc, e⟩ | ⟨hc, e⟩
  · refine chk_g yS_ly 0 0 (seeR d b) (wp_mono (see_c yS_ly (rwB_get e_30 (k := 6) (by decide)) e d b) (fun o h => ⟨h.1, h.2.1, MEQ_x h.2.2 (by decide)⟩)) (fun N r h => MEQ_wL h) (fun N hN => ?_) (fun _ => rfl) (fun h => absurd h (by decide)) (fun h => absurd h (by decide)) (by decide) (fun h => absurd rfl h)
    rcases isCell_s yS_ly (gN0 hN) c with ⟨q1, q2⟩ | ⟨q1, q2⟩
    · exact see_m yS_ly (by rw [hN 73 (by decide)]; exact g_73 (k := 37) (by decide)) q2 d b
    · exact absurd hc q1
  · refine chk_g yS_ly 1 1 0 (thr_c (by decide) (t_see yS_ly e d b)) (fun N r h => MEQ_wL h) (fun N hN => thr_m (k := 1) rfl (by decide) ?_) (by decide) (fun _ _ => rfl) (fun h => absurd h (by decide)) (by decide) (by decide)
    rcases isCell_s yS_ly (gN0 hN) c with ⟨q1, q2⟩ | ⟨q1, q2⟩
    · exact absurd q1 hc
    · exact t_seeM yS_ly q2 d b
