/-! ===== each call on a new object: class and model say the same ===== -/
theorem cx_1 {r : Int32} {M : Mem} {k : Int32 → Mem → Option (Nat × Int32 × Mem)} : cx (some (1, r, M)) k = some (1, r, M) := rfl
theorem cx_2 {r : Int32} {M : Mem} {k : Int32 → Mem → Option (Nat × Int32 × Mem)} : cx (some (2, r, M)) k = some (2, r, M) := rfl
theorem br_T {β : Type} {i : Decidable True} {a b : Option β} : @br β True i a b = a := if_pos trivial
theorem br_F {β : Type} {i : Decidable False} {a b : Option β} : @br β False i a b = b := if_neg id
theorem gd_T {β : Type} {i : Decidable True} {a : Option β} : @gd β True i a = a := if_pos trivial
theorem MEQ_wL {N : Mem} {r : Int64} (h : MEQ N) : MEQ (wL N 110 0 r) := h
theorem MEQ_S : MEQ MS := fun _ _ => rfl
theorem MEQ_x {N : Mem} {ps : List Nat} (h : Eqx ps MS N) (hs : ps.all (fun p => CROWS.contains p) = true) : MEQ N := fun p hp => h.2 p (fun q => hp (List.contains_iff_mem.mp (List.all_eq_true.mp hs p q)))
theorem com_0 {N : Mem} (h : MEQ N) : COM K0 (wI N 73 4 0) := (com_S h).frame (by rw [wI_sr, sr_ne (by decide)])
theorem mov_0 {N : Mem} (h : MEQ N) : moV (wI N 73 4 0) = SD 0 := by
  rw [← mov_S h]
  unfold moV
  rw [wI_sr]
  simp only [sr_1, Nat.reduceEqDiff, if_false, if_true, ↓reduceIte, up]
/-- class: thrown ec, or answered R; model: code e -/
theorem chk_g {y : Lay} (hy : LY y) {x : Option (Nat × Int32 × Mem)} {a b : Mem → Option (Int32 × Mem)} {m : Mem → Option (Int32 × Mem)} {FR : Mem → Prop} (ec e : Nat) (R : Int32) (hx : wp x (fun o => o.1 = ec ∧ (ec = 0 → o.2.1 = R) ∧ FR o.2.2)) (hfr : ∀ N r, FR N → FR (wL N 110 0 r)) (hm : ∀ N, FR N → wp (m N) (fun o => o.2.1 73 4 = n2 e ∧ (e = 0 → o.1 = R) ∧ o.2.2 = N.2)) (h0 : ec = 0 → e = 0) (h1 : ec = 1 → ∀ N, a N = some (n2 e, N)) (h2 : ec = 2 → ∀ N, b N = some (n2 e, N)) (hc : ec ≤ 2) (he : ec ≠ 0 → 1 ≤ e ∧ e ≤ 2) :
    chkL (gK y 1 (0, 11) (ct x a b fun (r2 : Int32) (M3 : Mem) => gA y 110 3 (0 : Int32) (lt (wL M3 110 (0 : Int32).toNatClampNeg (r2.toInt64)) fun (M7 : Mem) => some ((0 : Int32), M7)))) m = true := by
  obtain ⟨⟨ec', r, M1⟩, rfl, q1, q2, q3⟩ := hx
  have q1 : ec' = ec := q1
  have q2 : ec = 0 → r = R := q2
  have q3 : FR M1 := q3
  subst q1
  rw [gK_t (k_1 hy)]
  have go : ∀ N, FR N → (ec' = 0 → N.2.1 110 0 = R.toInt64) → chkL (some (n2 e, N)) m = true := by
    intro N hN hl
    obtain ⟨⟨b2, M2⟩, w1, w2, w3, w4⟩ := hm N hN
    have w2 : M2.1 73 4 = n2 e := w2
    have w3 : e = 0 → b2 = R := w3
    have w4 : M2.2 = N.2 := w4
    unfold chkL
    dsimp only
    rw [w1]
    simp only [w2, decide_true, Bool.true_and, Bool.or_eq_true, decide_eq_true_eq]
    by_cases z : ec' = 0
    · right
      rw [w4, hl z, w3 (h0 z)]
      exact cmp_eq
    · left
      intro q
      have := (n2_inj (i := e) (j := 0) (by have := he z; omega) (by decide)).mp q
      have := he z
      omega
  match ec', hc with
  | 0, _ =>
    show chkL (gA y 110 3 (0 : Int32) (lt (wL M1 110 (0 : Int32).toNatClampNeg (r.toInt64)) fun (M7 : Mem) => some ((0 : Int32), M7))) m = true
    rw [gA_t (k_110 hy) (by decide)]
    have e0 : e = 0 := h0 rfl
    have := go (wL M1 110 0 r.toInt64) (hfr M1 _ q3) (fun _ => by rw [q2 rfl]; rfl)
    rw [e0] at this
    exact this
  | 1, _ =>
    show chkL (a M1) m = true
    rw [h1 rfl]
    exact go M1 q3 (fun h => absurd h (by decide))
  | 2, _ =>
    show chkL (b M1) m = true
    rw [h2 rfl]
    exact go M1 q3 (fun h => absurd h (by decide))
  | k + 3, h => omega
/-- it throws at once: class with the memory as it was -/
theorem thr_c {x : Option (Nat × Int32 × Mem)} {e : Nat} (he : e ≠ 0) (h : x = some (e, 0, MS)) : wp x (fun o => o.1 = e ∧ (e = 0 → o.2.1 = 0) ∧ MEQ o.2.2) := ⟨_, h, rfl, fun h => absurd h he, MEQ_S⟩
theorem thr_m {x : Option (Int32 × Mem)} {e : Nat} {k : Int32} (hk : k = n2 e) {N : Mem} (he : e ≠ 0) (h : x = some (0, sr (wI N 73 4 0) 73 (up ((wI N 73 4 0).1 73) 4 k))) : wp x (fun o => o.2.1 73 4 = n2 e ∧ (e = 0 → o.1 = 0) ∧ o.2.2 = N.2) := by
  subst hk
  refine ⟨_, h, ?_, fun h => absurd h he, rfl⟩
  show (sr (wI N 73 4 0) 73 (up ((wI N 73 4 0).1 73) 4 (n2 e))).1 73 4 = n2 e
  rw [sr_ap, up_eq]
theorem g0 : GEO 3 3 (MS.1 4 0) (MS.1 4 1) := coa_S.1.1
theorem gN0 {N : Mem} (h : MEQ N) : GEO 3 3 ((wI N 73 4 0).1 77 0) ((wI N 73 4 0).1 77 1) := (com_0 h).1.1
/-- throws 1 both (class's own code) -/
theorem op_girl (c d : Int32) : chkL (f_L_girl yS 1 c d 110 MS) (f_X12_girl yS 73 c d) = true := by
  unfold f_L_girl
  refine chk_g yS_ly 1 1 0 (thr_c (by decide) ?_) (fun N r h => MEQ_wL h) (fun N hN => thr_m (k := 1) rfl (by decide) ?_) (by decide) (fun _ _ => rfl) (fun h => absurd h (by decide)) (by decide) (by decide)
  · unfold f_X11_girl
    simp only [lT_s, jn_s, c0_s, cp_s, cx_s, cx_t, gK_t (k_1  yS_ly), gN_t (r := 1) (by decide), r_1_0  yS_ly, r_1_1  yS_ly, r_1_2  yS_ly, r_1_3  yS_ly, r_1_4  yS_ly, r_1_5  yS_ly, r_1_6  yS_ly, r_1_7  yS_ly, r_1_8  yS_ly, r_1_9  yS_ly, r_1_10  yS_ly, cx_1, br_T, br_F, needGirl_0 yS_ly coa_S.2.1]
  · unfold f_X12_girl
    simp only [lT_s, jn_s, c0_s, cp_s, cx_s, cx_t, gK_t (k_73  yS_ly), gN_t (r := 73) (by decide), r_73_0  yS_ly, r_73_1  yS_ly, r_73_2  yS_ly, r_73_5  yS_ly, r_73_6  yS_ly, r_73_7  yS_ly, r_73_8  yS_ly, r_73_9  yS_ly, r_73_10  yS_ly, r_73_11  yS_ly, r_73_12  yS_ly, r_73_13  yS_ly, r_73_14  yS_ly, r_73_28  yS_ly, r_73_29  yS_ly, r_73_30  yS_ly, r_73_38  yS_ly, r_73_39  yS_ly, r_73_40  yS_ly, r_73_42  yS_ly, r_73_43  yS_ly, r_73_44  yS_ly, r_73_45  yS_ly, r_73_46  yS_ly, r_73_47  yS_ly, r_73_48  yS_ly, r_73_49  yS_ly, r_73_50  yS_ly, r_73_51  yS_ly, r_73_53  yS_ly, r_73_58  yS_ly, r_73_59  yS_ly, r_73_60  yS_ly, r_73_61  yS_ly, r_73_62  yS_ly, r_73_63  yS_ly, br_T, br_F, fail_s yS_ly, isGirl_0 yS_ly (com_0 hN).2.1]
theorem op_go (c d : Int32) : chkL (f_L_go yS 1 c d 110 MS) (f_X12_go yS 73 c d) = true := by
  unfold f_L_go
  refine chk_g yS_ly 1 1 0 (thr_c (by decide) ?_) (fun N r h => MEQ_wL h) (fun N hN => thr_m (k := 1) rfl (by decide) ?_) (by decide) (fun _ _ => rfl) (fun h => absurd h (by decide)) (by decide) (by decide)
  · unfold f_X11_go
    simp only [lT_s, jn_s, c0_s, cp_s, cx_s, cx_t, gK_t (k_1  yS_ly), gN_t (r := 1) (by decide), r_1_0  yS_ly, r_1_1  yS_ly, r_1_2  yS_ly, r_1_3  yS_ly, r_1_4  yS_ly, r_1_5  yS_ly, r_1_6  yS_ly, r_1_7  yS_ly, r_1_8  yS_ly, r_1_9  yS_ly, r_1_10  yS_ly, cx_1, br_T, br_F, needGirl_0 yS_ly coa_S.2.1]
  · unfold f_X12_go
    simp only [lT_s, jn_s, c0_s, cp_s, cx_s, cx_t, gK_t (k_73  yS_ly), gN_t (r := 73) (by decide), r_73_0  yS_ly, r_73_1  yS_ly, r_73_2  yS_ly, r_73_5  yS_ly, r_73_6  yS_ly, r_73_7  yS_ly, r_73_8  yS_ly, r_73_9  yS_ly, r_73_10  yS_ly, r_73_11  yS_ly, r_73_12  yS_ly, r_73_13  yS_ly, r_73_14  yS_ly, r_73_28  yS_ly, r_73_29  yS_ly, r_73_30  yS_ly, r_73_38  yS_ly, r_73_39  yS_ly, r_73_40  yS_ly, r_73_42  yS_ly, r_73_43  yS_ly, r_73_44  yS_ly, r_73_45  yS_ly, r_73_46  yS_ly, r_73_47  yS_ly, r_73_48  yS_ly, r_73_49  yS_ly, r_73_50  yS_ly, r_73_51  yS_ly, r_73_53  yS_ly, r_73_58  yS_ly, r_73_59  yS_ly, r_73_60  yS_ly, r_73_61  yS_ly, r_73_62  yS_ly, r_73_63  yS_ly, br_T, br_F, fail_s yS_ly, isGirl_0 yS_ly (com_0 hN).2.1]
theorem op_toStand (c d : Int32) : chkL (f_L_toStand yS 1 c d 110 MS) (f_X12_toStand yS 73 c d) = true := by
  unfold f_L_toStand
  refine chk_g yS_ly 1 1 0 (thr_c (by decide) ?_) (fun N r h => MEQ_wL h) (fun N hN => thr_m (k := 1) rfl (by decide) ?_) (by decide) (fun _ _ => rfl) (fun h => absurd h (by decide)) (by decide) (by decide)
  · unfold f_X11_toStand
    simp only [lT_s, jn_s, c0_s, cp_s, cx_s, cx_t, gK_t (k_1  yS_ly), gN_t (r := 1) (by decide), r_1_0  yS_ly, r_1_1  yS_ly, r_1_2  yS_ly, r_1_3  yS_ly, r_1_4  yS_ly, r_1_5  yS_ly, r_1_6  yS_ly, r_1_7  yS_ly, r_1_8  yS_ly, r_1_9  yS_ly, r_1_10  yS_ly, cx_1, br_T, br_F, needGirl_0 yS_ly coa_S.2.1]
  · unfold f_X12_toStand
    simp only [lT_s, jn_s, c0_s, cp_s, cx_s, cx_t, gK_t (k_73  yS_ly), gN_t (r := 73) (by decide), r_73_0  yS_ly, r_73_1  yS_ly, r_73_2  yS_ly, r_73_5  yS_ly, r_73_6  yS_ly, r_73_7  yS_ly, r_73_8  yS_ly, r_73_9  yS_ly, r_73_10  yS_ly, r_73_11  yS_ly, r_73_12  yS_ly, r_73_13  yS_ly, r_73_14  yS_ly, r_73_28  yS_ly, r_73_29  yS_ly, r_73_30  yS_ly, r_73_38  yS_ly, r_73_39  yS_ly, r_73_40  yS_ly, r_73_42  yS_ly, r_73_43  yS_ly, r_73_44  yS_ly, r_73_45  yS_ly, r_73_46  yS_ly, r_73_47  yS_ly, r_73_48  yS_ly, r_73_49  yS_ly, r_73_50  yS_ly, r_73_51  yS_ly, r_73_53  yS_ly, r_73_58  yS_ly, r_73_59  yS_ly, r_73_60  yS_ly, r_73_61  yS_ly, r_73_62  yS_ly, r_73_63  yS_ly, br_T, br_F, fail_s yS_ly, isGirl_0 yS_ly (com_0 hN).2.1]
theorem op_toSwish (c d : Int32) : chkL (f_L_toSwish yS 1 c d 110 MS) (f_X12_toSwish yS 73 c d) = true := by
  unfold f_L_toSwish
  refine chk_g yS_ly 1 1 0 (thr_c (by decide) ?_) (fun N r h => MEQ_wL h) (fun N hN => thr_m (k := 1) rfl (by decide) ?_) (by decide) (fun _ _ => rfl) (fun h => absurd h (by decide)) (by decide) (by decide)
  · unfold f_X11_toSwish
    simp only [lT_s, jn_s, c0_s, cp_s, cx_s, cx_t, gK_t (k_1  yS_ly), gN_t (r := 1) (by decide), r_1_0  yS_ly, r_1_1  yS_ly, r_1_2  yS_ly, r_1_3  yS_ly, r_1_4  yS_ly, r_1_5  yS_ly, r_1_6  yS_ly, r_1_7  yS_ly, r_1_8  yS_ly, r_1_9  yS_ly, r_1_10  yS_ly, cx_1, br_T, br_F, needGirl_0 yS_ly coa_S.2.1]
  · unfold f_X12_toSwish
    simp only [lT_s, jn_s, c0_s, cp_s, cx_s, cx_t, gK_t (k_73  yS_ly), gN_t (r := 73) (by decide), r_73_0  yS_ly, r_73_1  yS_ly, r_73_2  yS_ly, r_73_5  yS_ly, r_73_6  yS_ly, r_73_7  yS_ly, r_73_8  yS_ly, r_73_9  yS_ly, r_73_10  yS_ly, r_73_11  yS_ly, r_73_12  yS_ly, r_73_13  yS_ly, r_73_14  yS_ly, r_73_28  yS_ly, r_73_29  yS_ly, r_73_30  yS_ly, r_73_38  yS_ly, r_73_39  yS_ly, r_73_40  yS_ly, r_73_42  yS_ly, r_73_43  yS_ly, r_73_44  yS_ly, r_73_45  yS_ly, r_73_46  yS_ly, r_73_47  yS_ly, r_73_48  yS_ly, r_73_49  yS_ly, r_73_50  yS_ly, r_73_51  yS_ly, r_73_53  yS_ly, r_73_58  yS_ly, r_73_59  yS_ly, r_73_60  yS_ly, r_73_61  yS_ly, r_73_62  yS_ly, r_73_63  yS_ly, br_T, br_F, fail_s yS_ly, isGirl_0 yS_ly (com_0 hN).2.1]
theorem op_steps (c d : Int32) : chkL (f_L_steps yS 1 c d 110 MS) (f_X12_steps yS 73 c d) = true := by
  unfold f_L_steps
  refine chk_g yS_ly 1 1 0 (thr_c (by decide) ?_) (fun N r h => MEQ_wL h) (fun N hN => thr_m (k := 1) rfl (by decide) ?_) (by decide) (fun _ _ => rfl) (fun h => absurd h (by decide)) (by decide) (by decide)
  · unfold f_X11_steps
    simp only [lT_s, jn_s, c0_s, cp_s, cx_s, cx_t, gK_t (k_1  yS_ly), gN_t (r := 1) (by decide), r_1_0  yS_ly, r_1_1  yS_ly, r_1_2  yS_ly, r_1_3  yS_ly, r_1_4  yS_ly, r_1_5  yS_ly, r_1_6  yS_ly, r_1_7  yS_ly, r_1_8  yS_ly, r_1_9  yS_ly, r_1_10  yS_ly, cx_1, br_T, br_F, needGirl_0 yS_ly coa_S.2.1]
  · unfold f_X12_steps
    simp only [lT_s, jn_s, c0_s, cp_s, cx_s, cx_t, gK_t (k_73  yS_ly), gN_t (r := 73) (by decide), r_73_0  yS_ly, r_73_1  yS_ly, r_73_2  yS_ly, r_73_5  yS_ly, r_73_6  yS_ly, r_73_7  yS_ly, r_73_8  yS_ly, r_73_9  yS_ly, r_73_10  yS_ly, r_73_11  yS_ly, r_73_12  yS_ly, r_73_13  yS_ly, r_73_14  yS_ly, r_73_28  yS_ly, r_73_29  yS_ly, r_73_30  yS_ly, r_73_38  yS_ly, r_73_39  yS_ly, r_73_40  yS_ly, r_73_42  yS_ly, r_73_43  yS_ly, r_73_44  yS_ly, r_73_45  yS_ly, r_73_46  yS_ly, r_73_47  yS_ly, r_73_48  yS_ly, r_73_49  yS_ly, r_73_50  yS_ly, r_73_51  yS_ly, r_73_53  yS_ly, r_73_58  yS_ly, r_73_59  yS_ly, r_73_60  yS_ly, r_73_61  yS_ly, r_73_62  yS_ly, r_73_63  yS_ly, br_T, br_F, fail_s yS_ly, isGirl_0 yS_ly (com_0 hN).2.1]
theorem op_missed (c : Int32) : chkL (f_L_missed yS 1 c 110 MS) (f_X12_missed yS 73 c) = true := by
  unfold f_L_missed
  refine chk_g yS_ly 1 1 0 (thr_c (by decide) ?_) (fun N r h => MEQ_wL h) (fun N hN => thr_m (k := 1) rfl (by decide) ?_) (by decide) (fun _ _ => rfl) (fun h => absurd h (by decide)) (by decide) (by decide)
  · unfold f_X11_missed
    simp only [lT_s, jn_s, c0_s, cp_s, cx_s, cx_t, gK_t (k_1  yS_ly), gN_t (r := 1) (by decide), r_1_0  yS_ly, r_1_1  yS_ly, r_1_2  yS_ly, r_1_3  yS_ly, r_1_4  yS_ly, r_1_5  yS_ly, r_1_6  yS_ly, r_1_7  yS_ly, r_1_8  yS_ly, r_1_9  yS_ly, r_1_10  yS_ly, cx_1, br_T, br_F, needGirl_0 yS_ly coa_S.2.1]
  · unfold f_X12_missed
    simp only [lT_s, jn_s, c0_s, cp_s, cx_s, cx_t, gK_t (k_73  yS_ly), gN_t (r := 73) (by decide), r_73_0  yS_ly, r_73_1  yS_ly, r_73_2  yS_ly, r_73_5  yS_ly, r_73_6  yS_ly, r_73_7  yS_ly, r_73_8  yS_ly, r_73_9  yS_ly, r_73_10  yS_ly, r_73_11  yS_ly, r_73_12  yS_ly, r_73_13  yS_ly, r_73_14  yS_ly, r_73_28  yS_ly, r_73_29  yS_ly, r_73_30  yS_ly, r_73_38  yS_ly, r_73_39  yS_ly, r_73_40  yS_ly, r_73_42  yS_ly, r_73_43  yS_ly, r_73_44  yS_ly, r_73_45  yS_ly, r_73_46  yS_ly, r_73_47  yS_ly, r_73_48  yS_ly, r_73_49  yS_ly, r_73_50  yS_ly, r_73_51  yS_ly, r_73_53  yS_ly, r_73_58  yS_ly, r_73_59  yS_ly, r_73_60  yS_ly, r_73_61  yS_ly, r_73_62  yS_ly, r_73_63  yS_ly, br_T, br_F, fail_s yS_ly, isGirl_0 yS_ly (com_0 hN).2.1]
theorem op_count (c : Int32) : chkL (f_L_count yS 1 c 110 MS) (f_X12_count yS 73 c) = true := by
  by_cases h : c < 0 ∨ (16 : Int32) < c
  · unfold f_L_count
    refine chk_g yS_ly 1 1 0 (thr_c (by decide) ?_) (fun N r h => MEQ_wL h) (fun N hN => thr_m (k := 1) rfl (by decide) ?_) (by decide) (fun _ _ => rfl) (fun h => absurd h (by decide)) (by decide) (by decide)
    · unfold f_X11_count
      exact bR_t h
    · unfold f_X12_count
      simp only [lT_s, jn_s, c0_s, cp_s, cx_s, cx_t, gK_t (k_73  yS_ly), gN_t (r := 73) (by decide), r_73_0  yS_ly, r_73_1  yS_ly, r_73_2  yS_ly, r_73_5  yS_ly, r_73_6  yS_ly, r_73_7  yS_ly, r_73_8  yS_ly, r_73_9  yS_ly, r_73_10  yS_ly, r_73_11  yS_ly, r_73_12  yS_ly, r_73_13  yS_ly, r_73_14  yS_ly, r_73_28  yS_ly, r_73_29  yS_ly, r_73_30  yS_ly, r_73_38  yS_ly, r_73_39  yS_ly, r_73_40  yS_ly, r_73_42  yS_ly, r_73_43  yS_ly, r_73_44  yS_ly, r_73_45  yS_ly, r_73_46  yS_ly, r_73_47  yS_ly, r_73_48  yS_ly, r_73_49  yS_ly, r_73_50  yS_ly, r_73_51  yS_ly, r_73_53  yS_ly, r_73_58  yS_ly, r_73_59  yS_ly, r_73_60  yS_ly, r_73_61  yS_ly, r_73_62  yS_ly, r_73_63  yS_ly, fail_s yS_ly]
      exact bR_t h
  · have h0 : ¬ c < 0 := fun q => h (Or.inl q)
    have h1 : ¬ (16 : Int32) < c := fun q => h (Or.inr q)
    rw [i_lt] at h0 h1
    have z : (0 : Int32).toInt = 0 := rfl
    have z1 : (16 : Int32).toInt = 16 := rfl
    rw [z] at h0
    rw [z1] at h1
    rw [n2_of (a := c) (by omega)]
    exact ev_count ⟨c.toInt.toNat, by omega⟩
theorem op_cell (c d : Int32) : chkL (f_L_cell yS 1 c d 110 MS) (f_X12_cell yS 73 c d) = true := by
  rcases needCell_s yS_ly g0 c with ⟨hc, e⟩ | ⟨hc, e⟩
  · by_cases h : d < 0 ∨ (3 : Int32) < d
    · unfold f_L_cell
      refine chk_g yS_ly 1 1 0 (thr_c (by decide) ?_) (fun N r h => MEQ_wL h) (fun N hN => thr_m (k := 1) rfl (by decide) ?_) (by decide) (fun _ _ => rfl) (fun h => absurd h (by decide)) (by decide) (by decide)
      · unfold f_X11_cell
        simp only [lT_s, jn_s, c0_s, cp_s, cx_s, cx_t, gK_t (k_1  yS_ly), gN_t (r := 1) (by decide), r_1_0  yS_ly, r_1_1  yS_ly, r_1_2  yS_ly, r_1_3  yS_ly, r_1_4  yS_ly, r_1_5  yS_ly, r_1_6  yS_ly, r_1_7  yS_ly, r_1_8  yS_ly, r_1_9  yS_ly, r_1_10  yS_ly, e, bR_t h]
      · unfold f_X12_cell
        rcases isCell_s yS_ly (gN0 hN) c with ⟨q1, q2⟩ | ⟨q1, q2⟩
        · simp only [lT_s, jn_s, c0_s, cp_s, cx_s, cx_t, gK_t (k_73  yS_ly), gN_t (r := 73) (by decide), r_73_0  yS_ly, r_73_1  yS_ly, r_73_2  yS_ly, r_73_5  yS_ly, r_73_6  yS_ly, r_73_7  yS_ly, r_73_8  yS_ly, r_73_9  yS_ly, r_73_10  yS_ly, r_73_11  yS_ly, r_73_12  yS_ly, r_73_13  yS_ly, r_73_14  yS_ly, r_73_28  yS_ly, r_73_29  yS_ly, r_73_30  yS_ly, r_73_38  yS_ly, r_73_39  yS_ly, r_73_40  yS_ly, r_73_42  yS_ly, r_73_43  yS_ly, r_73_44  yS_ly, r_73_45  yS_ly, r_73_46  yS_ly, r_73_47  yS_ly, r_73_48  yS_ly, r_73_49  yS_ly, r_73_50  yS_ly, r_73_51  yS_ly, r_73_53  yS_ly, r_73_58  yS_ly, r_73_59  yS_ly, r_73_60  yS_ly, r_73_61  yS_ly, r_73_62  yS_ly, r_73_63  yS_ly, q2, fail_s yS_ly, bR_t h]
          rw [bR_f (by decide)]
        · exact absurd hc q1
    · have h0 : ¬ d < 0 := fun q => h (Or.inl q)
      have h1 : ¬ (3 : Int32) < d := fun q => h (Or.inr q)
      rw [i_lt] at h0 h1
      have z : (0 : Int32).toInt = 0 := rfl
      have z1 : (3 : Int32).toInt = 3 := rfl
      rw [z] at h0
      rw [z1] at h1
      rw [(inN_n hc).1, n2_of (a := d) (by omega)]
      exact ev_cell ⟨c.toInt.toNat, (inN_n hc).2⟩ ⟨d.toInt.toNat, by omega⟩
  · unfold f_L_cell
    refine chk_g yS_ly 1 1 0 (thr_c (by decide) ?_) (fun N r h => MEQ_wL h) (fun N hN => thr_m (k := 1) rfl (by decide) ?_) (by decide) (fun _ _ => rfl) (fun h => absurd h (by decide)) (by decide) (by decide)
    · unfold f_X11_cell
      simp only [lT_s, jn_s, c0_s, cp_s, cx_s, cx_t, gK_t (k_1  yS_ly), gN_t (r := 1) (by decide), r_1_0  yS_ly, r_1_1  yS_ly, r_1_2  yS_ly, r_1_3  yS_ly, r_1_4  yS_ly, r_1_5  yS_ly, r_1_6  yS_ly, r_1_7  yS_ly, r_1_8  yS_ly, r_1_9  yS_ly, r_1_10  yS_ly, e, cx_1]
    · unfold f_X12_cell
      rcases isCell_s yS_ly (gN0 hN) c with ⟨q1, q2⟩ | ⟨q1, q2⟩
      · exact absurd q1 hc
      · simp only [lT_s, jn_s, c0_s, cp_s, cx_s, cx_t, gK_t (k_73  yS_ly), gN_t (r := 73) (by decide), r_73_0  yS_ly, r_73_1  yS_ly, r_73_2  yS_ly, r_73_5  yS_ly, r_73_6  yS_ly, r_73_7  yS_ly, r_73_8  yS_ly, r_73_9  yS_ly, r_73_10  yS_ly, r_73_11  yS_ly, r_73_12  yS_ly, r_73_13  yS_ly, r_73_14  yS_ly, r_73_28  yS_ly, r_73_29  yS_ly, r_73_30  yS_ly, r_73_38  yS_ly, r_73_39  yS_ly, r_73_40  yS_ly, r_73_42  yS_ly, r_73_43  yS_ly, r_73_44  yS_ly, r_73_45  yS_ly, r_73_46  yS_ly, r_73_47  yS_ly, r_73_48  yS_ly, r_73_49  yS_ly, r_73_50  yS_ly, r_73_51  yS_ly, r_73_53  yS_ly, r_73_58  yS_ly, r_73_59  yS_ly, r_73_60  yS_ly, r_73_61  yS_ly, r_73_62  yS_ly, r_73_63  yS_ly, q2, fail_s yS_ly, br_T]
theorem op_nearest (c : Int32) : chkL (f_L_nearest yS 1 c 110 MS) (f_X12_nearest yS 73 c) = true := by
  rcases needCell_s yS_ly g0 c with ⟨hc, e⟩ | ⟨hc, e⟩
  · rw [(inN_n hc).1]
    exact ev_nearest ⟨c.toInt.toNat, (inN_n hc).2⟩
  · unfold f_L_nearest
    refine chk_g yS_ly 1 1 0 (thr_c (by decide) ?_) (fun N r h => MEQ_wL h) (fun N hN => thr_m (k := 1) rfl (by decide) ?_) (by decide) (fun _ _ => rfl) (fun h => absurd h (by decide)) (by decide) (by decide)
    · unfold f_X11_nearest
      simp only [lT_s, jn_s, c0_s, cp_s, cx_s, cx_t, gK_t (k_1  yS_ly), gN_t (r := 1) (by decide), r_1_0  yS_ly, r_1_1  yS_ly, r_1_2  yS_ly, r_1_3  yS_ly, r_1_4  yS_ly, r_1_5  yS_ly, r_1_6  yS_ly, r_1_7  yS_ly, r_1_8  yS_ly, r_1_9  yS_ly, r_1_10  yS_ly, e, cx_1]
    · unfold f_X12_nearest
      rcases isCell_s yS_ly (gN0 hN) c with ⟨q1, q2⟩ | ⟨q1, q2⟩
      · exact absurd q1 hc
      · simp only [lT_s, jn_s, c0_s, cp_s, cx_s, cx_t, gK_t (k_73  yS_ly), gN_t (r := 73) (by decide), r_73_0  yS_ly, r_73_1  yS_ly, r_73_2  yS_ly, r_73_5  yS_ly, r_73_6  yS_ly, r_73_7  yS_ly, r_73_8  yS_ly, r_73_9  yS_ly, r_73_10  yS_ly, r_73_11  yS_ly, r_73_12  yS_ly, r_73_13  yS_ly, r_73_14  yS_ly, r_73_28  yS_ly, r_73_29  yS_ly, r_73_30  yS_ly, r_73_38  yS_ly, r_73_39  yS_ly, r_73_40  yS_ly, r_73_42  yS_ly, r_73_43  yS_ly, r_73_44  yS_ly, r_73_45  yS_ly, r_73_46  yS_ly, r_73_47  yS_ly, r_73_48  yS_ly, r_73_49  yS_ly, r_73_50  yS_ly, r_73_51  yS_ly, r_73_53  yS_ly, r_73_58  yS_ly, r_73_59  yS_ly, r_73_60  yS_ly, r_73_61  yS_ly, r_73_62  yS_ly, r_73_63  yS_ly, q2, fail_s yS_ly, br_T]
theorem op_way (c d : Int32) : chkL (f_L_way yS 1 c d 110 MS) (f_X12_way yS 73 c d) = true := by
  rcases needCell_s yS_ly g0 c with ⟨hc, e⟩ | ⟨hc, e⟩
  · rcases needCell_s yS_ly g0 d with ⟨hd, e2⟩ | ⟨hd, e2⟩
    · rw [(inN_n hc).1, (inN_n hd).1]
      exact ev_way ⟨c.toInt.toNat, (inN_n hc).2⟩ ⟨d.toInt.toNat, (inN_n hd).2⟩
    · unfold f_L_way
      refine chk_g yS_ly 1 1 0 (thr_c (by decide) ?_) (fun N r h => MEQ_wL h) (fun N hN => thr_m (k := 1) rfl (by decide) ?_) (by decide) (fun _ _ => rfl) (fun h => absurd h (by decide)) (by decide) (by decide)
      · unfold f_X11_way
        simp only [lT_s, jn_s, c0_s, cp_s, cx_s, cx_t, gK_t (k_1  yS_ly), gN_t (r := 1) (by decide), r_1_0  yS_ly, r_1_1  yS_ly, r_1_2  yS_ly, r_1_3  yS_ly, r_1_4  yS_ly, r_1_5  yS_ly, r_1_6  yS_ly, r_1_7  yS_ly, r_1_8  yS_ly, r_1_9  yS_ly, r_1_10  yS_ly, e, e2, cx_1]
      · unfold f_X12_way
        rcases isCell_s yS_ly (gN0 hN) c with ⟨q1, q2⟩ | ⟨q1, q2⟩
        · rcases isCell_s yS_ly (gN0 hN) d with ⟨q3, q4⟩ | ⟨q3, q4⟩
          · exact absurd q3 hd
          · simp only [lT_s, jn_s, c0_s, cp_s, cx_s, cx_t, gK_t (k_73  yS_ly), gN_t (r := 73) (by decide), r_73_0  yS_ly, r_73_1  yS_ly, r_73_2  yS_ly, r_73_5  yS_ly, r_73_6  yS_ly, r_73_7  yS_ly, r_73_8  yS_ly, r_73_9  yS_ly, r_73_10  yS_ly, r_73_11  yS_ly, r_73_12  yS_ly, r_73_13  yS_ly, r_73_14  yS_ly, r_73_28  yS_ly, r_73_29  yS_ly, r_73_30  yS_ly, r_73_38  yS_ly, r_73_39  yS_ly, r_73_40  yS_ly, r_73_42  yS_ly, r_73_43  yS_ly, r_73_44  yS_ly, r_73_45  yS_ly, r_73_46  yS_ly, r_73_47  yS_ly, r_73_48  yS_ly, r_73_49  yS_ly, r_73_50  yS_ly, r_73_51  yS_ly, r_73_53  yS_ly, r_73_58  yS_ly, r_73_59  yS_ly, r_73_60  yS_ly, r_73_61  yS_ly, r_73_62  yS_ly, r_73_63  yS_ly, q2, q4, fail_s yS_ly, br_T]
            rw [bR_f (by decide)]
        · exact absurd hc q1
  · unfold f_L_way
    refine chk_g yS_ly 1 1 0 (thr_c (by decide) ?_) (fun N r h => MEQ_wL h) (fun N hN => thr_m (k := 1) rfl (by decide) ?_) (by decide) (fun _ _ => rfl) (fun h => absurd h (by decide)) (by decide) (by decide)
    · unfold f_X11_way
      simp only [lT_s, jn_s, c0_s, cp_s, cx_s, cx_t, gK_t (k_1  yS_ly), gN_t (r := 1) (by decide), r_1_0  yS_ly, r_1_1  yS_ly, r_1_2  yS_ly, r_1_3  yS_ly, r_1_4  yS_ly, r_1_5  yS_ly, r_1_6  yS_ly, r_1_7  yS_ly, r_1_8  yS_ly, r_1_9  yS_ly, r_1_10  yS_ly, e, cx_1]
    · unfold f_X12_way
      rcases isCell_s yS_ly (gN0 hN) c with ⟨q1, q2⟩ | ⟨q1, q2⟩
      · exact absurd q1 hc
      · simp only [lT_s, jn_s, c0_s, cp_s, cx_s, cx_t, gK_t (k_73  yS_ly), gN_t (r := 73) (by decide), r_73_0  yS_ly, r_73_1  yS_ly, r_73_2  yS_ly, r_73_5  yS_ly, r_73_6  yS_ly, r_73_7  yS_ly, r_73_8  yS_ly, r_73_9  yS_ly, r_73_10  yS_ly, r_73_11  yS_ly, r_73_12  yS_ly, r_73_13  yS_ly, r_73_14  yS_ly, r_73_28  yS_ly, r_73_29  yS_ly, r_73_30  yS_ly, r_73_38  yS_ly, r_73_39  yS_ly, r_73_40  yS_ly, r_73_42  yS_ly, r_73_43  yS_ly, r_73_44  yS_ly, r_73_45  yS_ly, r_73_46  yS_ly, r_73_47  yS_ly, r_73_48  yS_ly, r_73_49  yS_ly, r_73_50  yS_ly, r_73_51  yS_ly, r_73_53  yS_ly, r_73_58  yS_ly, r_73_59  yS_ly, r_73_60  yS_ly, r_73_61  yS_ly, r_73_62  yS_ly, r_73_63  yS_ly, q2, fail_s yS_ly, br_T]
theorem op_peg (c d : Int32) (hd : d = 0 ∨ d = 1) : chkL (f_L_peg yS 1 c d 110 MS) (f_X12_peg yS 73 c d) = true := by
  rcases needCell_s yS_ly g0 c with ⟨hc, e⟩ | ⟨hc, e⟩
  · rw [(inN_n hc).1]
    rcases hd with rfl | rfl
    · exact ev_peg ⟨c.toInt.toNat, (inN_n hc).2⟩ 0
    · exact ev_peg ⟨c.toInt.toNat, (inN_n hc).2⟩ 1
  · unfold f_L_peg
    refine chk_g yS_ly 1 1 0 (thr_c (by decide) ?_) (fun N r h => MEQ_wL h) (fun N hN => thr_m (k := 1) rfl (by decide) ?_) (by decide) (fun _ _ => rfl) (fun h => absurd h (by decide)) (by decide) (by decide)
    · unfold f_X11_peg
      simp only [lT_s, jn_s, c0_s, cp_s, cx_s, cx_t, gK_t (k_1  yS_ly), gN_t (r := 1) (by decide), r_1_0  yS_ly, r_1_1  yS_ly, r_1_2  yS_ly, r_1_3  yS_ly, r_1_4  yS_ly, r_1_5  yS_ly, r_1_6  yS_ly, r_1_7  yS_ly, r_1_8  yS_ly, r_1_9  yS_ly, r_1_10  yS_ly, e, cx_1]
    · unfold f_X12_peg
      rcases isCell_s yS_ly (gN0 hN) c with ⟨q1, q2⟩ | ⟨q1, q2⟩
      · exact absurd q1 hc
      · simp only [lT_s, jn_s, c0_s, cp_s, cx_s, cx_t, gK_t (k_73  yS_ly), gN_t (r := 73) (by decide), r_73_0  yS_ly, r_73_1  yS_ly, r_73_2  yS_ly, r_73_5  yS_ly, r_73_6  yS_ly, r_73_7  yS_ly, r_73_8  yS_ly, r_73_9  yS_ly, r_73_10  yS_ly, r_73_11  yS_ly, r_73_12  yS_ly, r_73_13  yS_ly, r_73_14  yS_ly, r_73_28  yS_ly, r_73_29  yS_ly, r_73_30  yS_ly, r_73_38  yS_ly, r_73_39  yS_ly, r_73_40  yS_ly, r_73_42  yS_ly, r_73_43  yS_ly, r_73_44  yS_ly, r_73_45  yS_ly, r_73_46  yS_ly, r_73_47  yS_ly, r_73_48  yS_ly, r_73_49  yS_ly, r_73_50  yS_ly, r_73_51  yS_ly, r_73_53  yS_ly, r_73_58  yS_ly, r_73_59  yS_ly, r_73_60  yS_ly, r_73_61  yS_ly, r_73_62  yS_ly, r_73_63  yS_ly, q2, fail_s yS_ly, br_T]
theorem z64 : (0 : Int64).toInt = 0 ∧ (1 : Int64).toInt = 1 ∧ (2 : Int64).toInt = 2 ∧ (4 : Int64).toInt = 4 ∧ (20 : Int64).toInt = 20 ∧ (40 : Int64).toInt = 40 ∧ (50 : Int64).toInt = 50 ∧ (99 : Int64).toInt = 99 := by decide
theorem op_skilled (c : Int32) : chkL (f_L_skilled yS 1 c 110 MS) (f_X12_skilled yS 73 c) = true := by
  rcases needWhat_s (y := yS) (M := MS) (m := 2) (by decide) c with ⟨hc, e⟩ | ⟨hc, e⟩
  · rw [(inN_n hc).1]
    exact ev_skilled ⟨c.toInt.toNat, (inN_n hc).2⟩
  · unfold f_L_skilled
    refine chk_g yS_ly 1 1 0 (thr_c (by decide) ?_) (fun N r h => MEQ_wL h) (fun N hN => thr_m (k := 1) rfl (by decide) ?_) (by decide) (fun _ _ => rfl) (fun h => absurd h (by decide)) (by decide) (by decide)
    · unfold f_X11_skilled
      have e : f_X11_needWhat yS 1 c (2 : Int32) MS = some (1, 0, MS) := e
      simp only [lT_s, jn_s, c0_s, cp_s, cx_s, cx_t, gK_t (k_1  yS_ly), gN_t (r := 1) (by decide), r_1_0  yS_ly, r_1_1  yS_ly, r_1_2  yS_ly, r_1_3  yS_ly, r_1_4  yS_ly, r_1_5  yS_ly, r_1_6  yS_ly, r_1_7  yS_ly, r_1_8  yS_ly, r_1_9  yS_ly, r_1_10  yS_ly, e, cx_1]
    · unfold f_X12_skilled
      rcases isIn_r (y := yS) (M := wI N 73 4 0) (a := 0) (b := 2) z64.1 z64.2.2.1 c with ⟨q1, q2⟩ | ⟨q1, q2⟩
      · exact absurd ⟨q1.1, by have := q1.2; omega⟩ hc
      · simp only [lT_s, jn_s, c0_s, cp_s, cx_s, cx_t, gK_t (k_73  yS_ly), gN_t (r := 73) (by decide), r_73_0  yS_ly, r_73_1  yS_ly, r_73_2  yS_ly, r_73_5  yS_ly, r_73_6  yS_ly, r_73_7  yS_ly, r_73_8  yS_ly, r_73_9  yS_ly, r_73_10  yS_ly, r_73_11  yS_ly, r_73_12  yS_ly, r_73_13  yS_ly, r_73_14  yS_ly, r_73_28  yS_ly, r_73_29  yS_ly, r_73_30  yS_ly, r_73_38  yS_ly, r_73_39  yS_ly, r_73_40  yS_ly, r_73_42  yS_ly, r_73_43  yS_ly, r_73_44  yS_ly, r_73_45  yS_ly, r_73_46  yS_ly, r_73_47  yS_ly, r_73_48  yS_ly, r_73_49  yS_ly, r_73_50  yS_ly, r_73_51  yS_ly, r_73_53  yS_ly, r_73_58  yS_ly, r_73_59  yS_ly, r_73_60  yS_ly, r_73_61  yS_ly, r_73_62  yS_ly, r_73_63  yS_ly, q2, fail_s yS_ly, br_T]
theorem op_streak (c : Int32) : chkL (f_L_streak yS 1 c 110 MS) (f_X12_streak yS 73 c) = true := by
  rcases needWhat_s (y := yS) (M := MS) (m := 1) (by decide) c with ⟨hc, e⟩ | ⟨hc, e⟩
  · rw [(inN_n hc).1]
    exact ev_streak ⟨c.toInt.toNat, (inN_n hc).2⟩
  · unfold f_L_streak
    refine chk_g yS_ly 1 1 0 (thr_c (by decide) ?_) (fun N r h => MEQ_wL h) (fun N hN => thr_m (k := 1) rfl (by decide) ?_) (by decide) (fun _ _ => rfl) (fun h => absurd h (by decide)) (by decide) (by decide)
    · unfold f_X11_streak
      have e : f_X11_needWhat yS 1 c (1 : Int32) MS = some (1, 0, MS) := e
      simp only [lT_s, jn_s, c0_s, cp_s, cx_s, cx_t, gK_t (k_1  yS_ly), gN_t (r := 1) (by decide), r_1_0  yS_ly, r_1_1  yS_ly, r_1_2  yS_ly, r_1_3  yS_ly, r_1_4  yS_ly, r_1_5  yS_ly, r_1_6  yS_ly, r_1_7  yS_ly, r_1_8  yS_ly, r_1_9  yS_ly, r_1_10  yS_ly, e, cx_1]
    · unfold f_X12_streak
      simp only [lT_s, jn_s, c0_s, cp_s, cx_s, cx_t, gK_t (k_73  yS_ly), gN_t (r := 73) (by decide), r_73_0  yS_ly, r_73_1  yS_ly, r_73_2  yS_ly, r_73_5  yS_ly, r_73_6  yS_ly, r_73_7  yS_ly, r_73_8  yS_ly, r_73_9  yS_ly, r_73_10  yS_ly, r_73_11  yS_ly, r_73_12  yS_ly, r_73_13  yS_ly, r_73_14  yS_ly, r_73_28  yS_ly, r_73_29  yS_ly, r_73_30  yS_ly, r_73_38  yS_ly, r_73_39  yS_ly, r_73_40  yS_ly, r_73_42  yS_ly, r_73_43  yS_ly, r_73_44  yS_ly, r_73_45  yS_ly, r_73_46  yS_ly, r_73_47  yS_ly, r_73_48  yS_ly, r_73_49  yS_ly, r_73_50  yS_ly, r_73_51  yS_ly, r_73_53  yS_ly, r_73_58  yS_ly, r_73_59  yS_ly, r_73_60  yS_ly, r_73_61  yS_ly, r_73_62  yS_ly, r_73_63  yS_ly, fail_s yS_ly]
      by_cases h1 : c < 0
      · rw [bR_t h1]
      · rw [bR_f h1]
        have h2 : ¬ c ≤ 1 := fun q => hc (by
          rw [i_lt] at h1
          rw [i_le] at q
          have z : (0 : Int32).toInt = 0 := rfl
          have z1 : (1 : Int32).toInt = 1 := rfl
          rw [z] at h1
          rw [z1] at q
          exact ⟨by omega, by omega⟩)
        rw [bR_f h2]

theorem t_game {y : Lay} (hy : LY y) {M : Mem} (hg : M.1 4 4 = 0) (c d e : Int32) : f_X11_game y 1 c d e M = some (1, 0, M) := by
  unfold f_X11_game
  rw [gK_t (k_1 hy), needGirl_0 hy hg, cx_1]
theorem t_gameM {y : Lay} (hy : LY y) {M : Mem} (hg : (wI M 73 4 0).1 77 2 = 0) (c d e : Int32) : f_X12_game y 73 c d e M = some (0, sr (wI M 73 4 0) 73 (up ((wI M 73 4 0).1 73) 4 1)) := by
  unfold f_X12_game
  rw [gK_t (k_73 hy), lT_s, isGirl_0 hy hg, cp_s, jn_s, bR_t rfl, fail_s hy, c0_s]
theorem op_game (c d e : Int32) : chkL (f_L_game yS 1 c d e 110 MS) (f_X12_game yS 73 c d e) = true := by
  unfold f_L_game
  exact chk_g yS_ly 1 1 0 (thr_c (by decide) (t_game yS_ly coa_S.2.1 c d e)) (fun N r h => MEQ_wL h) (fun N hN => thr_m (k := 1) rfl (by decide) (t_gameM yS_ly (com_0 hN).2.1 c d e)) (by decide) (fun _ _ => rfl) (fun h => absurd h (by decide)) (by decide) (by decide)
theorem t_look {y : Lay} (hy : LY y) {M : Mem} (c : Int32) (e : f_X11_needWhat y 1 c (n2 1) M = some (1, 0, M)) : f_X11_look y 1 c M = some (1, 0, M) := by
  unfold f_X11_look
  have e : f_X11_needWhat y 1 c (1 : Int32) M = some (1, 0, M) := e
  rw [gK_t (k_1 hy), e, cx_1]
theorem not_01 {c : Int32} (hc : ¬ inN 2 c) (h1 : ¬ c < 0) : ¬ c ≤ 1 := fun q => hc (by
  rw [i_lt] at h1
  rw [i_le] at q
  have z : (0 : Int32).toInt = 0 := rfl
  have z1 : (1 : Int32).toInt = 1 := rfl
  rw [z] at h1
  rw [z1] at q
  exact ⟨by omega, by omega⟩)
theorem t_lookM {y : Lay} (hy : LY y) {M : Mem} (c : Int32) (hc : ¬ inN 2 c) : f_X12_look y 73 c M = some (0, sr (wI M 73 4 0) 73 (up ((wI M 73 4 0).1 73) 4 1)) := by
  unfold f_X12_look
  rw [gK_t (k_73 hy), lT_s, jn_s, fail_s hy, c0_s]
  by_cases h1 : c < 0
  · rw [bR_t h1]
  · rw [bR_f h1, bR_f (not_01 hc h1)]
theorem op_look (c : Int32) : chkL (f_L_look yS 1 c 110 MS) (f_X12_look yS 73 c) = true := by
  rcases needWhat_s (y := yS) (M := MS) (m := 1) (by decide) c with ⟨hc, e⟩ | ⟨hc, e⟩
  · rw [(inN_n hc).1]
    exact ev_look ⟨c.toInt.toNat, (inN_n hc).2⟩
  · unfold f_L_look
    exact chk_g yS_ly 1 1 0 (thr_c (by decide) (t_look yS_ly c e)) (fun N r h => MEQ_wL h) (fun N hN => thr_m (k := 1) rfl (by decide) (t_lookM yS_ly c hc)) (by decide) (fun _ _ => rfl) (fun h => absurd h (by decide)) (by decide) (by decide)
