/-! ===== calls: peg, undo, forget, see ===== -/
def pegS (S : Sk) (c : Nat) (a : Int32) : Sk := ((if a = 0 then sB S else up (sB S) c 0), sSp S, sSk S, sPg S ^^^ bit c, sRs S, sKn S, sMa S, sDy S, 0)
def pegA (A : St) (c a : Int32) : St := if inN (kn (aK A)) c then (if fl01 (sPg (aS A)) c.toInt.toNat = a then refA A 1 else actA A (pegS (aS A) c.toInt.toNat a)) else A
def pegP (A : St) (c a : Int32) : Nat × Int32 := if inN (kn (aK A)) c then (if fl01 (sPg (aS A)) c.toInt.toNat = a then (0, -1) else (0, sB (aS A) c.toInt.toNat)) else (1, 0)
theorem BOK.up0 {n : Nat} {B : Row} (h : BOK n B) (c : Nat) : BOK n (up B c 0) := by
  refine ⟨fun k => ?_, fun k hk => ?_⟩
  · by_cases e : k = c
    · rw [e, up_eq]; exact ⟨0, by decide, rfl⟩
    · rw [up_ne e]; exact h.1 k
  · by_cases e : k = c
    · rw [e, up_eq]
    · rw [up_ne e]; exact h.2 k hk
theorem peg_val {A : St} (v : VAL A) (c a : Int32) (ha : a = 0 ∨ a = 1) : VAL (pegA A c a) := by
  unfold pegA
  have h30 := v.1.n30
  split
  · rename_i q
    split
    · exact v
    · rename_i hq
      obtain ⟨e1, e2⟩ := inN_n q
      generalize c.toInt.toNat = cc at e1 e2 hq
      have hv := v.2.1.1.1
      refine VAL.act v ⟨⟨⟨?_, ?_⟩, hv.2.1, hv.2.2⟩, v.2.1.1.2⟩ rfl
      · show BOK _ (if a = 0 then sB (aS A) else up (sB (aS A)) cc 0)
        split
        · exact hv.1.1
        · exact hv.1.1.up0 cc
      · intro k hk hb0
        have hb : bt (sPg (aS A) ^^^ bit cc) k = 1 := hb0
        clear hb0
        rw [bt_xor (by omega), bt_b (by omega) (by omega)] at hb
        show (if a = 0 then sB (aS A) else up (sB (aS A)) cc 0) k = 0
        rcases ha with rfl | rfl
        · rw [if_pos rfl]
          by_cases e : k = cc
          · exfalso
            rcases bt01 (sPg (aS A)) cc with w | w
            · exact hq (fl01_0 w)
            · subst e; exact hb ⟨fun _ => rfl, fun _ => w⟩
          · refine hv.1.2 k hk ?_
            by_cases w : bt (sPg (aS A)) k = 1
            · exact w
            · exact absurd ⟨fun z => absurd z w, fun z => absurd z e⟩ hb
        · rw [if_neg (by decide)]
          by_cases e : k = cc
          · rw [e, up_eq]
          · rw [up_ne e]
            refine hv.1.2 k hk ?_
            by_cases w : bt (sPg (aS A)) k = 1
            · exact w
            · exact absurd ⟨fun z => absurd z w, fun z => absurd z e⟩ hb
  · exact v
theorem peg_c {y : Lay} (hy : LY y) {A : St} {M : Mem} (h : CR A M) (v : VAL A) (c a : Int32) (ha : a = 0 ∨ a = 1) : wp (f_X11_peg y 1 c a M) (OC (pegA A c a) (pegP A c a) M) := by
  unfold f_X11_peg
  have h30 := v.1.n30
  rw [gK_t (k_1 hy)]
  unfold pegA pegP
  rcases needCell_s hy (h.1.geo v.1) c with ⟨q, e⟩ | ⟨q, e⟩
  · have qq : inN (kn (aK A)) c := q
    rw [e, cx_s, if_pos qq, if_pos qq]
    clear qq
    obtain ⟨e1, e2⟩ := inN_n q
    generalize c.toInt.toNat = cc at e1 e2
    subst e1
    have hc : cc < 30 := Nat.lt_of_lt_of_le e2 h30
    simp only [lT_s, jn_s, c0_s, cp_s, cx_s, cx_t, gK_t (k_1 hy), gN_t (r := 1) (by decide), r_1_0 hy, r_1_1 hy, r_1_2 hy, r_1_3 hy, r_1_4 hy, r_1_5 hy, r_1_6 hy, r_1_7 hy, r_1_8 hy, r_1_9 hy, r_1_10 hy, gK_t (k_30 hy), gN_t (r := 30) (by decide), r_30_0 hy, r_30_1 hy, r_30_2 hy, r_30_3 hy, r_30_4 hy, r_30_5 hy, gK_t (k_37 hy), gN_t (r := 37) (by decide), r_37_0 hy, r_37_1 hy, r_37_2 hy, r_37_3 hy, r_37_4 hy, r_37_5 hy, r_37_6 hy, isPegged_g (k_37 hy)]
    have hf : (if ((M.1 37 7 >>> (n2 cc &&& 31)) &&& 1) = 0 then (0 : Int32) else 1) = fl01 (sPg (aS A)) cc := by rw [h.v.2.1]; rfl
    rw [hf]
    by_cases hq : fl01 (sPg (aS A)) cc = a
    · rw [if_pos hq, if_pos hq]
      refine wp_brt hq ?_
      exact wp_c0 _ (refuseAct_c hy h) (fun r M1 q => by obtain ⟨q1, q2, q3⟩ := q; exact wp_some ⟨rfl, fun _ => q1, q2, q3⟩)
    · rw [if_neg hq, if_neg hq]
      refine wp_brf hq ?_
      refine wp_c0 _ (keep_oc hy h v) (fun r M1 q => ?_)
      obtain ⟨-, w2, w3⟩ := q
      dsimp only at w2 w3
      have hv := w3.v
      have hv38 : M1.1 38 cc = sB (aS A) cc := congrFun hv.1.1 cc
      rw [blueOf_37 hy hc, cp_s, hv38]
      unfold f_X8_setPeg
      simp only [lT_s, jn_s, c0_s, cp_s, cx_s, cx_t, gK_t (k_37 hy), gN_t (r := 37) (by decide), r_37_0 hy, r_37_1 hy, r_37_2 hy, r_37_3 hy, r_37_4 hy, r_37_5 hy, r_37_6 hy, gN_t (r := 38) (by decide), wI_sr, hv.2.1, bR_f (n2_n0 (show cc < 2147483648 by omega)), bR_f (nle_l (c := 30) (m := 30) rfl hc (by omega)), gA_n (k_38 hy) hc (by omega), n2_nat (show cc < 2147483648 by omega)]
      rcases ha with rfl | rfl
      · rw [bR_t rfl, bR_t rfl, c0_s]
        rcases bt01 (sPg (aS A)) cc with hb | hb
        · exact absurd (fl01_0 hb) hq
        · refine OC.ret ?_ (kM_sr (w2.kM (by decide)) (by decide))
          refine CR.sky w3 ((Eqx.refl _ _).sr (by decide)) (S := pegS (aS A) cc 0) ?_
          show (M1.1 38, M1.1 41, M1.1 42, sPg (aS A) &&& (bit cc ^^^ -1), M1.1 37 8, M1.1 37 9, M1.1 37 10, M1.1 37 11, (0 : Int32)) = _
          rw [clr_x (by omega) hb, hv.1.1, hv.1.2.1, hv.1.2.2, hv.2.2.1, hv.2.2.2.1, hv.2.2.2.2.1, hv.2.2.2.2.2]
          rfl
      · rw [bR_f (by decide), bR_f (by decide), c0_s]
        rcases bt01 (sPg (aS A)) cc with hb | hb
        · refine OC.ret ?_ (kM_sr (kM_sr (w2.kM (by decide)) (by decide)) (by decide))
          refine CR.sky w3 (((Eqx.refl _ _).sr (by decide)).sr (by decide)) (S := pegS (aS A) cc 1) ?_
          show (up (M1.1 38) cc 0, M1.1 41, M1.1 42, sPg (aS A) ||| bit cc, M1.1 37 8, M1.1 37 9, M1.1 37 10, M1.1 37 11, (0 : Int32)) = _
          rw [set_x (by omega) hb, hv.1.1, hv.1.2.1, hv.1.2.2, hv.2.2.1, hv.2.2.2.1, hv.2.2.2.2.1, hv.2.2.2.2.2]
          rfl
        · exact absurd (fl01_1 hb) hq
  · have qq : ¬ inN (kn (aK A)) c := q
    rw [e, if_neg qq, if_neg qq]
    exact OC.thr h (by decide)
theorem peg_m {y : Lay} (hy : LY y) {A : St} {M : Mem} (h : MR A M) (v : VAL A) (c a : Int32) : wp (f_X12_peg y 73 c a M) (OM (pegA A c a) (pegP A c a) M) := by
  unfold f_X12_peg
  have h30 := v.1.n30
  rw [gK_t (k_73 hy)]
  refine OM.start hy h (fun M0 h0 g0 hc => ?_)
  unfold pegA pegP
  rcases isCell_s hy (h0.1.geo v.1) c with ⟨q, e⟩ | ⟨q, e⟩
  · have qq : inN (kn (aK A)) c := q
    rw [e, cp_s, if_pos qq, if_pos qq]
    clear qq
    refine wp_brf (by decide) ?_
    obtain ⟨e1, e2⟩ := inN_n q
    generalize c.toInt.toNat = cc at e1 e2
    subst e1
    have hcc : cc < 30 := Nat.lt_of_lt_of_le e2 h30
    rw [isOf_f, cp_s, h0.v.2.1]
    by_cases hq : fl01 (sPg (aS A)) cc = a
    · rw [if_pos hq, if_pos hq]
      refine wp_brt hq ?_
      exact refuse_om hy h0 g0 hc (k := 1) (by decide)
    · rw [if_neg hq, if_neg hq]
      refine wp_brf hq ?_
      refine wp_c0 _ (keep_om hy h0 v) (fun r M1 q => ?_)
      obtain ⟨-, w2, w3, w4⟩ := q
      dsimp only at w2 w3 w4
      have hv := w3.v
      have hv87 : M1.1 87 cc = sB (aS A) cc := congrFun hv.1.1 cc
      simp only [lT_s, jn_s, c0_s, cp_s, cx_s, cx_t, gK_t (k_73 hy), gN_t (r := 73) (by decide), r_73_0 hy, r_73_1 hy, r_73_2 hy, r_73_5 hy, r_73_6 hy, r_73_7 hy, r_73_8 hy, r_73_9 hy, r_73_10 hy, r_73_11 hy, r_73_12 hy, r_73_13 hy, r_73_14 hy, r_73_28 hy, r_73_29 hy, r_73_30 hy, r_73_38 hy, r_73_39 hy, r_73_40 hy, r_73_42 hy, r_73_43 hy, r_73_44 hy, r_73_45 hy, r_73_46 hy, r_73_47 hy, r_73_48 hy, r_73_49 hy, r_73_50 hy, r_73_51 hy, r_73_53 hy, r_73_58 hy, r_73_59 hy, r_73_60 hy, r_73_61 hy, r_73_62 hy, r_73_63 hy, gN_t (r := 87) (by decide), gA_n (k_87 hy) hcc (by omega), n2_nat (show cc < 2147483648 by omega), wI_sr, hv87, hv.2.1]
      have hc4 : ∀ x, (sr M1 73 (up (M1.1 73) 34 x)).1 73 4 = 0 := fun x => by rw [sr_ap, up_ne (by decide), w4 4 (by decide), hc]
      refine wp_br (fun ha => ?_) (fun ha => ?_)
      · refine OM.ret ?_ (kC_sr (g0.trans (w2.kC (by decide))) (by decide)) (hc4 _)
        refine MR.sky w3 ((Eqx.refl _ _).sr (by decide)) (F73.up (by decide)) (S := pegS (aS A) cc a) ?_
        show (M1.1 87, M1.1 88, M1.1 85, sPg (aS A) ^^^ bit cc, M1.1 73 35, M1.1 73 32, M1.1 73 33, M1.1 73 31, (0 : Int32)) = _
        unfold pegS
        rw [if_pos ha, hv.1.1, hv.1.2.1, hv.1.2.2, hv.2.2.1, hv.2.2.2.1, hv.2.2.2.2.1, hv.2.2.2.2.2]
        rfl
      · refine OM.ret ?_ (kC_sr (kC_sr (g0.trans (w2.kC (by decide))) (by decide)) (by decide)) (by rw [sr_ne (by decide)]; exact hc4 _)
        refine MR.sky w3 (((Eqx.refl _ _).sr (by decide)).sr (by decide)) ((F73.up (j := 34) (by decide)).trans (F73.row (sr_ne (by decide)))) (S := pegS (aS A) cc a) ?_
        show (up (M1.1 87) cc 0, M1.1 88, M1.1 85, sPg (aS A) ^^^ bit cc, M1.1 73 35, M1.1 73 32, M1.1 73 33, M1.1 73 31, (0 : Int32)) = _
        unfold pegS
        rw [if_neg ha, hv.1.1, hv.1.2.1, hv.1.2.2, hv.2.2.1, hv.2.2.2.1, hv.2.2.2.2.1, hv.2.2.2.2.2]
        rfl
  · have qq : ¬ inN (kn (aK A)) c := q
    rw [e, cp_s, if_neg qq, if_neg qq]
    exact wp_brt rfl (OM.fail hy rfl (by decide) h0 g0)
/-! undo -/
def undoA (A : St) : St := if (mA (aM A)).1 = 0 then A else wM A (vk ((mA (aM A)).2 ((mA (aM A)).1 - 1)) (sSk (aS A)), ((mA (aM A)).1 - 1, (mA (aM A)).2), mN (aM A), mT (aM A))
def undoR (A : St) : Int32 := if (mA (aM A)).1 = 0 then -1 else n2 ((mA (aM A)).1 - 1)
theorem undo_val {A : St} (v : VAL A) : VAL (undoA A) := by
  unfold undoA
  split
  · exact v
  · rename_i q
    obtain ⟨v1, ⟨v2, v3, v4⟩, v5, v6⟩ := v
    have w := v3.2 ((mA (aM A)).1 - 1) (by show (mA (aM A)).1 - 1 < (mA (aM A)).1; omega)
    refine ⟨v1, ⟨⟨⟨w.1.1, w.1.2.1, v2.1.2.2.1, w.1.2.2.2⟩, w.2⟩, ⟨?_, fun j hj => v3.2 j ?_⟩, v4⟩, fun q => ⟨(v5 q).1, (v5 q).2⟩, v6⟩
    · show (mA (aM A)).1 - 1 ≤ 40
      have : (mA (aM A)).1 ≤ 40 := v3.1
      omega
    · have hj : j < (mA (aM A)).1 - 1 := hj
      show j < (mA (aM A)).1
      omega
theorem undo_c {y : Lay} (hy : LY y) {A : St} {M : Mem} (h : CR A M) (v : VAL A) : wp (f_X11_undo y 1 M) (OD (undoA A) (undoR A) M) := by
  unfold f_X11_undo f_X0_takeBack
  obtain ⟨b1, b2, b3, b4⟩ := h.2.1
  have h40 : (mA (aM A)).1 ≤ 40 := v.2.1.2.1.1
  have b21 : M.1 31 1 = n2 (mA (aM A)).1 := b2.1
  simp only [lT_s, jn_s, c0_s, cp_s, cx_s, cx_t, gK_t (k_1 hy), gN_t (r := 1) (by decide), r_1_0 hy, r_1_1 hy, r_1_2 hy, r_1_3 hy, r_1_4 hy, r_1_5 hy, r_1_6 hy, r_1_7 hy, r_1_8 hy, r_1_9 hy, r_1_10 hy, gK_t (k_30 hy), gN_t (r := 30) (by decide), r_30_0 hy, r_30_1 hy, r_30_2 hy, r_30_3 hy, r_30_4 hy, r_30_5 hy, gK_t (k_31 hy), gN_t (r := 31) (by decide), r_31_0 hy, gK_t (k_37 hy), gN_t (r := 37) (by decide), r_37_0 hy, r_37_1 hy, r_37_2 hy, r_37_3 hy, r_37_4 hy, r_37_5 hy, r_37_6 hy, gN_t (r := 32) (by decide), b21]
  unfold undoA undoR
  by_cases hq : (mA (aM A)).1 = 0
  · rw [if_pos hq, if_pos hq, hq, bR_f (by decide), c0_s]
    exact wp_brt rfl (wp_some ⟨rfl, h, kM.refl M⟩)
  · rw [if_neg hq, if_neg hq]
    refine wp_c0 (fun o => o.1 = 1 ∧ Eqx [31, 37, 38, 41] M o.2 ∧ vo (skV o.2 37 38 41 42) = vk ((mA (aM A)).2 ((mA (aM A)).1 - 1)) (sSk (aS A)) ∧ o.2.1 31 1 = n2 ((mA (aM A)).1 - 1)) ?_ ?_
    · refine wp_brt (by rw [show (0 : Int32) = n2 0 from rfl, n2_lt (by decide) (by omega)]; omega) ?_
      rw [wI_sr, show n2 (mA (aM A)).1 - 1 = n2 ((mA (aM A)).1 - 1) from n2_sub (b := 1) (by omega), sr_ap, up_eq, n41]
      have hS := v.2.1.1.1
      have hT := (v.2.1.2.1.2 ((mA (aM A)).1 - 1) (by show (mA (aM A)).1 - 1 < (mA (aM A)).1; omega)).1
      refine wp_c0 _ (load_s hy (f := 41 * ((mA (aM A)).1 - 1)) (by omega) (S := (mA (aM A)).2 ((mA (aM A)).1 - 1)) (by rw [sr_ne (by decide)]; exact b2.2 _ (by show (mA (aM A)).1 - 1 < (mA (aM A)).1; omega)) ?_ ?_) (fun r M1 q => ?_)
      · intro k hk
        rw [sr_ne (by decide), h.v.1.1, hS.b v.1 k hk]
        exact (hT.b v.1 k hk).symm
      · intro k hk
        rw [sr_ne (by decide), h.v.1.2.1, hS.sp k hk]
        exact (hT.sp k hk).symm
      · obtain ⟨-, q2, q3, q4⟩ := q
        dsimp only at q2 q3 q4
        refine wp_some ⟨rfl, ((Eqx.refl _ _).sr (by decide)).trans (q2.mono (by decide)), ?_, ?_⟩
        · rw [q3, sr_ne (by decide), h.v.1.2.2]
        · rw [q2.2 31 (by decide), sr_ap, up_eq]
    · intro r M1 q
      obtain ⟨q1, q2, q3, q4⟩ := q
      dsimp only at q1 q2 q3 q4
      rw [q1]
      refine wp_brf (by decide) (wp_some ⟨q4, ?_, q2.kM (by decide)⟩)
      refine CR.upd h (q2.mono (by decide)) ⟨?_, ⟨q4, fun j hj => ?_⟩, ?_, ?_⟩
      · rw [q3]; rfl
      · rw [q2.2 32 (by decide)]
        have hj : j < (mA (aM A)).1 - 1 := hj
        exact b2.2 j (by show j < (mA (aM A)).1; omega)
      · rw [q2.2 30 (by decide), q2.2 33 (by decide), q2.2 34 (by decide), q2.2 35 (by decide)]; exact b3
      · rw [q2.2 36 (by decide)]; exact b4
theorem undo_m {y : Lay} (hy : LY y) {A : St} {M : Mem} (h : MR A M) (v : VAL A) : wp (f_X12_undo y 73 M) (OM (undoA A) (0, undoR A) M) := by
  unfold f_X12_undo
  rw [gK_t (k_73 hy)]
  refine OM.start hy h (fun M0 h0 g0 hc => ?_)
  obtain ⟨b1, b2, b3, b4⟩ := h0.2.1
  have h40 : (mA (aM A)).1 ≤ 40 := v.2.1.2.1.1
  have b21 : M0.1 73 36 = n2 (mA (aM A)).1 := b2.1
  rw [b21]
  unfold undoA undoR
  by_cases hq : (mA (aM A)).1 = 0
  · rw [if_pos hq, if_pos hq, hq]
    exact wp_brt rfl (OM.ret h0 g0 hc)
  · rw [if_neg hq, if_neg hq]
    refine wp_brf (by rw [show (0 : Int32) = n2 0 from rfl, n2_inj (by omega) (by decide)]; exact hq) ?_
    rw [lT_s, wI_sr, show n2 (mA (aM A)).1 - 1 = n2 ((mA (aM A)).1 - 1) from n2_sub (b := 1) (by omega), sr_ap, up_eq, n41']
    simp only [gK_t (k_73 hy), gN_t (r := 73) (by decide), r_73_0 hy, r_73_1 hy, r_73_2 hy, r_73_5 hy, r_73_6 hy, r_73_7 hy, r_73_8 hy, r_73_9 hy, r_73_10 hy, r_73_11 hy, r_73_12 hy, r_73_13 hy, r_73_14 hy, r_73_28 hy, r_73_29 hy, r_73_30 hy, r_73_38 hy, r_73_39 hy, r_73_40 hy, r_73_42 hy, r_73_43 hy, r_73_44 hy, r_73_45 hy, r_73_46 hy, r_73_47 hy, r_73_48 hy, r_73_49 hy, r_73_50 hy, r_73_51 hy, r_73_53 hy, r_73_58 hy, r_73_59 hy, r_73_60 hy, r_73_61 hy, r_73_62 hy, r_73_63 hy, gN_t (r := 89) (by decide)]
    have hS := v.2.1.1.1
    have hT := (v.2.1.2.1.2 ((mA (aM A)).1 - 1) (by show (mA (aM A)).1 - 1 < (mA (aM A)).1; omega)).1
    refine wp_c0 _ (unpack_89 hy (f := 41 * ((mA (aM A)).1 - 1)) (by omega) (S := (mA (aM A)).2 ((mA (aM A)).1 - 1)) (by rw [sr_ne (by decide)]; exact b2.2 _ (by show (mA (aM A)).1 - 1 < (mA (aM A)).1; omega)) ?_ ?_) (fun r M1 q => ?_)
    · intro k hk
      rw [sr_ne (by decide), h0.v.1.1, hS.b v.1 k hk]
      exact (hT.b v.1 k hk).symm
    · intro k hk
      rw [sr_ne (by decide), h0.v.1.2.1, hS.sp k hk]
      exact (hT.sp k hk).symm
    · obtain ⟨-, q2, q3, q4⟩ := q
      dsimp only at q2 q3 q4
      have k73 : ∀ k, ¬ (31 ≤ k ∧ k ≤ 36) → M1.1 73 k = M0.1 73 k := fun k hk => by rw [q4 k (by omega), sr_ap, up_ne (by omega)]
      have hE : Eqx [73, 87, 88] M0 M1 := ((Eqx.refl _ _).sr (by decide)).trans q2
      have k36 : M1.1 73 36 = n2 ((mA (aM A)).1 - 1) := by rw [q4 36 (by omega), sr_ap, up_eq]
      refine wp_some ⟨?_, fun _ => k36, ?_, g0.trans (hE.kC (by decide))⟩
      · show M1.1 73 4 = 0
        rw [k73 4 (by omega), hc]
      · refine MR.upd h0 (hE.mono (by decide)) ⟨k73 15 (by omega), k73 24 (by omega), k73 55 (by omega), k73 56 (by omega), k73 57 (by omega)⟩ ⟨?_, ⟨k36, fun j hj => ?_⟩, ?_, ?_⟩
        · rw [q3, sr_ne (by decide), h0.v.1.2.2]; rfl
        · rw [hE.2 89 (by decide)]
          have hj : j < (mA (aM A)).1 - 1 := hj
          exact b2.2 j (by show j < (mA (aM A)).1; omega)
        · rw [k73 37 (by omega), hE.2 97 (by decide), hE.2 98 (by decide), hE.2 99 (by decide)]; exact b3
        · rw [hE.2 84 (by decide)]; exact b4
/-! forget -/
def forgetA (A : St) : St := wM A (mS (aM A), mA (aM A), (0, (mN (aM A)).2), mT (aM A))
theorem forget_val {A : St} (v : VAL A) : VAL (forgetA A) := ⟨v.1, ⟨v.2.1.1, v.2.1.2.1, Nat.zero_le _, fun k hk => absurd hk (Nat.not_lt_zero _)⟩, v.2.2⟩
theorem forget_c {y : Lay} (hy : LY y) {A : St} {M : Mem} (h : CR A M) : wp (f_X11_forget y 1 M) (OD (forgetA A) 0 M) := by
  unfold f_X11_forget
  simp only [lT_s, jn_s, c0_s, cp_s, cx_s, cx_t, gK_t (k_1 hy), gN_t (r := 1) (by decide), r_1_0 hy, r_1_1 hy, r_1_2 hy, r_1_3 hy, r_1_4 hy, r_1_5 hy, r_1_6 hy, r_1_7 hy, r_1_8 hy, r_1_9 hy, r_1_10 hy, gK_t (k_30 hy), gN_t (r := 30) (by decide), r_30_0 hy, r_30_1 hy, r_30_2 hy, r_30_3 hy, r_30_4 hy, r_30_5 hy, wI_sr]
  refine wp_some ⟨rfl, ?_, kM_sr (kM.refl M) (by decide)⟩
  obtain ⟨b1, b2, b3, b4⟩ := h.2.1
  refine CR.upd h ((Eqx.refl _ _).sr (by decide)) ⟨b1, b2, ⟨?_, fun k hk => absurd hk (Nat.not_lt_zero _)⟩, b4⟩
  rw [sr_ap, up_eq]; rfl
theorem forget_m {y : Lay} (hy : LY y) {A : St} {M : Mem} (h : MR A M) : wp (f_X12_forget y 73 M) (OM (forgetA A) (0, 0) M) := by
  unfold f_X12_forget
  rw [gK_t (k_73 hy)]
  refine OM.start hy h (fun M0 h0 g0 hc => ?_)
  rw [lT_s, wI_sr]
  obtain ⟨b1, b2, b3, b4⟩ := h0.2.1
  refine OM.ret ?_ (kC_sr g0 (by decide)) (by rw [sr_ap, up_ne (by decide), hc])
  refine MR.upd h0 ((Eqx.refl _ _).sr (by decide)) ⟨by rw [sr_ap]; rfl, by rw [sr_ap]; rfl, by rw [sr_ap]; rfl, by rw [sr_ap]; rfl, by rw [sr_ap]; rfl⟩ ⟨b1, b2, ⟨?_, fun k hk => absurd hk (Nat.not_lt_zero _)⟩, b4⟩
  rw [sr_ap, up_eq]; rfl
/-! see -/
def seeN (s : Sn) (c n b : Int32) : Sn := (s.1 + 1, up s.2.1 s.1 c, up s.2.2.1 s.1 n, up s.2.2.2 s.1 b)
abbrev seeQ (A : St) (n b : Int32) : Prop := (mN (aM A)).1 < 8 ∧ inR 0 20 n ∧ inR 0 99 b
def seeA (A : St) (c n b : Int32) : St := if inN (kn (aK A)) c then (if seeQ A n b then wM A (mS (aM A), mA (aM A), seeN (mN (aM A)) c n b, mT (aM A)) else refA A 2) else A
def seeP (A : St) (c n b : Int32) : Nat × Int32 := if inN (kn (aK A)) c then (if seeQ A n b then (0, n2 ((mN (aM A)).1 + 1)) else (0, -1)) else (1, 0)
theorem see_val {A : St} (v : VAL A) (c n b : Int32) : VAL (seeA A c n b) := by
  unfold seeA
  split
  · rename_i q
    split
    · rename_i q2
      refine ⟨v.1, ⟨v.2.1.1, v.2.1.2.1, ?_, fun k hk => ?_⟩, v.2.2⟩
      · show (mN (aM A)).1 + 1 ≤ 8
        have := q2.1
        omega
      · have hk : k < (mN (aM A)).1 + 1 := hk
        obtain ⟨e1, e2⟩ := inN_n q
        obtain ⟨e3, e4⟩ := inR_n q2.2.1
        obtain ⟨e5, e6⟩ := inR_n q2.2.2
        show (∃ c', c' < kn (aK A) ∧ up (mN (aM A)).2.1 (mN (aM A)).1 c k = n2 c') ∧ (∃ d, d ≤ 20 ∧ up (mN (aM A)).2.2.1 (mN (aM A)).1 n k = n2 d) ∧ ∃ b', b' ≤ 99 ∧ up (mN (aM A)).2.2.2 (mN (aM A)).1 b k = n2 b'
        by_cases e : k = (mN (aM A)).1
        · rw [e, up_eq, up_eq, up_eq]
          exact ⟨⟨_, e2, e1⟩, ⟨_, e4.2, e3⟩, ⟨_, e6.2, e5⟩⟩
        · rw [up_ne e, up_ne e, up_ne e]
          exact v.2.1.2.2.2 k (by show k < (mN (aM A)).1; omega)
    · exact v
  · exact v
theorem see_c {y : Lay} (hy : LY y) {A : St} {M : Mem} (h : CR A M) (v : VAL A) (c n b : Int32) : wp (f_X11_see y 1 c n b M) (OC (seeA A c n b) (seeP A c n b) M) := by
  unfold f_X11_see
  rw [gK_t (k_1 hy)]
  unfold seeA seeP
  have z0 : (0 : Int32).toInt = 0 := by decide
  have z20 : (20 : Int32).toInt = 20 := by decide
  have z99 : (99 : Int32).toInt = 99 := by decide
  rcases needCell_s hy (h.1.geo v.1) c with ⟨q, e⟩ | ⟨q, e⟩
  · have qq : inN (kn (aK A)) c := q
    rw [e, cx_s, if_pos qq, if_pos qq]
    obtain ⟨b1, b2, b3, b4⟩ := h.2.1
    have h8 : (mN (aM A)).1 ≤ 8 := v.2.1.2.2.1
    have b31 : M.1 30 6 = n2 (mN (aM A)).1 := b3.1
    rw [jn_s]
    simp only [gK_t (k_1 hy), gN_t (r := 1) (by decide), r_1_0 hy, r_1_1 hy, r_1_2 hy, r_1_3 hy, r_1_4 hy, r_1_5 hy, r_1_6 hy, r_1_7 hy, r_1_8 hy, r_1_9 hy, r_1_10 hy, gK_t (k_30 hy), gN_t (r := 30) (by decide), r_30_0 hy, r_30_1 hy, r_30_2 hy, r_30_3 hy, r_30_4 hy, r_30_5 hy]
    have hrf : ¬ seeQ A n b → wp (c0 (f_X4_refuse y 30 2 M) fun (r8 : Int32) (M9 : Mem) => some (0, ((-1) : Int32), M9)) (OC (if seeQ A n b then wM A (mS (aM A), mA (aM A), seeN (mN (aM A)) c n b, mT (aM A)) else refA A 2) (if seeQ A n b then (0, n2 ((mN (aM A)).1 + 1)) else (0, -1)) M) := fun w => by
      rw [if_neg w, if_neg w, refuse_c2 hy, c0_s]
      exact OC.ret (h.ref (by decide)) (kM_sr (kM.refl M) (by decide))
    refine wp_br (fun q => hrf (fun z => ?_)) (fun q1 => wp_br (fun q => hrf (fun z => ?_)) (fun q2 => wp_br (fun q => hrf (fun z => ?_)) (fun q3 => wp_br (fun q => hrf (fun z => ?_)) (fun q4 => ?_))))
    · rw [i_lt, z0] at q; have := z.2.1.1; omega
    · rw [i_lt, z20] at q; have := z.2.1.2; omega
    · rw [i_lt, z0] at q; have := z.2.2.1; omega
    · rw [i_lt, z99] at q; have := z.2.2.2; omega
    · rw [i_lt, z0] at q1 q3
      rw [i_lt, z20] at q2
      rw [i_lt, z99] at q4
      unfold f_X4_addSeen
      simp only [lT_s, jn_s, c0_s, cp_s, cx_s, cx_t, gK_t (k_30 hy), gN_t (r := 30) (by decide), r_30_0 hy, r_30_1 hy, r_30_2 hy, r_30_3 hy, r_30_4 hy, r_30_5 hy, gN_t (r := 33) (by decide), gN_t (r := 34) (by decide), gN_t (r := 35) (by decide), b31]
      rw [bR_f (n2_n0 (by omega))]
      by_cases h7 : (mN (aM A)).1 < 8
      · have hq : seeQ A n b := ⟨h7, ⟨by omega, by omega⟩, by omega, by omega⟩
        rw [if_pos hq, if_pos hq]
        rw [bR_t (by rw [show (8 : Int32) = n2 8 from rfl, n2_lt (by omega) (by decide)]; exact h7)]
        generalize hnn : (mN (aM A)).1 = nn at h7 h8 b31 b3
        simp only [gA_n (k_33 hy) h7 (by omega), wI_sr, sr_ne (show ¬ 30 = 33 by decide), sr_ne (show ¬ 30 = 34 by decide), sr_ne (show ¬ 30 = 35 by decide), b31, gA_n (k_34 hy) h7 (by omega), gA_n (k_35 hy) h7 (by omega), n2_nat (show nn < 2147483648 by omega), c0_s, n2_s]
        refine wp_brf (by decide) ?_
        rw [sr_ap, up_eq]
        refine OC.ret ?_ (kM_sr (kM_sr (kM_sr (kM_sr (kM.refl M) (by decide)) (by decide)) (by decide)) (by decide))
        refine CR.upd h (((((Eqx.refl _ _).sr (by decide)).sr (by decide)).sr (by decide)).sr (by decide)) ⟨b1, b2, ⟨?_, fun k hk => ?_⟩, b4⟩
        · rw [sr_ap, up_eq]; show n2 (nn + 1) = n2 ((mN (aM A)).1 + 1); rw [hnn]
        · have hk : k < (mN (aM A)).1 + 1 := hk
          simp only [sr_1, Nat.reduceEqDiff, if_false, if_true, ↓reduceIte]
          show up (M.1 33) nn c k = up (mN (aM A)).2.1 (mN (aM A)).1 c k ∧ up (M.1 34) nn n k = up (mN (aM A)).2.2.1 (mN (aM A)).1 n k ∧ up (M.1 35) nn b k = up (mN (aM A)).2.2.2 (mN (aM A)).1 b k
          rw [hnn]
          by_cases e : k = nn
          · rw [e, up_eq, up_eq, up_eq, up_eq, up_eq, up_eq]; exact ⟨rfl, rfl, rfl⟩
          · rw [up_ne e, up_ne e, up_ne e, up_ne e, up_ne e, up_ne e]
            exact b3.2 k (by show k < nn; omega)
      · rw [bR_f (by rw [show (8 : Int32) = n2 8 from rfl, n2_lt (by omega) (by decide)]; exact h7), c0_s]
        exact wp_brt rfl (hrf (fun z => h7 z.1))
  · have qq : ¬ inN (kn (aK A)) c := q
    rw [e, if_neg qq, if_neg qq]
    exact OC.thr h (by decide)
theorem see_m {y : Lay} (hy : LY y) {A : St} {M : Mem} (h : MR A M) (v : VAL A) (c n b : Int32) : wp (f_X12_see y 73 c n b M) (OM (seeA A c n b) (seeP A c n b) M) := by
  unfold f_X12_see
  rw [gK_t (k_73 hy)]
  refine OM.start hy h (fun M0 h0 g0 hc => ?_)
  unfold seeA seeP
  rcases isCell_s hy (h0.1.geo v.1) c with ⟨q, e⟩ | ⟨q, e⟩
  · have qq : inN (kn (aK A)) c := q
    rw [e, cp_s, if_pos qq, if_pos qq]
    refine wp_brf (by decide) ?_
    obtain ⟨b1, b2, b3, b4⟩ := h0.2.1
    have h8 : (mN (aM A)).1 ≤ 8 := v.2.1.2.2.1
    have b31 : M0.1 73 37 = n2 (mN (aM A)).1 := b3.1
    rw [jn_s, b31]
    have hrf : ¬ seeQ A n b → wp (c0 (f_X12_refuse y 73 2 M0) fun (r7 : Int32) (M8 : Mem) => some (r7, M8)) (OM (if seeQ A n b then wM A (mS (aM A), mA (aM A), seeN (mN (aM A)) c n b, mT (aM A)) else refA A 2) (if seeQ A n b then (0, n2 ((mN (aM A)).1 + 1)) else (0, -1)) M) := fun w => by
      rw [if_neg w, if_neg w]
      exact refuse_om hy h0 g0 hc (k := 2) (by decide)
    refine wp_br (fun q => hrf (fun z => ?_)) (fun q1 => ?_)
    · rw [show (8 : Int32) = n2 8 from rfl, n2_inj (by omega) (by decide)] at q
      have := z.1
      omega
    · rw [show (8 : Int32) = n2 8 from rfl, n2_inj (by omega) (by decide)] at q1
      rcases isIn_r (y := y) (M := M0) (a := 0) (b := 20) (la := 0) (lb := 20) (by decide) (by decide) n with ⟨p1, p2⟩ | ⟨p1, p2⟩
      · rw [p2, cp_s]
        refine wp_brf (by decide) ?_
        rcases isIn_r (y := y) (M := M0) (a := 0) (b := 99) (la := 0) (lb := 99) (by decide) (by decide) b with ⟨r1, r2⟩ | ⟨r1, r2⟩
        · rw [r2, cp_s]
          refine wp_brf (by decide) ?_
          have h7 : (mN (aM A)).1 < 8 := by omega
          have hq : seeQ A n b := ⟨h7, p1, r1⟩
          rw [if_pos hq, if_pos hq]
          generalize hnn : (mN (aM A)).1 = nn at h7 h8 b31 b3
          simp only [lT_s, gN_t (r := 97) (by decide), gN_t (r := 98) (by decide), gN_t (r := 99) (by decide), r_73_46 hy, r_73_47 hy, r_73_48 hy, gA_n (k_97 hy) h7 (by omega), wI_sr, sr_ne (show ¬ 73 = 97 by decide), sr_ne (show ¬ 73 = 98 by decide), sr_ne (show ¬ 73 = 99 by decide), b31, gA_n (k_98 hy) h7 (by omega), gA_n (k_99 hy) h7 (by omega), n2_nat (show nn < 2147483648 by omega), n2_s, sr_ap, up_eq]
          refine OM.ret ?_ (kC_sr (kC_sr (kC_sr (kC_sr g0 (by decide)) (by decide)) (by decide)) (by decide)) (by rw [sr_ap, up_ne (by decide), hc])
          refine MR.upd h0 (((((Eqx.refl _ _).sr (by decide)).sr (by decide)).sr (by decide)).sr (by decide)) ⟨by rw [sr_ap]; rfl, by rw [sr_ap]; rfl, by rw [sr_ap]; rfl, by rw [sr_ap]; rfl, by rw [sr_ap]; rfl⟩ ⟨b1, b2, ⟨?_, fun k hk => ?_⟩, b4⟩
          · rw [sr_ap, up_eq]; show n2 (nn + 1) = n2 ((mN (aM A)).1 + 1); rw [hnn]
          · have hk : k < (mN (aM A)).1 + 1 := hk
            simp only [sr_1, Nat.reduceEqDiff, if_false, if_true, ↓reduceIte]
            show up (M0.1 97) nn c k = up (mN (aM A)).2.1 (mN (aM A)).1 c k ∧ up (M0.1 98) nn n k = up (mN (aM A)).2.2.1 (mN (aM A)).1 n k ∧ up (M0.1 99) nn b k = up (mN (aM A)).2.2.2 (mN (aM A)).1 b k
            rw [hnn]
            by_cases e : k = nn
            · rw [e, up_eq, up_eq, up_eq, up_eq, up_eq, up_eq]; exact ⟨rfl, rfl, rfl⟩
            · rw [up_ne e, up_ne e, up_ne e, up_ne e, up_ne e, up_ne e]
              exact b3.2 k (by show k < nn; omega)
        · rw [r2, cp_s]
          exact wp_brt rfl (hrf (fun z => r1 z.2.2))
      · rw [p2, cp_s]
        exact wp_brt rfl (hrf (fun z => p1 z.2.1))
  · have qq : ¬ inN (kn (aK A)) c := q
    rw [e, cp_s, if_neg qq, if_neg qq]
    exact wp_brt rfl (OM.fail hy rfl (by decide) h0 g0)
