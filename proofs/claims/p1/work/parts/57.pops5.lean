/-! ===== senders, the tape, resting, days ===== -/
theorem ev_sent {a b : Nat} (ha : a < 512) (hb : b < 11) : chkL (f_L_sent yS 1 (n2 a) (n2 b - 1) 110 MS) (f_X12_sent yS 73 (n2 a) (n2 b - 1)) = true := by
  by_cases h : a < 256
  · exact ev_sent0 ⟨a, h⟩ ⟨b, hb⟩
  · have := ev_sent1 ⟨a - 256, by omega⟩ ⟨b, hb⟩
    dsimp only at this
    rw [show a - 256 + 256 = a by omega] at this
    exact this
theorem sent_bad {y : Lay} (hy : LY y) {M : Mem} {a : Int32} {c c' : Int32} (h1 : ¬ c = -1) (h2 : ¬ c' = -1) (e1 : f_X11_needCell y 1 c M = some (1, 0, M)) (e2 : f_X11_needCell y 1 c' M = some (1, 0, M)) : f_X11_sent y 1 a c M = f_X11_sent y 1 a c' M := by
  unfold f_X11_sent
  simp only [jn_s, bR_f h1, bR_f h2, e1, e2, cx_1]
theorem sent_badM {y : Lay} (hy : LY y) {N : Mem} {a : Int32} {c c' : Int32} (h1 : ¬ c = -1) (h2 : ¬ c' = -1) (e1 : f_X12_isCell y 73 c (wI N 73 4 0) = some 0) (e2 : f_X12_isCell y 73 c' (wI N 73 4 0) = some 0) : f_X12_sent y 73 a c N = f_X12_sent y 73 a c' N := by
  unfold f_X12_sent
  rw [gK_t (k_73 hy), gK_t (k_73 hy), lT_s, lT_s]
  simp only [jn_s, bR_f h1, bR_f h2, e1, e2, cp_s, br_T]
theorem sent_Lm {y : Lay} (hy : LY y) {M : Mem} {x : Option (Nat × Int32 × Mem)} (hM : pc x (fun o => o.2.2 = M)) {r : Int32} {M1 : Mem} (h1 : ct x (fun (M5 : Mem) => some ((1 : Int32), M5)) (fun (M5 : Mem) => some ((2 : Int32), M5)) (fun (r2 : Int32) (M3 : Mem) => gA y 110 3 (0 : Int32) (lt (wL M3 110 (0 : Int32).toNatClampNeg (r2.toInt64)) fun (M7 : Mem) => some ((0 : Int32), M7))) = some (r, M1)) : M1.1 = M.1 := by
  cases hx : x with
  | none => rw [hx] at h1; cases h1
  | some o =>
    have hm := hM o hx
    rw [hx] at h1
    obtain ⟨e, v, M2⟩ := o
    have hm : M2 = M := hm
    subst hm
    match e, h1 with
    | 0, h1 =>
      have h1 : gA y 110 3 (0 : Int32) (lt (wL M2 110 (0 : Int32).toNatClampNeg (v.toInt64)) fun (M7 : Mem) => some ((0 : Int32), M7)) = some (r, M1) := h1
      rw [gA_t (k_110 hy) (by decide), lT_s] at h1
      have h1 := Option.some.inj h1
      have h1 : wL M2 110 (0 : Int32).toNatClampNeg v.toInt64 = M1 := congrArg Prod.snd h1
      rw [← h1]
      rfl
    | 1, h1 =>
      have h1 : some ((1 : Int32), M2) = some (r, M1) := h1
      have h1 := Option.some.inj h1
      have h1 : M2 = M1 := congrArg Prod.snd h1
      rw [← h1]
    | e + 2, h1 =>
      have h1 : some ((2 : Int32), M2) = some (r, M1) := h1
      have h1 := Option.some.inj h1
      have h1 : M2 = M1 := congrArg Prod.snd h1
      rw [← h1]
/-- with a cell that is none it only throws -/
theorem sent_badP {y : Lay} (hy : LY y) {M : Mem} {a : Int32} {c : Int32} (h1 : ¬ c = -1) (e1 : f_X11_needCell y 1 c M = some (1, 0, M)) : pc (f_X11_sent y 1 a c M) (fun o => o.2.2 = M) := by
  unfold f_X11_sent
  simp only [jn_s, bR_f h1, e1, cx_1]
  repeat' (first
    | with_reducible refine pc_gK (fun _ => ?_)
    | with_reducible refine pc_gN ?_
    | with_reducible refine pc_br ?_ ?_
    | with_reducible refine pc_cp (fun _ => ?_)
    | with_reducible exact pc_some rfl)
theorem sent_out {y : Lay} (hy : LY y) {M : Mem} (g : GEO 3 3 (M.1 4 0) (M.1 4 1)) {a : Int32} (ha : ¬ inN 512 a) (c : Int32) : f_X11_sent y 1 a c M = some (2, 0, M) := by
  unfold f_X11_sent
  rw [jn_s]
  by_cases h1 : a < 0
  · rw [bR_t h1]
  · rw [bR_f h1]
    simp only [gK_t (k_1 hy), gN_t (r := 1) (by decide), r_1_0 hy, r_1_1 hy, r_1_2 hy, r_1_3 hy, r_1_4 hy, r_1_5 hy, r_1_6 hy, r_1_7 hy, r_1_8 hy, r_1_9 hy, r_1_10 hy, gK_t (k_4 hy), gN_t (r := 4) (by decide), r_4_6 hy, r_4_7 hy, r_4_8 hy, cells_4 hy g, cp_s]
    have z : (0 : Int32).toInt = 0 := rfl
    rw [i_lt, z] at h1
    have hb := i_bd a
    have ea := n2_of (a := a) (by omega)
    have h2 : ¬ ((a.toUInt32 >>> ((n2 (3 * 3)).toUInt32 &&& Int32.toUInt32 31)).toInt32) = 0 := by
      have e9 : (2 : Nat) ^ 9 = 512 := by decide
      rw [ea, sh_n (k := 9) (by decide) (by omega), e9]
      intro q
      have q := (n2_inj (i := a.toInt.toNat / 512) (j := 0) (by omega) (by decide)).mp q
      exact ha ⟨by omega, by omega⟩
    rw [bR_f h2]
theorem sent_outM {y : Lay} (hy : LY y) {N : Mem} (g : GEO 3 3 ((wI N 73 4 0).1 77 0) ((wI N 73 4 0).1 77 1)) {a : Int32} (ha : ¬ inN 512 a) (c : Int32) : f_X12_sent y 73 a c N = some (0, sr (wI N 73 4 0) 73 (up ((wI N 73 4 0).1 73) 4 2)) := by
  unfold f_X12_sent
  rw [gK_t (k_73 hy), lT_s, cellsG hy g, cp_s]
  have q := isIn_s (y := y) (M := wI N 73 4 0) a.toInt64 0 (((1 : Int64) <<< ((n2 (3 * 3)).toInt64 &&& 63)) - (1 : Int64))
  have z : (0 : Int64).toInt = 0 := rfl
  have e : (((1 : Int64) <<< ((n2 (3 * 3)).toInt64 &&& 63)) - (1 : Int64)).toInt = 511 := by decide
  rw [Int32.toInt_toInt64, z, e] at q
  rcases q with ⟨q1, q2⟩ | ⟨q1, q2⟩
  · exact absurd ⟨q1.1, by have := q1.2; omega⟩ ha
  · rw [q2, cp_s, jn_s, bR_t rfl, fail_s hy, c0_s]
theorem op_sent (a c : Int32) : chkL (f_L_sent yS 1 a c 110 MS) (f_X12_sent yS 73 a c) = true := by
  by_cases ha : inN 512 a
  · obtain ⟨a1, a2⟩ := inN_n ha
    by_cases hc : c = -1
    · have := ev_sent a2 (b := 0) (by decide)
      rw [← a1] at this
      rw [hc]
      exact this
    · rcases needCell_s yS_ly g0 c with ⟨hd, e⟩ | ⟨hd, e⟩
      · obtain ⟨c1, c2⟩ := inN_n hd
        have := ev_sent a2 (b := c.toInt.toNat + 1) (by omega)
        rw [← a1, show n2 (c.toInt.toNat + 1) - 1 = n2 c.toInt.toNat from n2_sub (b := 1) (by omega), ← c1] at this
        exact this
      · rcases needCell_s yS_ly g0 (n2 9) with ⟨hz, e2⟩ | ⟨hz, e2⟩
        · have := hz.2
          rw [n2_int (by decide)] at this
          omega
        · have ev := ev_sent a2 (b := 10) (by decide)
          rw [← a1, show n2 10 - 1 = n2 9 from n2_sub (b := 1) (by decide)] at ev
          have h9 : ¬ n2 9 = -1 := by decide
          have hx : f_L_sent yS 1 a c 110 MS = f_L_sent yS 1 a (n2 9) 110 MS := by
            unfold f_L_sent
            rw [sent_bad yS_ly hc h9 e e2]
          rw [hx, ← ev]
          refine chk_congr (fun r M1 h1 => ?_)
          unfold f_L_sent at h1
          rw [gK_t (k_1 yS_ly)] at h1
          have e1 := sent_Lm yS_ly (sent_badP yS_ly h9 e2) h1
          have hN : MEQ M1 := fun p _ => by rw [e1]
          rcases isCell_s yS_ly (gN0 hN) c with ⟨q1, q2⟩ | ⟨q1, q2⟩
          · exact absurd q1 hd
          · rcases isCell_s yS_ly (gN0 hN) (n2 9) with ⟨w1, w2⟩ | ⟨w1, w2⟩
            · exact absurd w1 hz
            · exact sent_badM yS_ly hc h9 q2 w2
  · unfold f_L_sent
    exact chk_g yS_ly 2 2 0 (thr_c (by decide) (sent_out yS_ly g0 ha c)) (fun N r h => MEQ_wL h) (fun N hN => thr_m (k := 2) rfl (by decide) (sent_outM yS_ly (gN0 hN) ha c)) (by decide) (fun h => absurd h (by decide)) (fun _ _ => rfl) (by decide) (by decide)
/-! feed -/
def sv (i : Nat) : Int32 := n2 (24 - 8 * i) - n2 (8 * i - 24)
theorem sv_s : sv 0 = 24 ∧ (∀ i : Fin 4, sv i.val + -8 = sv (i.val + 1) ∧ ¬ sv i.val < 0) ∧ sv 4 < 0 := by decide
theorem put_s {y : Lay} (hy : LY y) {M : Mem} {L : Nat} (hL : L + 4 ≤ 700) (h : M.1 2 1 = n2 L) (a : Int32) : wp (f_X9_put y 2 a M) (fun o => Eqx [2, 3] M o.2 ∧ o.2.1 2 1 = n2 (L + 4)) := by
  unfold f_X9_put
  rw [← sv_s.1]
  refine wp_fork (κ := Int32 → Mem → Option (Int32 × Mem)) (fun f i s => f (sv i) s) (fun i s => Eqx [2, 3] M s ∧ s.1 2 1 = n2 (L + i)) 4 (by decide) (i0 := 0) (by decide) ⟨Eqx.refl _ _, h⟩ ?_ ?_
  · intro f i s hi hI hk
    obtain ⟨e1, e2⟩ := sv_s.2.1 ⟨i, hi⟩
    dsimp only at e1 e2
    refine wp_brf e2 ?_
    simp only [lT_s, jn_s, c0_s, cp_s, cx_s, cx_t, gK_t (k_2 hy), gN_t (r := 2) (by decide), r_2_0 hy, gN_t (r := 3) (by decide), hI.2]
    refine wp_brf (n2_n0 (by omega)) ?_
    rw [gT_t (by rw [k_3 hy]), k_3 hy]
    refine wp_brf (by rw [show Int32.ofNat (2, 700).2 = n2 700 from rfl, n2_le (by decide) (by omega)]; omega) ?_
    rw [gA_n (k_3 hy) (by omega) (by omega), wI_sr, wI_sr, sr_ne (by decide), hI.2, n2_s, e1]
    refine hk _ ⟨(hI.1.sr (by decide)).sr (by decide), ?_⟩
    rw [sr_ap, up_eq]
    rfl
  · intro f s hI
    exact wp_brt sv_s.2.2 (wp_some ⟨hI.1, hI.2⟩)
theorem feed_c {y : Lay} (hy : LY y) {M : Mem} (h : M.1 2 1 = n2 0) (a b c d e : Int32) : wp (f_X11_feed y 1 a b c d e M) (fun o => o.1 = n2 20 ∧ Eqx [2, 3] M o.2) := by
  unfold f_X11_feed f_X9_hasRoomFor
  simp only [lT_s, jn_s, c0_s, cp_s, cx_s, cx_t, gK_t (k_1 hy), gN_t (r := 1) (by decide), r_1_0 hy, r_1_1 hy, r_1_2 hy, r_1_3 hy, r_1_4 hy, r_1_5 hy, r_1_6 hy, r_1_7 hy, r_1_8 hy, r_1_9 hy, r_1_10 hy, gK_t (k_2 hy), gN_t (r := 2) (by decide), r_2_0 hy, h]
  rw [bR_f (by decide), gd_t (by decide), cp_s, bR_f (by decide)]
  refine wp_c0 _ (put_s hy (by decide) h a) (fun r M1 h1 => ?_)
  refine wp_c0 _ (put_s hy (L := 4) (by decide) h1.2 b) (fun r M2 h2 => ?_)
  refine wp_c0 _ (put_s hy (L := 8) (by decide) h2.2 c) (fun r M3 h3 => ?_)
  refine wp_c0 _ (put_s hy (L := 12) (by decide) h3.2 d) (fun r M4 h4 => ?_)
  refine wp_c0 _ (put_s hy (L := 16) (by decide) h4.2 e) (fun r M5 h5 => ?_)
  exact wp_some ⟨h5.2, (((h1.1.trans h2.1).trans h3.1).trans h4.1).trans h5.1⟩
theorem feed_m {y : Lay} (hy : LY y) {N : Mem} (h : N.1 73 15 = n2 0) (a b c d e : Int32) : wp (f_X12_feed y 73 a b c d e N) (fun o => o.1 = n2 20) := by
  unfold f_X12_feed
  have h15 : (wI N 73 4 0).1 73 15 = n2 0 := by rw [wI_sr, sr_ap, up_ne (by decide), h]
  rw [gK_t (k_73 hy), lT_s, h15, bR_t (by decide)]
  refine wp_for (i0 := 0) 20 (fun i s => s.1 73 15 = n2 i) (by decide) rfl (by decide) h15 ?_ ?_
  · intro f i s hi hI hk
    refine wp_brf (nle_l (m := 20) rfl hi (by omega)) ?_
    rw [jn_s]
    have go : ∀ v : Int32, wp (gN (y.2.1 73 14) (gd (¬ (4 : Int32) = 0) (gA y (y.2.1 73 14) 1 (s.1 73 15) (lt (wI s (y.2.1 73 14) (s.1 73 15).toNatClampNeg ((v >>> (((24 : Int32) - ((8 : Int32) * (n2 i - n2 i / (4 : Int32) * (4 : Int32)))) &&& 31)) &&& (255 : Int32))) fun (M16 : Mem) => lt (wI M16 73 15 ((M16.1 73 15) + (1 : Int32))) fun (M17 : Mem) => lt (n2 i + (1 : Int32)) fun (v18 : Int32) => f v18 M17)))) (fun o => o.1 = n2 20) := by
      intro v
      rw [gd_t (by decide), hI]
      simp only [gK_t (k_73 hy), gN_t (r := 73) (by decide), r_73_0 hy, r_73_1 hy, r_73_2 hy, r_73_5 hy, r_73_6 hy, r_73_7 hy, r_73_8 hy, r_73_9 hy, r_73_10 hy, r_73_11 hy, r_73_12 hy, r_73_13 hy, r_73_14 hy, r_73_28 hy, r_73_29 hy, r_73_30 hy, r_73_38 hy, r_73_39 hy, r_73_40 hy, r_73_42 hy, r_73_43 hy, r_73_44 hy, r_73_45 hy, r_73_46 hy, r_73_47 hy, r_73_48 hy, r_73_49 hy, r_73_50 hy, r_73_51 hy, r_73_53 hy, r_73_58 hy, r_73_59 hy, r_73_60 hy, r_73_61 hy, r_73_62 hy, r_73_63 hy, gN_t (r := 86) (by decide), lT_s]
      rw [gA_n (k_86 hy) (by omega) (by omega), wI_sr, wI_sr, sr_ne (by decide), hI, n2_s]
      refine hk _ ?_
      rw [sr_ap, up_eq]
    repeat' (first
      | exact go _
      | refine wp_br (fun _ => ?_) (fun _ => ?_))
  · intro f s hI
    exact wp_brt (by decide) (wp_some hI)
theorem op_feed (a b c d e : Int32) : chk1 (f_X11_feed yS 1 a b c d e MS) (f_X12_feed yS 73 a b c d e) = true :=
  chk1_of (R := n2 20) (FR := MEQ) (wp_mono (feed_c yS_ly (rwB_get e_2 (k := 1) (by decide)) a b c d e) (fun o h => ⟨h.1, MEQ_x h.2 (by decide)⟩)) (fun N hN => feed_m yS_ly (by rw [hN 73 (by decide)]; exact g_73 (k := 15) (by decide)) a b c d e)
/-! rest -/
theorem rest_c {y : Lay} (hy : LY y) {M : Mem} (hg : M.1 4 4 = 0) (a b : Int32) : f_L_rest y 1 a b 110 M = some (1, M) := by
  unfold f_L_rest f_X11_rest
  rw [gK_t (k_1 hy), gK_t (k_1 hy), needGirl_0 hy hg, cx_1]
  rfl
theorem rest_m {y : Lay} (hy : LY y) {N : Mem} (hg : (wI N 73 4 0).1 77 2 = 0) (a b : Int32) : wp (f_X12_rest y 73 a b N) (fun o => o.2.1 73 4 = 1) := by
  unfold f_X12_rest f_X12_failing
  rw [gK_t (k_73 hy), lT_s, isGirl_0 hy hg, cp_s, bR_t rfl, gK_t (k_73 hy), lT_s, c0_s, gd_t (by decide)]
  refine wp_some ?_
  show (wI (wI N 73 4 0) 73 4 1).1 73 4 = 1
  rw [wI_sr, sr_ap, up_eq]
/-! days -/
theorem keepAct_0 {y : Lay} (hy : LY y) {M : Mem} (h : M.1 31 1 = 0) : wp (f_X4_keepAct y 30 M) (fun o => Eqx [31, 32] M o.2) := by
  unfold f_X4_keepAct f_X0_keep f_X8_save
  simp only [lT_s, jn_s, c0_s, cp_s, cx_s, cx_t, gK_t (k_30 hy), gN_t (r := 30) (by decide), r_30_0 hy, r_30_1 hy, r_30_2 hy, r_30_3 hy, r_30_4 hy, r_30_5 hy, gK_t (k_31 hy), gN_t (r := 31) (by decide), r_31_0 hy, gN_t (r := 32) (by decide), gK_t (k_37 hy), gN_t (r := 37) (by decide), r_37_0 hy, r_37_1 hy, r_37_2 hy, r_37_3 hy, r_37_4 hy, r_37_5 hy, r_37_6 hy, gN_t (r := 38) (by decide), gN_t (r := 41) (by decide), h]
  rw [bR_t (by decide), bR_f (by decide), gT_t (by rw [k_32 hy]), k_32 hy, bR_t (by decide)]
  rw [gC_t (k_38 hy) (k_32 hy) (by decide), gC_t (k_41 hy) (k_32 hy) (by decide)]
  rw [gA_t (k_32 hy) (by decide), gA_t (k_32 hy) (by decide), gA_t (k_32 hy) (by decide), gA_t (k_32 hy) (by decide), gA_t (k_32 hy) (by decide)]
  simp only [c0_s, cpI_sr, wI_sr]
  refine wp_some ?_
  repeat (refine Eqx.sr ?_ (by decide))
  exact Eqx.refl _ _
theorem days_c {y : Lay} (hy : LY y) {M : Mem} (hF : FRC M) (h : M.1 31 1 = 0) {d : Nat} (h1 : 1 ≤ d) (h2 : d ≤ 20) : wp (f_X11_days y 1 (n2 d) M) (fun o => o.1 = n2 d ∧ Eqx [31, 32, 37, 38, 39, 40] M o.2) := by
  unfold f_X11_days
  have e11 : M.1 37 11 = n2 0 := (skv_l hF.2.1).2.2.2.2.1
  simp only [jn_s, gK_t (k_1 hy), gN_t (r := 1) (by decide), r_1_0 hy, r_1_1 hy, r_1_2 hy, r_1_3 hy, r_1_4 hy, r_1_5 hy, r_1_6 hy, r_1_7 hy, r_1_8 hy, r_1_9 hy, r_1_10 hy, gK_t (k_30 hy), gN_t (r := 30) (by decide), r_30_0 hy, r_30_1 hy, r_30_2 hy, r_30_3 hy, r_30_4 hy, r_30_5 hy, gK_t (k_37 hy), gN_t (r := 37) (by decide), r_37_0 hy, r_37_1 hy, r_37_2 hy, r_37_3 hy, r_37_4 hy, r_37_5 hy, r_37_6 hy, e11]
  refine wp_brf (by rw [show (1 : Int32) = n2 1 from rfl, n2_lt (by omega) (by decide)]; omega) ?_
  refine wp_brf (by rw [show (20 : Int32) = n2 20 from rfl, n2_lt (by decide) (by omega)]; omega) ?_
  refine wp_brt (by rw [show (999 : Int32) - n2 0 = n2 999 by decide, n2_le (by omega) (by decide)]; omega) ?_
  refine wp_c0 (fun o => Eqx [31, 32] M o.2) (keepAct_0 hy h) (fun r N hN => ?_)
  have hN : Eqx [31, 32] M N := hN
  refine wp_for (i0 := 0) d (fun i s => Eqx [31, 32, 37, 38, 39, 40] M s ∧ skV s 37 38 41 42 = SD (n2 i)) (by have : FUEL = 100000 := rfl; omega) rfl (by omega) ⟨hN.mono (by decide), ?_⟩ ?_ ?_
  · rw [← show skV M 37 38 41 42 = SD (n2 0) from hF.2.1]
    unfold skV
    rw [hN.2 37 (by decide), hN.2 38 (by decide), hN.2 41 (by decide), hN.2 42 (by decide)]
  · intro f i s hi hI hk
    refine wp_brf (by rw [n2_le (by omega) (by omega)]; omega) ?_
    refine wp_c0 _ (passDay_v37 hy (hF.1.frame (hI.1.2 4 (by decide)) (hI.1.2 9 (by decide)))) (fun r N2 q => ?_)
    simp only [lT_s, n2_s]
    exact hk N2 ⟨hI.1.trans (q.2.1.mono (by decide)), by rw [q.2.2.1, hI.2, pd_z, n2_s]⟩
  · intro f s hI
    exact wp_brt (Int32.le_refl _) (wp_some ⟨(skv_l hI.2).2.2.2.2.1, hI.1⟩)
theorem days_m {y : Lay} (hy : LY y) {N : Mem} (hF : FRM (wI N 73 4 0)) (h : N.1 73 36 = 0) {d : Nat} (h1 : 1 ≤ d) (h2 : d ≤ 20) : wp (f_X12_days y 73 (n2 d) N) (fun o => o.1 = n2 d) := by
  unfold f_X12_days
  have e31 : (wI N 73 4 0).1 73 31 = n2 0 := (mov_l hF.2).2.2.2.2.2.1
  have e36 : (wI N 73 4 0).1 73 36 = 0 := by rw [wI_sr, sr_ap, up_ne (by decide), h]
  rw [gK_t (k_73 hy), lT_s]
  rcases isIn_r (y := y) (M := wI N 73 4 0) (a := 1) (b := 20) z64.2.1 z64.2.2.2.2.1 (n2 d) with ⟨q1, q2⟩ | ⟨q1, q2⟩
  · rw [q2, cp_s, jn_s, bR_f (by decide), e31]
    refine wp_brt (by rw [n2_add, show (999 : Int32) = n2 999 from rfl, n2_le (by omega) (by decide)]; omega) ?_
    refine wp_c0 (fun o => COM K0 o.2 ∧ moV o.2 = SD 0) ?_ (fun r N2 hN2 => ?_)
    · unfold f_X12_keep
      simp only [jn_s, gK_t (k_73 hy), gN_t (r := 73) (by decide), r_73_0 hy, r_73_1 hy, r_73_2 hy, r_73_5 hy, r_73_6 hy, r_73_7 hy, r_73_8 hy, r_73_9 hy, r_73_10 hy, r_73_11 hy, r_73_12 hy, r_73_13 hy, r_73_14 hy, r_73_28 hy, r_73_29 hy, r_73_30 hy, r_73_38 hy, r_73_39 hy, r_73_40 hy, r_73_42 hy, r_73_43 hy, r_73_44 hy, r_73_45 hy, r_73_46 hy, r_73_47 hy, r_73_48 hy, r_73_49 hy, r_73_50 hy, r_73_51 hy, r_73_53 hy, r_73_58 hy, r_73_59 hy, r_73_60 hy, r_73_61 hy, r_73_62 hy, r_73_63 hy, gN_t (r := 89) (by decide), e36]
      rw [bR_f (by decide), show (41 : Int32) * 0 = n2 0 by decide]
      refine wp_c0 _ (pack_89 hy (f := 0) (by decide)) (fun r N1 q => ?_)
      obtain ⟨-, q2, -, -⟩ := q
      have q2 : Eqx [89] (wI N 73 4 0) N1 := q2
      simp only [lT_s]
      refine wp_some ⟨hF.1.frame ?_, ?_⟩
      · rw [wI_sr, sr_ne (by decide), q2.2 77 (by decide)]
      · rw [← hF.2]
        unfold moV
        simp only [wI_sr, sr_1, Nat.reduceEqDiff, if_false, ↓reduceIte, up]
        rw [q2.2 73 (by decide), q2.2 87 (by decide), q2.2 88 (by decide), q2.2 85 (by decide), wI_sr]
        simp only [sr_1, Nat.reduceEqDiff, if_false, ↓reduceIte, up]
    · have hN2 : COM K0 N2 ∧ moV N2 = SD 0 := hN2
      refine wp_c0 _ (goOn_v hy hN2.1 (by rw [hN2.2]; exact sok_d _) (d := d) (by omega)) (fun r N3 q => wp_some ?_)
      obtain ⟨-, -, q3, -⟩ := q
      have q3 : moV N3 = SD (n2 d) := by rw [q3, hN2.2]; exact pds_z d
      exact (mov_l q3).2.2.2.2.2.1
  · refine absurd ⟨?_, ?_⟩ q1
    · rw [n2_int (by omega)]; omega
    · rw [n2_int (by omega)]; omega
theorem days_t {y : Lay} (hy : LY y) {M : Mem} {c : Int32} (hc : ¬ inR 1 20 c) : wp (f_X11_days y 1 c M) (fun o => o.1 = -1 ∧ True) := by
  unfold f_X11_days
  rw [jn_s, gK_t (k_1 hy), refuseAct_c hy, c0_s]
  by_cases h1 : c < 1
  · rw [bR_t h1]
    exact wp_some ⟨rfl, trivial⟩
  · have h2 : (20 : Int32) < c := by
      rw [i_lt] at h1 ⊢
      have z : (1 : Int32).toInt = 1 := rfl
      have z1 : (20 : Int32).toInt = 20 := rfl
      rw [z] at h1
      rw [z1]
      apply Classical.byContradiction
      intro q
      exact hc ⟨by omega, by omega⟩
    rw [bR_f h1, bR_t h2]
    exact wp_some ⟨rfl, trivial⟩
theorem days_tM {y : Lay} (hy : LY y) {N : Mem} {c : Int32} (hc : ¬ inR 1 20 c) : wp (f_X12_days y 73 c N) (fun o => o.1 = -1) := by
  unfold f_X12_days
  rw [gK_t (k_73 hy), lT_s]
  rcases isIn_r (y := y) (M := wI N 73 4 0) (a := 1) (b := 20) z64.2.1 z64.2.2.2.2.1 c with ⟨q1, q2⟩ | ⟨q1, q2⟩
  · exact absurd q1 hc
  · have e : f_X12_refuse y 73 (1 : Int32) (wI N 73 4 0) = _ := refuse_m hy (k := 1) (by decide)
    rw [q2, cp_s, jn_s, bR_t rfl, e, c0_s]
    exact wp_some rfl
theorem op_days (c : Int32) : chk1 (f_X11_days yS 1 c MS) (f_X12_days yS 73 c) = true := by
  by_cases h : inR 1 20 c
  · obtain ⟨h1, h2, h3⟩ := inR_n h
    rw [h1]
    exact chk1_of (R := n2 c.toInt.toNat) (FR := MEQ) (wp_mono (days_c yS_ly FRC_S (rwB_get e_31 (k := 1) (by decide)) h2 h3) (fun o q => ⟨q.1, MEQ_x q.2 (by decide)⟩)) (fun N hN => days_m yS_ly (FRM_0 hN) (by rw [hN 73 (by decide)]; exact g_73 (k := 36) (by decide)) h2 h3)
  · exact chk1_of (R := -1) (FR := fun _ => True) (days_t yS_ly h) (fun N _ => days_tM yS_ly h)
