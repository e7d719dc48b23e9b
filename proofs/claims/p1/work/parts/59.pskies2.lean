/-! ===== skies on a new object ===== -/
def nxt (D : Int32 → Int32) (q : Sk × Int32) : Sk × Int32 := (pDay K0 (dSt D q).1, (dSt D q).2)
def stN (D : Int32 → Int32) (seed : Int32) (i : Nat) : Sk × Int32 := it (fun _ => nxt D) (SD 0, seed) i
def OKq (i : Nat) (S : Sk) : Prop := SOK K0 S ∧ S.2.2.2.1 = 0 ∧ ∃ f, f ≤ 32 * i ∧ S.2.2.2.2.2.2.1 = n2 f
theorem kok : KOK K0 (n2 3) (n2 3) (n2 2) (n2 60) := ⟨⟨⟨by decide, by decide⟩, ⟨by decide, by decide⟩, rfl, rfl⟩, ⟨rfl, by decide⟩, ⟨rfl, by decide⟩⟩
theorem jmin_n {f : Nat} (h : f ≤ 9999) : jmin 9999 (n2 f) = n2 f := by
  unfold jmin
  by_cases q : n2 f < 9999
  · rw [if_pos q]
  · rw [if_neg q]
    have h2 : ¬ f < 9999 := fun w => q ((n2_lt (i := f) (j := 9999) (by omega) (by decide)).mpr w)
    have : f = 9999 := by omega
    subst this
    rfl
theorem ov_pc (bd : Int32) (B : Row) : ∃ p, p ≤ 32 ∧ bcJ (ovB bd B) = n2 p := by
  obtain ⟨m, h1, h2⟩ := ov_n2 bd B 30 (by decide)
  unfold ovB
  have e : (2 : Nat) ^ 30 = 1073741824 := by decide
  rw [e] at h1
  rw [h2, bcJ_n (by omega)]
  exact ⟨_, pcF_le 32 m, rfl⟩
theorem nxt_ok (D : Int32 → Int32) {q : Sk × Int32} {i : Nat} (hi : i < 41) (h : OKq i q.1) : OKq (i + 1) (nxt D q).1 ∧ (nxt D q).1.2.2.2.2.2.2.1 = q.1.2.2.2.2.2.2.1 + bcJ (nxt D q).1.2.2.2.2.2.2.2.2 := by
  obtain ⟨h1, h2, f, h3, h4⟩ := h
  obtain ⟨a1, a2, a3⟩ := dSt_ok D h1 h2
  have h5 : SOK K0 (pDay K0 (dSt D q).1) := pDay_ok kok a1
  obtain ⟨p, p1, p2⟩ := ov_pc (n2 60) (dSt D q).1.1
  have hm : (nxt D q).1.2.2.2.2.2.2.1 = jmin 9999 ((dSt D q).1.2.2.2.2.2.2.1 + bcJ (ovB (n2 60) (dSt D q).1.1)) := rfl
  have ho : (nxt D q).1.2.2.2.2.2.2.2.2 = ovB (n2 60) (dSt D q).1.1 := rfl
  have hf : jmin 9999 ((dSt D q).1.2.2.2.2.2.2.1 + bcJ (ovB (n2 60) (dSt D q).1.1)) = n2 (f + p) := by
    rw [a3, h4, p2, n2_add, jmin_n (by omega)]
  refine ⟨⟨h5, a2, f + p, by omega, by rw [hm, hf]⟩, ?_⟩
  rw [hm, ho, hf, h4, p2, n2_add]
theorem stN_ok (D : Int32 → Int32) (seed : Int32) : ∀ i, i < 42 → OKq i (stN D seed i).1 := by
  intro i
  induction i with
  | zero => intro _; exact ⟨sok_d 0, rfl, 0, Nat.le_refl _, rfl⟩
  | succ i ih => intro h; exact (nxt_ok D (by omega) (ih (by omega))).1
def skiesR (D : Int32 → Int32) (seed : Int32) (n w : Nat) : Int32 :=
  if w = 0 then (stN D seed n).1.2.2.2.2.2.2.1 else if w = 1 then it (fun k a => a + (stN D seed n).1.1 k) 0 9 else (stN D seed n).1.2.2.2.2.2.1
theorem skies_c (D : Int32 → Int32) (hD : ∀ x, x * 1103515245 + 12345 = D x) {y : Lay} (hy : LY y) {M : Mem} (hF : FRC M) {w d : Nat} (hw : w < 3) (hd : d ≤ 40) (seed : Int32) (e1 : f_X11_needWhat y 1 (n2 w) (n2 2) M = some (0, 0, M)) (e2 : f_X11_needWithin y 1 (n2 d) (n2 0) (n2 40) M = some (0, 0, M)) : wp (f_X11_skies y 1 seed (n2 d) (n2 w) M) (fun o => o.1 = 0 ∧ (0 = 0 → o.2.1 = skiesR D seed d w) ∧ Eqx [58, 59, 60, 61, 62, 63, 69] M o.2.2) := by
  unfold f_X11_skies
  have e1 : f_X11_needWhat y 1 (n2 w) (2 : Int32) M = _ := e1
  have e2 : f_X11_needWithin y 1 (n2 d) (0 : Int32) (40 : Int32) M = _ := e2
  rw [gK_t (k_1 hy), e1, cx_s, e2, cx_s]
  refine wp_c0 (fun o => LC 0 M o.2) (la hy hF (d := 0) (by decide)) (fun r N h => ?_)
  have h : LC 0 M N := h
  simp only [gK_t (k_1 hy), gN_t (r := 1) (by decide), r_1_0 hy, r_1_1 hy, r_1_2 hy, r_1_3 hy, r_1_4 hy, r_1_5 hy, r_1_6 hy, r_1_7 hy, r_1_8 hy, r_1_9 hy, r_1_10 hy, gK_t (k_69 hy), gN_t (r := 69) (by decide), lT_s]
  refine wp_for (i0 := 0) d (fun i s => Eqx [58, 59, 60, 61, 62, 63, 69] M s ∧ skV s 58 59 62 63 = (stN D seed i).1 ∧ s.1 69 0 = (stN D seed i).2) (by have : FUEL = 100000 := rfl; omega) rfl (by omega) ⟨?_, ?_, ?_⟩ ?_ ?_
  · rw [wI_sr]
    exact (h.1.mono (by decide)).sr (by decide)
  · rw [wI_sr]
    refine Eq.trans ?_ h.2
    unfold skV
    simp only [sr_1, Nat.reduceEqDiff, if_false, ↓reduceIte]
  · rw [wI_sr, sr_ap, up_eq]
    rfl
  · intro f i s hi hI hk
    obtain ⟨i1, i2, i3⟩ := hI
    refine wp_brf (by rw [n2_le (by omega) (by omega)]; omega) ?_
    have hC : COA K0 s := hF.1.frame (i1.2 4 (by decide)) (i1.2 9 (by decide))
    refine wp_c0 _ (drawAhead_c D hD hy hC i2) (fun r N2 h2 => ?_)
    obtain ⟨j1, j2, j3⟩ := h2
    have j1 : Eqx [58, 59, 69] s N2 := j1
    simp only [gK_t (k_1 hy), gN_t (r := 1) (by decide), r_1_0 hy, r_1_1 hy, r_1_2 hy, r_1_3 hy, r_1_4 hy, r_1_5 hy, r_1_6 hy, r_1_7 hy, r_1_8 hy, r_1_9 hy, r_1_10 hy, gK_t (k_58 hy), gN_t (r := 58) (by decide), r_58_0 hy, r_58_1 hy, r_58_2 hy, r_58_3 hy, r_58_4 hy, r_58_5 hy, r_58_6 hy]
    have hC2 : COA K0 N2 := hC.frame (j1.2 4 (by decide)) (j1.2 9 (by decide))
    refine wp_c0 _ (passDay_v58 hy hC2) (fun r N3 h3 => ?_)
    obtain ⟨-, l2, l3, -⟩ := h3
    have l2 : Eqx [58, 59, 60, 61] N2 N3 := l2
    rw [n2_s]
    refine hk N3 ⟨(i1.trans (j1.mono (by decide))).trans (l2.mono (by decide)), ?_, ?_⟩
    · have j2 : skV N2 58 59 62 63 = (dSt D ((stN D seed i).1, s.1 69 0)).1 := j2
      have l3 : skV N3 58 59 62 63 = pDay K0 (skV N2 58 59 62 63) := l3
      rw [l3, j2, i3]
      rfl
    · have j3 : N2.1 69 0 = (dSt D ((stN D seed i).1, s.1 69 0)).2 := j3
      rw [l2.2 69 (by decide), j3, i3]
      rfl
  · intro f s hI
    obtain ⟨i1, i2, i3⟩ := hI
    have hs := stN_ok D seed d (by omega)
    refine wp_brt (Int32.le_refl _) ?_
    have m10 : M.1 37 10 = 0 := (skv_l hF.2.1).2.2.2.1
    have s10 : s.1 58 10 = (stN D seed d).1.2.2.2.2.2.2.1 := by rw [← i2]; rfl
    have s9 : s.1 58 9 = (stN D seed d).1.2.2.2.2.2.1 := by rw [← i2]; rfl
    have s59 : s.1 59 = (stN D seed d).1.1 := by rw [← i2]; rfl
    unfold skiesR
    rcases (show w = 0 ∨ w = 1 ∨ w = 2 by omega) with rfl | rfl | rfl
    · refine wp_brt rfl ?_
      simp only [gK_t (k_1 hy), gN_t (r := 1) (by decide), r_1_0 hy, r_1_1 hy, r_1_2 hy, r_1_3 hy, r_1_4 hy, r_1_5 hy, r_1_6 hy, r_1_7 hy, r_1_8 hy, r_1_9 hy, r_1_10 hy, gK_t (k_58 hy), gN_t (r := 58) (by decide), r_58_0 hy, r_58_1 hy, r_58_2 hy, r_58_3 hy, r_58_4 hy, r_58_5 hy, r_58_6 hy, gK_t (k_30 hy), gN_t (r := 30) (by decide), r_30_0 hy, r_30_1 hy, r_30_2 hy, r_30_3 hy, r_30_4 hy, r_30_5 hy, gK_t (k_37 hy), gN_t (r := 37) (by decide), r_37_0 hy, r_37_1 hy, r_37_2 hy, r_37_3 hy, r_37_4 hy, r_37_5 hy, r_37_6 hy, i1.2 37 (by decide), m10, s10]
      refine wp_some ⟨rfl, fun _ => ?_, i1⟩
      rw [if_pos trivial]
      exact Int32.sub_zero _
    · refine wp_brf (by decide) (wp_brt rfl ?_)
      simp only [gK_t (k_1 hy), gN_t (r := 1) (by decide), r_1_0 hy, r_1_1 hy, r_1_2 hy, r_1_3 hy, r_1_4 hy, r_1_5 hy, r_1_6 hy, r_1_7 hy, r_1_8 hy, r_1_9 hy, r_1_10 hy, gK_t (k_58 hy), gN_t (r := 58) (by decide), r_58_0 hy, r_58_1 hy, r_58_2 hy, r_58_3 hy, r_58_4 hy, r_58_5 hy, r_58_6 hy, allBlue_58 hy, cp_s, s59]
      refine wp_some ⟨rfl, fun _ => ?_, i1⟩
      rw [if_neg (by decide), if_pos trivial]
      exact abs_eq hs.1.1 (by decide)
    · refine wp_brf (by decide) (wp_brf (by decide) ?_)
      simp only [gK_t (k_1 hy), gN_t (r := 1) (by decide), r_1_0 hy, r_1_1 hy, r_1_2 hy, r_1_3 hy, r_1_4 hy, r_1_5 hy, r_1_6 hy, r_1_7 hy, r_1_8 hy, r_1_9 hy, r_1_10 hy, gK_t (k_58 hy), gN_t (r := 58) (by decide), r_58_0 hy, r_58_1 hy, r_58_2 hy, r_58_3 hy, r_58_4 hy, r_58_5 hy, r_58_6 hy, s9]
      refine wp_some ⟨rfl, fun _ => ?_, i1⟩
      rw [if_neg (by decide), if_neg (by decide)]
theorem skies_m (D : Int32 → Int32) (hD : ∀ x, x * 1103515245 + 12345 = D x) {y : Lay} (hy : LY y) {N : Mem} (hF : FRM (wI N 73 4 0)) {w d : Nat} (hw : w < 3) (hd : d ≤ 40) (seed : Int32) (e1 : f_X12_isIn y (n2 w).toInt64 0 2 (wI N 73 4 0) = some 1) (e2 : f_X12_isIn y (n2 d).toInt64 0 40 (wI N 73 4 0) = some 1) : wp (f_X12_skies y 73 seed (n2 d) (n2 w) N) (fun o => o.2.1 73 4 = n2 0 ∧ (0 = 0 → o.1 = skiesR D seed d w) ∧ o.2.2 = N.2) := by
  unfold f_X12_skies
  rw [gK_t (k_73 hy), lT_s, e1, cp_s, bR_f (by decide), e2, cp_s, bR_f (by decide)]
  have e93 : y.2.1 73 42 = 93 := r_73_42 hy
  rw [e93, gN_t (r := 93) (by decide)]
  refine wp_c0 (fun o => LK 0 (wI N 73 4 0) o.2) (lk_p hy hF n4_0) (fun r N1 h1 => ?_)
  have h1 : LK 0 (wI N 73 4 0) N1 := h1
  rw [lT_s]
  refine wp_for2M (i0 := 0) d (fun i a s => Eqx [73, 87, 92, 93] (wI N 73 4 0) s ∧ COM K0 s ∧ moV s = (stN D seed i).1 ∧ s.1 73 54 = (stN D seed i).2 ∧ a = (stN D seed i).1.2.2.2.2.2.2.1 ∧ PKD (s.1 93) 0 (SD 0) ∧ s.1 73 4 = 0) (by have : FUEL = 100000 := rfl; omega) rfl (by omega) ?_ ?_ ?_
  · rw [wI_sr N1]
    refine ⟨h1.1.sr (by decide), h1.2.1.frame (sr_ne (by decide)), ?_, ?_, rfl, ?_, ?_⟩
    · refine Eq.trans ?_ h1.2.2.1
      unfold moV
      simp only [sr_1, Nat.reduceEqDiff, if_false, ↓reduceIte, up]
    · rw [sr_ap, up_eq]
      rfl
    · rw [sr_ne (by decide)]
      exact h1.2.2.2.1
    · rw [sr_ap, up_ne (by decide)]
      exact h1.2.2.2.2
  · intro f i a s hi hI hk
    obtain ⟨i1, i2, i3, i4, i5, i6, i7⟩ := hI
    have hs := stN_ok D seed i (by omega)
    refine wp_brf (by rw [n2_le (by omega) (by omega)]; omega) ?_
    refine wp_c0 _ (something_m D hD hy i2 i3 hs.2.1) (fun r N2 h2 => ?_)
    obtain ⟨j1, j2, j3, j4⟩ := h2
    have j1 : Eqx [73, 87] s N2 := j1
    have j2 : moV N2 = (dSt D ((stN D seed i).1, s.1 73 54)).1 := j2
    have j3 : N2.1 73 54 = (dSt D ((stN D seed i).1, s.1 73 54)).2 := j3
    have j4 : ∀ k, ¬ k = 32 → ¬ k = 54 → N2.1 73 k = s.1 73 k := j4
    rw [i4] at j2 j3
    have hC2 : COM K0 N2 := i2.frame (j1.2 77 (by decide))
    have hS2 : SOK K0 (moV N2) := by rw [j2]; exact (dSt_ok D (q := ((stN D seed i).1, (stN D seed i).2)) hs.1 hs.2.1).1
    refine wp_c0 _ (aDay_v hy hC2 hS2) (fun r N3 h3 => ?_)
    obtain ⟨-, l2, l3, l4⟩ := h3
    have l2 : Eqx [73, 87, 92] N2 N3 := l2
    have l3 : moV N3 = pDay K0 (moV N2) := l3
    have l4 : ∀ k, ¬ k = 31 → ¬ k = 32 → ¬ k = 33 → ¬ k = 41 → N3.1 73 k = N2.1 73 k := l4
    have l5 : moV N3 = (stN D seed (i + 1)).1 := by rw [l3, j2]; rfl
    have o41 : N3.1 73 41 = (stN D seed (i + 1)).1.2.2.2.2.2.2.2.2 := by rw [← l5]; rfl
    have ob : N3.1 73 41 = ovB (n2 60) (moV N2).1 := by
      have : N3.1 73 41 = (moV N3).2.2.2.2.2.2.2.2 := rfl
      rw [this, l3]
      rfl
    have hb : f_X12_bitsOf y (N3.1 73 41) N3 = some (bcJ (N3.1 73 41)) := by
      rw [ob]
      exact bitsOf_ov (by decide)
    rw [hb, cp_s, lT_s, lT_s, n2_s]
    refine hk _ N3 ⟨(i1.trans (j1.mono (by decide))).trans (l2.mono (by decide)), hC2.frame (l2.2 77 (by decide)), l5, ?_, ?_, ?_, ?_⟩
    · rw [l4 54 (by decide) (by decide) (by decide) (by decide), j3]
      rfl
    · rw [i5, o41]
      exact (nxt_ok D (q := stN D seed i) (i := i) (by omega) hs).2.symm
    · rw [l2.2 93 (by decide), j1.2 93 (by decide)]
      exact i6
    · rw [l4 4 (by decide) (by decide) (by decide) (by decide), j4 4 (by decide) (by decide)]
      exact i7
  · intro f a s hI
    obtain ⟨i1, i2, i3, i4, i5, i6, i7⟩ := hI
    have hs := stN_ok D seed d (by omega)
    refine wp_brt (Int32.le_refl _) ?_
    have s87 : s.1 87 = (stN D seed d).1.1 := by rw [← i3]; rfl
    have s88 : s.1 88 = (stN D seed d).1.2.1 := by rw [← i3]; rfl
    have s32 : s.1 73 32 = (stN D seed d).1.2.2.2.2.2.1 := by rw [← i3]; rfl
    have fin : ∀ v : Int32, v = skiesR D seed d w → wp (c0 (f_X12_unpack y 73 93 (0 : Int32) s) fun (r22 : Int32) (M23 : Mem) => some (v, M23)) (fun o => o.2.1 73 4 = n2 0 ∧ (0 = 0 → o.1 = skiesR D seed d w) ∧ o.2.2 = N.2) := by
      intro v hv
      refine wp_c0 _ (unpack_93 hy (f := 0) (by decide) i6 (fun k hk => ?_) (fun k hk => ?_)) (fun r N3 h3 => ?_)
      · rw [s87]
        exact hs.1.1.2 k (Nat.le_trans (by decide) hk)
      · rw [s88]
        exact hs.1.2.1 k hk
      · obtain ⟨-, q2, -, q4⟩ := h3
        have q2 : Eqx [73, 87, 88] s N3 := q2
        have q4 : ∀ k, ¬ (31 ≤ k ∧ k ≤ 35) → N3.1 73 k = s.1 73 k := q4
        refine wp_some ⟨?_, fun _ => hv, q2.1.trans i1.1⟩
        show N3.1 73 4 = n2 0
        rw [q4 4 (by decide)]
        exact i7
    rw [jn_s]
    unfold skiesR at fin ⊢
    rcases (show w = 0 ∨ w = 1 ∨ w = 2 by omega) with rfl | rfl | rfl
    · refine wp_brt rfl (fin _ ?_)
      rw [if_pos rfl]
      exact i5
    · refine wp_brf (by decide) (wp_brt rfl ?_)
      rw [allBlueM hy (w := 3) (h := 3) i2.1.1, cp_s]
      refine fin _ ?_
      rw [if_neg (by decide), if_pos rfl, s87]
    · refine wp_brf (by decide) (wp_brf (by decide) (fin _ ?_))
      rw [if_neg (by decide), if_neg (by decide)]
      exact s32
theorem op_skies (seed d w : Int32) : chkL (f_L_skies yS 1 seed d w 110 MS) (f_X12_skies yS 73 seed d w) = true := by
  unfold f_L_skies
  rcases needWhat_s (y := yS) (M := MS) (m := 2) (by decide) w with ⟨hc, e⟩ | ⟨hc, e⟩
  · have hc' : inR 0 2 w := ⟨hc.1, by have := hc.2; omega⟩
    rcases needWithin_s (y := yS) (M := MS) (a := 0) (b := 40) (by decide) (by decide) d with ⟨hd, e2⟩ | ⟨hd, e2⟩
    · obtain ⟨c1, c2⟩ := inN_n hc
      obtain ⟨d1, -, d2⟩ := inR_n hd
      rw [c1] at e ⊢
      rw [d1] at e2 ⊢
      refine chk_g yS_ly 0 0 (skiesR (fun x => x * 1103515245 + 12345) seed d.toInt.toNat w.toInt.toNat) (wp_mono (skies_c _ (fun _ => rfl) yS_ly FRC_S c2 d2 seed e e2) (fun o h => ⟨h.1, h.2.1, MEQ_x h.2.2 (by decide)⟩)) (fun N r h => MEQ_wL h) (fun N hN => ?_) (fun _ => rfl) (fun h => absurd h (by decide)) (fun h => absurd h (by decide)) (by decide) (fun h => absurd rfl h)
      rcases isIn_r (y := yS) (M := wI N 73 4 0) (a := 0) (b := 2) z64.1 z64.2.2.1 (n2 w.toInt.toNat) with ⟨q1, q2⟩ | ⟨q1, q2⟩
      · rcases isIn_r (y := yS) (M := wI N 73 4 0) (a := 0) (b := 40) z64.1 z64.2.2.2.2.2.1 (n2 d.toInt.toNat) with ⟨w1, w2⟩ | ⟨w1, w2⟩
        · exact skies_m _ (fun _ => rfl) yS_ly (FRM_0 hN) c2 d2 seed q2 w2
        · exact absurd (by rw [← d1]; exact hd) w1
      · exact absurd (by rw [← c1]; exact hc') q1
    · refine chk_g yS_ly 2 2 0 (thr_c (by decide) ?_) (fun N r h => MEQ_wL h) (fun N hN => thr_m (k := 2) rfl (by decide) ?_) (by decide) (fun h => absurd h (by decide)) (fun _ _ => rfl) (by decide) (by decide)
      · unfold f_X11_skies
        have e : f_X11_needWhat yS 1 w (2 : Int32) MS = _ := e
        have e2 : f_X11_needWithin yS 1 d (0 : Int32) (40 : Int32) MS = _ := e2
        rw [gK_t (k_1 yS_ly), e, cx_s, e2, cx_2]
      · unfold f_X12_skies
        rcases isIn_r (y := yS) (M := wI N 73 4 0) (a := 0) (b := 2) z64.1 z64.2.2.1 w with ⟨q1, q2⟩ | ⟨q1, q2⟩
        · rcases isIn_r (y := yS) (M := wI N 73 4 0) (a := 0) (b := 40) z64.1 z64.2.2.2.2.2.1 d with ⟨w1, w2⟩ | ⟨w1, w2⟩
          · exact absurd w1 hd
          · rw [gK_t (k_73 yS_ly), lT_s, q2, cp_s, bR_f (by decide), w2, cp_s, bR_t rfl, fail_s yS_ly, c0_s]
        · exact absurd hc' q1
  · refine chk_g yS_ly 1 1 0 (thr_c (by decide) ?_) (fun N r h => MEQ_wL h) (fun N hN => thr_m (k := 1) rfl (by decide) ?_) (by decide) (fun _ _ => rfl) (fun h => absurd h (by decide)) (by decide) (by decide)
    · unfold f_X11_skies
      have e : f_X11_needWhat yS 1 w (2 : Int32) MS = _ := e
      rw [gK_t (k_1 yS_ly), e, cx_1]
    · unfold f_X12_skies
      rcases isIn_r (y := yS) (M := wI N 73 4 0) (a := 0) (b := 2) z64.1 z64.2.2.1 w with ⟨q1, q2⟩ | ⟨q1, q2⟩
      · exact absurd ⟨q1.1, by have := q1.2; omega⟩ hc
      · rw [gK_t (k_73 yS_ly), lT_s, q2, cp_s, bR_t rfl, fail_s yS_ly, c0_s]
