def f_X11_band (y : Lay) (a0 : Nat) (a1 : Int32) (M : Mem) : Option (Nat × Int32 × Mem) := gK y a0 (0, 11) (cx (f_X11_needWithin y a0 a1 (0 : Int32) (40 : Int32) M) fun (r2 : Int32) (M3 : Mem) => c0 (f_X11_lookAhead y a0 a1 M3) fun (r4 : Int32) (M5 : Mem) => fixN (fun _ _ => none) (fun (s8 : Int32 → Int32 → Option (Nat × Int32 × Mem)) (v6 : Int32) (v7 : Int32) => gN (y.2.1 a0 1) (gK y (y.2.1 a0 1) (0, 1) (br ((M5.1 (y.2.1 a0 1) 1) ≤ v7) (some (0, v6, M5)) (gN (y.2.1 a0 5) (gK y (y.2.1 a0 5) (0, 8) (cp (f_X8_rowBlue y (y.2.1 a0 5) v7 M5) fun (r16 : Int32) => cp (f_X8_rowBlue y (y.2.1 a0 5) v6 M5) fun (r17 : Int32) => jn (fun (v18 : Int32) => lt (v7 + (1 : Int32)) fun (v20 : Int32) => s8 v18 v20) fun j19 => br (r16 ≤ r17) (j19 v6) (j19 v7))))))) FUEL (0 : Int32) (1 : Int32))
theorem w_X11_band {g : GX} {l : Launch} (hG : GF g l) (y : Lay) (a0 : Nat) (a1 : Int32) (M : Mem) : C1 g l yX11_band cX11_band 4 (some .int) 6 1 6 y [.ref a0, .int a1] M (f_X11_band y a0 a1 M) := by
  refine C1_of hG (by decide) [some (.ref a0), some (.int a1), none, none] rfl rfl (fun out h x Q C R => ?_)
  unfold f_X11_band at h
  refine g_aload_n C tb_X11_band_0_ok (i := 0) rfl rfl ?_
  refine g_iload_n C tb_X11_band_0_ok (i := 1) rfl rfl ?_
  refine g_iconstv C tb_X11_band_0_ok (i := 2) 0 rfl k_iconstv_0 ?_
  refine g_bipushv C tb_X11_band_0_ok (i := 3) 40 rfl k_bipushv_40 ?_
  obtain ⟨k1, h⟩ := gK_e h
  refine g_callV1 C tb_X11_band_0_ok (i := 4) R [.int a1, .int (0 : Int32), .int (40 : Int32)] rfl mw_X11_needWithin mv_X11_needWithin ml_X11_248 k1 rfl rfl rfl rfl (w_X11_needWithin C.G y a0 a1 (0 : Int32) (40 : Int32) M) h rfl rfl rfl (fun r2 M3 h => ?_)
  refine g_aload_n C tb_X11_band_0_ok (i := 5) rfl rfl ?_
  refine g_iload_n C tb_X11_band_0_ok (i := 6) rfl rfl ?_
  obtain ⟨r4, M5, er4, h⟩ := c0_e h
  refine g_callV0 C tb_X11_band_0_ok (i := 7) [.int a1] rfl mw_X11_lookAhead mv_X11_lookAhead ml_X11_252 k1 rfl rfl rfl rfl (w_X11_lookAhead C.G y a0 a1 M3) er4 rfl rfl rfl ?_
  refine g_iconstv C tb_X11_band_0_ok (i := 8) 0 rfl k_iconstv_0 ?_
  refine g_istore_n C tb_X11_band_0_ok (i := 9) rfl rfl rfl ?_
  refine g_iconstv C tb_X11_band_0_ok (i := 10) 1 rfl k_iconstv_1 ?_
  refine g_istore_n C tb_X11_band_0_ok (i := 11) rfl rfl rfl ?_
  refine g_less (L' := [some (.ref a0), none, some (.int (0 : Int32)), some (.int (1 : Int32))]) ⟨rfl, ⟨rfl, ⟨rfl, trivial⟩⟩⟩ ?_
  refine fix_i (P := fun (f : Int32 → Int32 → Option (Nat × Int32 × Mem)) => ∀ (v6 : Int32) (v7 : Int32), f v6 v7 = some out → GG g x 4 Q 1 6 y M5 17 [some (.ref a0), none, some (.int v6), some (.int v7)] []) ?_ ?_ _ (0 : Int32) (1 : Int32) h
  · intro v6 v7 h; exact (nn_e h).elim
  · intro s8 ih9 v6 v7 h
    refine g_iload_n C tb_X11_band_0_ok (i := 12) rfl rfl ?_
    refine g_aload_n C tb_X11_band_0_ok (i := 13) rfl rfl ?_
    obtain ⟨n10, h⟩ := gN_e h
    refine g_getR C tb_X11_band_0_ok (i := 14) rfl fl_X11_19 rfl k1 n10 ?_
    obtain ⟨k11, h⟩ := gK_e h
    refine g_getI C tb_X11_band_0_ok (i := 15) rfl fl_X11_270 rfl k11 ?_
    obtain ⟨t12, f13⟩ := br_e h
    refine g_icmp_ge C tb_X11_band_0_ok (i := 16) 55 rfl rfl (fun c => ?_) (fun c => ?_)
    · have h := t12 c
      refine g_iload_n C tb_X11_band_0_ok (i := 30) rfl rfl ?_
      cases h
      exact g_iret1 C R rfl rfl tb_X11_band_0_ok (i := 31) rfl
    · have h := f13 c
      refine g_aload_n C tb_X11_band_0_ok (i := 17) rfl rfl ?_
      obtain ⟨n14, h⟩ := gN_e h
      refine g_getR C tb_X11_band_0_ok (i := 18) rfl fl_X11_47 rfl k1 n14 ?_
      refine g_iload_n C tb_X11_band_0_ok (i := 19) rfl rfl ?_
      obtain ⟨k15, h⟩ := gK_e h
      obtain ⟨r16, er16, h⟩ := cp_e h
      refine g_callV0 C tb_X11_band_0_ok (i := 20) [.int v7] rfl mw_X8_rowBlue mv_X8_rowBlue ml_X11_273 k15 rfl rfl rfl rfl (w_X8_rowBlue C.G y (y.2.1 a0 5) v7 M5) (pm_s er16) rfl rfl rfl ?_
      refine g_aload_n C tb_X11_band_0_ok (i := 21) rfl rfl ?_
      refine g_getR C tb_X11_band_0_ok (i := 22) rfl fl_X11_47 rfl k1 n14 ?_
      refine g_iload_n C tb_X11_band_0_ok (i := 23) rfl rfl ?_
      obtain ⟨r17, er17, h⟩ := cp_e h
      refine g_callV0 C tb_X11_band_0_ok (i := 24) [.int v6] rfl mw_X8_rowBlue mv_X8_rowBlue ml_X11_273 k15 rfl rfl rfl rfl (w_X8_rowBlue C.G y (y.2.1 a0 5) v6 M5) (pm_s er17) rfl rfl rfl ?_
      obtain ⟨j19, ej19, h⟩ := jn_e h
      have J49 : ∀ (v18 : Int32), j19 v18 = some out → GG g x 4 Q 1 6 y M5 49 [some (.ref a0), none, some (.int v18), some (.int v7)] [] := by
        intro v18 h; subst ej19
        obtain ⟨v20, ev20⟩ : ∃ w : Int32, w = v7 + (1 : Int32) := ⟨_, rfl⟩
        have h := lt_e ev20 h
        refine g_iincv C tb_X11_band_0_ok (i := 28) (1 : Int32) ev20 rfl rfl k_iconstv_1 rfl rfl ?_
        refine g_goto C tb_X11_band_0_ok (i := 29) 17 rfl rfl ?_
        exact g_less (L' := [some (.ref a0), none, some (.int v18), some (.int v20)]) ⟨rfl, ⟨rfl, ⟨rfl, trivial⟩⟩⟩ (ih9 v18 v20 h)
      obtain ⟨t21, f22⟩ := br_e h
      refine g_icmp_le C tb_X11_band_0_ok (i := 25) 49 rfl rfl (fun c => ?_) (fun c => ?_)
      · have h := t21 c
        exact g_less (L' := [some (.ref a0), none, some (.int v6), some (.int v7)]) ⟨rfl, ⟨rfl, ⟨rfl, trivial⟩⟩⟩ (J49 v6 h)
      · have h := f22 c
        refine g_iload_n C tb_X11_band_0_ok (i := 26) rfl rfl ?_
        refine g_istore_n C tb_X11_band_0_ok (i := 27) rfl rfl rfl ?_
        exact g_less (L' := [some (.ref a0), none, some (.int v7), some (.int v7)]) ⟨rfl, ⟨rfl, ⟨rfl, trivial⟩⟩⟩ (J49 v7 h)
def f_X11_steps (y : Lay) (a0 : Nat) (a1 : Int32) (a2 : Int32) (M : Mem) : Option (Nat × Int32 × Mem) := gK y a0 (0, 11) (cx (f_X11_needGirl y a0 a1 M) fun (r2 : Int32) (M3 : Mem) => cx (f_X11_needCell y a0 a2 M3) fun (r4 : Int32) (M5 : Mem) => gN (y.2.1 a0 1) (gN (y.2.1 a0 3) (gK y (y.2.1 a0 3) (0, 4) (gN (y.2.1 (y.2.1 a0 3) 0) (gK y (y.2.1 (y.2.1 a0 3) 0) (0, 8) (cp (f_X8_spotOf y (y.2.1 (y.2.1 a0 3) 0) a1 M5) fun (r11 : Int32) => gK y (y.2.1 a0 1) (0, 1) (cp (f_X1_stepsBetween y (y.2.1 a0 1) r11 a2 M5) fun (r13 : Int32) => some (0, r13, M5))))))))
theorem w_X11_steps {g : GX} {l : Launch} (hG : GF g l) (y : Lay) (a0 : Nat) (a1 : Int32) (a2 : Int32) (M : Mem) : C1 g l yX11_steps cX11_steps 3 (some .int) 2 2 12 y [.ref a0, .int a1, .int a2] M (f_X11_steps y a0 a1 a2 M) := by
  refine C1_of hG (by decide) [some (.ref a0), some (.int a1), some (.int a2)] rfl rfl (fun out h x Q C R => ?_)
  unfold f_X11_steps at h
  refine g_aload_n C tb_X11_steps_0_ok (i := 0) rfl rfl ?_
  refine g_iload_n C tb_X11_steps_0_ok (i := 1) rfl rfl ?_
  obtain ⟨k1, h⟩ := gK_e h
  refine g_callV1 C tb_X11_steps_0_ok (i := 2) R [.int a1] rfl mw_X11_needGirl mv_X11_needGirl ml_X11_195 k1 rfl rfl rfl rfl (w_X11_needGirl C.G y a0 a1 M) h rfl rfl rfl (fun r2 M3 h => ?_)
  refine g_aload_n C tb_X11_steps_0_ok (i := 3) rfl rfl ?_
  refine g_iload_n C tb_X11_steps_0_ok (i := 4) rfl rfl ?_
  refine g_callV1 C tb_X11_steps_0_ok (i := 5) R [.int a2] rfl mw_X11_needCell mv_X11_needCell ml_X11_179 k1 rfl rfl rfl rfl (w_X11_needCell C.G y a0 a2 M3) h rfl rfl rfl (fun r4 M5 h => ?_)
  refine g_aload_n C tb_X11_steps_0_ok (i := 6) rfl rfl ?_
  obtain ⟨n6, h⟩ := gN_e h
  refine g_getR C tb_X11_steps_0_ok (i := 7) rfl fl_X11_19 rfl k1 n6 ?_
  refine g_aload_n C tb_X11_steps_0_ok (i := 8) rfl rfl ?_
  obtain ⟨n7, h⟩ := gN_e h
  refine g_getR C tb_X11_steps_0_ok (i := 9) rfl fl_X11_37 rfl k1 n7 ?_
  obtain ⟨k8, h⟩ := gK_e h
  obtain ⟨n9, h⟩ := gN_e h
  refine g_getR C tb_X11_steps_0_ok (i := 10) rfl fl_X11_53 rfl k8 n9 ?_
  refine g_iload_n C tb_X11_steps_0_ok (i := 11) rfl rfl ?_
  obtain ⟨k10, h⟩ := gK_e h
  obtain ⟨r11, er11, h⟩ := cp_e h
  refine g_callV0 C tb_X11_steps_0_ok (i := 12) [.int a1] rfl mw_X8_spotOf mv_X8_spotOf ml_X11_201 k10 rfl rfl rfl rfl (w_X8_spotOf C.G y (y.2.1 (y.2.1 a0 3) 0) a1 M5) (pm_s er11) rfl rfl rfl ?_
  refine g_iload_n C tb_X11_steps_0_ok (i := 13) rfl rfl ?_
  obtain ⟨k12, h⟩ := gK_e h
  obtain ⟨r13, er13, h⟩ := cp_e h
  refine g_callV0 C tb_X11_steps_0_ok (i := 14) [.int r11, .int a2] rfl mw_X1_stepsBetween mv_X1_stepsBetween ml_X11_286 k12 rfl rfl rfl rfl (w_X1_stepsBetween C.G y (y.2.1 a0 1) r11 a2 M5) (pm_s er13) rfl rfl rfl ?_
  cases h
  exact g_iret1 C R rfl rfl tb_X11_steps_0_ok (i := 15) rfl
def f_X11_nearest (y : Lay) (a0 : Nat) (a1 : Int32) (M : Mem) : Option (Nat × Int32 × Mem) := gK y a0 (0, 11) (cx (f_X11_needCell y a0 a1 M) fun (r2 : Int32) (M3 : Mem) => lt ((-1) : Int32) fun (v4 : Int32) => fixN (fun _ _ _ => none) (fun (s8 : Int32 → Int32 → Int32 → Option (Nat × Int32 × Mem)) (v5 : Int32) (v6 : Int32) (v7 : Int32) => gN (y.2.1 a0 1) (gK y (y.2.1 a0 1) (0, 1) (br ((M3.1 (y.2.1 a0 1) 4) ≤ v7) (some (0, v5, M3)) (gN (y.2.1 a0 3) (gK y (y.2.1 a0 3) (0, 4) (gN (y.2.1 (y.2.1 a0 3) 0) (gK y (y.2.1 (y.2.1 a0 3) 0) (0, 8) (cp (f_X8_spotOf y (y.2.1 (y.2.1 a0 3) 0) v7 M3) fun (r18 : Int32) => cp (f_X1_stepsBetween y (y.2.1 a0 1) r18 a1 M3) fun (r19 : Int32) => jn (fun (v20 : Int32) (v21 : Int32) => lt (v7 + (1 : Int32)) fun (v23 : Int32) => s8 v20 v21 v23) fun j22 => br (v6 ≤ r19) (j22 v5 v6) (j22 v7 r19))))))))) FUEL v4 (1000000 : Int32) (0 : Int32))
theorem w_X11_nearest {g : GX} {l : Launch} (hG : GF g l) (y : Lay) (a0 : Nat) (a1 : Int32) (M : Mem) : C1 g l yX11_nearest cX11_nearest 6 (some .int) 2 1 6 y [.ref a0, .int a1] M (f_X11_nearest y a0 a1 M) := by
  refine C1_of hG (by decide) [some (.ref a0), some (.int a1), none, none, none, none] rfl rfl (fun out h x Q C R => ?_)
  unfold f_X11_nearest at h
  refine g_aload_n C tb_X11_nearest_0_ok (i := 0) rfl rfl ?_
  refine g_iload_n C tb_X11_nearest_0_ok (i := 1) rfl rfl ?_
  obtain ⟨k1, h⟩ := gK_e h
  refine g_callV1 C tb_X11_nearest_0_ok (i := 2) R [.int a1] rfl mw_X11_needCell mv_X11_needCell ml_X11_179 k1 rfl rfl rfl rfl (w_X11_needCell C.G y a0 a1 M) h rfl rfl rfl (fun r2 M3 h => ?_)
  refine g_iconstv C tb_X11_nearest_0_ok (i := 3) (-1) rfl k_iconstv_m1 ?_
  refine g_topi (fun v4 ev4 => ?_)
  have h := lt_e ev4 h
  refine g_istore_n C tb_X11_nearest_0_ok (i := 4) rfl rfl rfl ?_
  refine g_ldcIw C tb_X11_nearest_0_ok (i := 5) rfl cl_X11_289 ?_
  refine g_istore_n C tb_X11_nearest_0_ok (i := 6) rfl rfl rfl ?_
  refine g_iconstv C tb_X11_nearest_0_ok (i := 7) 0 rfl k_iconstv_0 ?_
  refine g_istore C tb_X11_nearest_0_ok (i := 8) rfl rfl rfl ?_
  refine g_less (L' := [some (.ref a0), some (.int a1), some (.int v4), some (.int (1000000 : Int32)), some (.int (0 : Int32)), none]) ⟨rfl, ⟨rfl, ⟨rfl, ⟨rfl, ⟨rfl, trivial⟩⟩⟩⟩⟩ ?_
  refine fix_i (P := fun (f : Int32 → Int32 → Int32 → Option (Nat × Int32 × Mem)) => ∀ (v5 : Int32) (v6 : Int32) (v7 : Int32), f v5 v6 v7 = some out → GG g x 6 Q 1 6 y M3 14 [some (.ref a0), some (.int a1), some (.int v5), some (.int v6), some (.int v7), none] []) ?_ ?_ _ v4 (1000000 : Int32) (0 : Int32) h
  · intro v5 v6 v7 h; exact (nn_e h).elim
  · intro s8 ih9 v5 v6 v7 h
    refine g_iload C tb_X11_nearest_0_ok (i := 9) rfl rfl ?_
    refine g_aload_n C tb_X11_nearest_0_ok (i := 10) rfl rfl ?_
    obtain ⟨n10, h⟩ := gN_e h
    refine g_getR C tb_X11_nearest_0_ok (i := 11) rfl fl_X11_19 rfl k1 n10 ?_
    obtain ⟨k11, h⟩ := gK_e h
    refine g_getI C tb_X11_nearest_0_ok (i := 12) rfl fl_X11_134 rfl k11 ?_
    obtain ⟨t12, f13⟩ := br_e h
    refine g_icmp_ge C tb_X11_nearest_0_ok (i := 13) 66 rfl rfl (fun c => ?_) (fun c => ?_)
    · have h := t12 c
      refine g_iload_n C tb_X11_nearest_0_ok (i := 33) rfl rfl ?_
      cases h
      exact g_iret1 C R rfl rfl tb_X11_nearest_0_ok (i := 34) rfl
    · have h := f13 c
      refine g_aload_n C tb_X11_nearest_0_ok (i := 14) rfl rfl ?_
      refine g_getR C tb_X11_nearest_0_ok (i := 15) rfl fl_X11_19 rfl k1 n10 ?_
      refine g_aload_n C tb_X11_nearest_0_ok (i := 16) rfl rfl ?_
      obtain ⟨n14, h⟩ := gN_e h
      refine g_getR C tb_X11_nearest_0_ok (i := 17) rfl fl_X11_37 rfl k1 n14 ?_
      obtain ⟨k15, h⟩ := gK_e h
      obtain ⟨n16, h⟩ := gN_e h
      refine g_getR C tb_X11_nearest_0_ok (i := 18) rfl fl_X11_53 rfl k15 n16 ?_
      refine g_iload C tb_X11_nearest_0_ok (i := 19) rfl rfl ?_
      obtain ⟨k17, h⟩ := gK_e h
      obtain ⟨r18, er18, h⟩ := cp_e h
      refine g_callV0 C tb_X11_nearest_0_ok (i := 20) [.int v7] rfl mw_X8_spotOf mv_X8_spotOf ml_X11_201 k17 rfl rfl rfl rfl (w_X8_spotOf C.G y (y.2.1 (y.2.1 a0 3) 0) v7 M3) (pm_s er18) rfl rfl rfl ?_
      refine g_iload_n C tb_X11_nearest_0_ok (i := 21) rfl rfl ?_
      obtain ⟨r19, er19, h⟩ := cp_e h
      refine g_callV0 C tb_X11_nearest_0_ok (i := 22) [.int r18, .int a1] rfl mw_X1_stepsBetween mv_X1_stepsBetween ml_X11_286 k11 rfl rfl rfl rfl (w_X1_stepsBetween C.G y (y.2.1 a0 1) r18 a1 M3) (pm_s er19) rfl rfl rfl ?_
      refine g_istore C tb_X11_nearest_0_ok (i := 23) rfl rfl rfl ?_
      refine g_iload C tb_X11_nearest_0_ok (i := 24) rfl rfl ?_
      refine g_iload_n C tb_X11_nearest_0_ok (i := 25) rfl rfl ?_
      obtain ⟨j22, ej22, h⟩ := jn_e h
      have J60 : ∀ (v20 : Int32) (v21 : Int32), j22 v20 v21 = some out → GG g x 6 Q 1 6 y M3 60 [some (.ref a0), some (.int a1), some (.int v20), some (.int v21), some (.int v7), none] [] := by
        intro v20 v21 h; subst ej22
        obtain ⟨v23, ev23⟩ : ∃ w : Int32, w = v7 + (1 : Int32) := ⟨_, rfl⟩
        have h := lt_e ev23 h
        refine g_iincv C tb_X11_nearest_0_ok (i := 31) (1 : Int32) ev23 rfl rfl k_iconstv_1 rfl rfl ?_
        refine g_goto C tb_X11_nearest_0_ok (i := 32) 14 rfl rfl ?_
        exact g_less (L' := [some (.ref a0), some (.int a1), some (.int v20), some (.int v21), some (.int v23), none]) ⟨rfl, ⟨rfl, ⟨rfl, ⟨rfl, ⟨rfl, trivial⟩⟩⟩⟩⟩ (ih9 v20 v21 v23 h)
      obtain ⟨t24, f25⟩ := br_e h
      refine g_icmp_ge C tb_X11_nearest_0_ok (i := 26) 60 rfl rfl (fun c => ?_) (fun c => ?_)
      · have h := t24 c
        exact g_less (L' := [some (.ref a0), some (.int a1), some (.int v5), some (.int v6), some (.int v7), none]) ⟨rfl, ⟨rfl, ⟨rfl, ⟨rfl, ⟨rfl, trivial⟩⟩⟩⟩⟩ (J60 v5 v6 h)
      · have h := f25 c
        refine g_iload C tb_X11_nearest_0_ok (i := 27) rfl rfl ?_
        refine g_istore_n C tb_X11_nearest_0_ok (i := 28) rfl rfl rfl ?_
        refine g_iload C tb_X11_nearest_0_ok (i := 29) rfl rfl ?_
        refine g_istore_n C tb_X11_nearest_0_ok (i := 30) rfl rfl rfl ?_
        exact g_less (L' := [some (.ref a0), some (.int a1), some (.int v7), some (.int r19), some (.int v7), none]) ⟨rfl, ⟨rfl, ⟨rfl, ⟨rfl, ⟨rfl, trivial⟩⟩⟩⟩⟩ (J60 v7 r19 h)
def f_X11_missed (y : Lay) (a0 : Nat) (a1 : Int32) (M : Mem) : Option (Nat × Int32 × Mem) := gK y a0 (0, 11) (cx (f_X11_needGirl y a0 a1 M) fun (r2 : Int32) (M3 : Mem) => c0 (f_X11_lookAheadIfResting y a0 a1 (1 : Int32) M3) fun (r4 : Int32) (M5 : Mem) => gN (y.2.1 a0 5) (gK y (y.2.1 a0 5) (0, 8) (cp (f_X8_allBlue y (y.2.1 a0 5) M5) fun (r8 : Int32) => c0 (f_X11_lookAheadIfResting y a0 a1 (0 : Int32) M5) fun (r9 : Int32) (M10 : Mem) => cp (f_X8_allBlue y (y.2.1 a0 5) M10) fun (r11 : Int32) => some (0, (r11 - r8), M10))))
theorem w_X11_missed {g : GX} {l : Launch} (hG : GF g l) (y : Lay) (a0 : Nat) (a1 : Int32) (M : Mem) : C1 g l yX11_missed cX11_missed 3 (some .int) 6 1 6 y [.ref a0, .int a1] M (f_X11_missed y a0 a1 M) := by
  refine C1_of hG (by decide) [some (.ref a0), some (.int a1), none] rfl rfl (fun out h x Q C R => ?_)
  unfold f_X11_missed at h
  refine g_aload_n C tb_X11_missed_0_ok (i := 0) rfl rfl ?_
  refine g_iload_n C tb_X11_missed_0_ok (i := 1) rfl rfl ?_
  obtain ⟨k1, h⟩ := gK_e h
  refine g_callV1 C tb_X11_missed_0_ok (i := 2) R [.int a1] rfl mw_X11_needGirl mv_X11_needGirl ml_X11_195 k1 rfl rfl rfl rfl (w_X11_needGirl C.G y a0 a1 M) h rfl rfl rfl (fun r2 M3 h => ?_)
  refine g_aload_n C tb_X11_missed_0_ok (i := 3) rfl rfl ?_
  refine g_iload_n C tb_X11_missed_0_ok (i := 4) rfl rfl ?_
  refine g_iconstv C tb_X11_missed_0_ok (i := 5) 1 rfl k_iconstv_1 ?_
  obtain ⟨r4, M5, er4, h⟩ := c0_e h
  refine g_callV0 C tb_X11_missed_0_ok (i := 6) [.int a1, .int (1 : Int32)] rfl mw_X11_lookAheadIfResting mv_X11_lookAheadIfResting ml_X11_290 k1 rfl rfl rfl rfl (w_X11_lookAheadIfResting C.G y a0 a1 (1 : Int32) M3) er4 rfl rfl rfl ?_
  refine g_aload_n C tb_X11_missed_0_ok (i := 7) rfl rfl ?_
  obtain ⟨n6, h⟩ := gN_e h
  refine g_getR C tb_X11_missed_0_ok (i := 8) rfl fl_X11_47 rfl k1 n6 ?_
  obtain ⟨k7, h⟩ := gK_e h
  obtain ⟨r8, er8, h⟩ := cp_e h
  refine g_callV0 C tb_X11_missed_0_ok (i := 9) [] rfl mw_X8_allBlue mv_X8_allBlue ml_X11_158 k7 rfl rfl rfl rfl (w_X8_allBlue C.G y (y.2.1 a0 5) M5) (pm_s er8) rfl rfl rfl ?_
  refine g_istore_n C tb_X11_missed_0_ok (i := 10) rfl rfl rfl ?_
  refine g_aload_n C tb_X11_missed_0_ok (i := 11) rfl rfl ?_
  refine g_iload_n C tb_X11_missed_0_ok (i := 12) rfl rfl ?_
  refine g_iconstv C tb_X11_missed_0_ok (i := 13) 0 rfl k_iconstv_0 ?_
  obtain ⟨r9, M10, er9, h⟩ := c0_e h
  refine g_callV0 C tb_X11_missed_0_ok (i := 14) [.int a1, .int (0 : Int32)] rfl mw_X11_lookAheadIfResting mv_X11_lookAheadIfResting ml_X11_290 k1 rfl rfl rfl rfl (w_X11_lookAheadIfResting C.G y a0 a1 (0 : Int32) M5) er9 rfl rfl rfl ?_
  refine g_aload_n C tb_X11_missed_0_ok (i := 15) rfl rfl ?_
  refine g_getR C tb_X11_missed_0_ok (i := 16) rfl fl_X11_47 rfl k1 n6 ?_
  obtain ⟨r11, er11, h⟩ := cp_e h
  refine g_callV0 C tb_X11_missed_0_ok (i := 17) [] rfl mw_X8_allBlue mv_X8_allBlue ml_X11_158 k7 rfl rfl rfl rfl (w_X8_allBlue C.G y (y.2.1 a0 5) M10) (pm_s er11) rfl rfl rfl ?_
  refine g_iload_n C tb_X11_missed_0_ok (i := 18) rfl rfl ?_
  refine g_isub C tb_X11_missed_0_ok (i := 19) rfl ?_
  cases h
  exact g_iret1 C R rfl rfl tb_X11_missed_0_ok (i := 20) rfl
def f_X4_addSeen (y : Lay) (a0 : Nat) (a1 : Int32) (a2 : Int32) (a3 : Int32) (M : Mem) : Option (Int32 × Mem) := gK y a0 (0, 4) (jn (fun (_u : Unit) => some ((0 : Int32), M)) fun j2 => br ((M.1 a0 6) < 0) (j2 ()) (br ((M.1 a0 6) < (8 : Int32)) (gN (y.2.1 a0 2) (gA y (y.2.1 a0 2) 1 (M.1 a0 6) (lt (wI M (y.2.1 a0 2) (M.1 a0 6).toNatClampNeg a1) fun (M9 : Mem) => gN (y.2.1 a0 3) (gA y (y.2.1 a0 3) 1 (M9.1 a0 6) (lt (wI M9 (y.2.1 a0 3) (M9.1 a0 6).toNatClampNeg a2) fun (M12 : Mem) => gN (y.2.1 a0 4) (gA y (y.2.1 a0 4) 1 (M12.1 a0 6) (lt (wI M12 (y.2.1 a0 4) (M12.1 a0 6).toNatClampNeg a3) fun (M15 : Mem) => lt (wI M15 a0 6 ((M15.1 a0 6) + (1 : Int32))) fun (M16 : Mem) => some ((1 : Int32), M16)))))))) (j2 ())))
theorem w_X4_addSeen {g : GX} {l : Launch} (hG : GF g l) (y : Lay) (a0 : Nat) (a1 : Int32) (a2 : Int32) (a3 : Int32) (M : Mem) : C0 g l yX4_addSeen cX4_addSeen 4 (some .boolean) 0 y [.ref a0, .int a1, .int a2, .int a3] M (f_X4_addSeen y a0 a1 a2 a3 M) := by
  refine C0_of hG (by decide) [some (.ref a0), some (.int a1), some (.int a2), some (.int a3)] rfl rfl (fun out h x Q C R => ?_)
  unfold f_X4_addSeen at h
  refine g_aload_n C tb_X4_addSeen_0_ok (i := 0) rfl rfl ?_
  obtain ⟨k1, h⟩ := gK_e h
  refine g_getI C tb_X4_addSeen_0_ok (i := 1) rfl fl_X4_47 rfl k1 ?_
  obtain ⟨j2, ej2, h⟩ := jn_e h
  have J16 : ∀ (_u : Unit), j2 _u = some out → GG g x 4 Q 0 0 y M 16 [none, none, none, none] [] := by
    intro _u h; subst ej2
    refine g_iconstv C tb_X4_addSeen_0_ok (i := 7) 0 rfl k_iconstv_0 ?_
    cases h
    exact g_zret0 C R (by decide) tb_X4_addSeen_0_ok (i := 8) rfl
  obtain ⟨t3, f4⟩ := br_e h
  refine g_if_lt C tb_X4_addSeen_0_ok (i := 2) 16 rfl rfl (fun c => ?_) (fun c => ?_)
  · have h := t3 c
    exact g_less (L' := [none, none, none, none]) trivial (J16 () h)
  · have h := f4 c
    refine g_aload_n C tb_X4_addSeen_0_ok (i := 3) rfl rfl ?_
    refine g_getI C tb_X4_addSeen_0_ok (i := 4) rfl fl_X4_47 rfl k1 ?_
    refine g_bipushv C tb_X4_addSeen_0_ok (i := 5) 8 rfl k_bipushv_8 ?_
    obtain ⟨t5, f6⟩ := br_e h
    refine g_icmp_lt C tb_X4_addSeen_0_ok (i := 6) 18 rfl rfl (fun c => ?_) (fun c => ?_)
    · have h := t5 c
      refine g_aload_n C tb_X4_addSeen_0_ok (i := 9) rfl rfl ?_
      obtain ⟨n7, h⟩ := gN_e h
      refine g_getR C tb_X4_addSeen_0_ok (i := 10) rfl fl_X4_18 rfl k1 n7 ?_
      refine g_aload_n C tb_X4_addSeen_0_ok (i := 11) rfl rfl ?_
      refine g_getI C tb_X4_addSeen_0_ok (i := 12) rfl fl_X4_47 rfl k1 ?_
      refine g_iload_n C tb_X4_addSeen_0_ok (i := 13) rfl rfl ?_
      obtain ⟨b8, h⟩ := gA_e h
      refine g_iast C tb_X4_addSeen_0_ok (i := 14) rfl b8 ?_
      refine g_mem (fun M9 eM9 => ?_)
      have h := lt_e eM9 h
      refine g_aload_n C tb_X4_addSeen_0_ok (i := 15) rfl rfl ?_
      obtain ⟨n10, h⟩ := gN_e h
      refine g_getR C tb_X4_addSeen_0_ok (i := 16) rfl fl_X4_22 rfl k1 n10 ?_
      refine g_aload_n C tb_X4_addSeen_0_ok (i := 17) rfl rfl ?_
      refine g_getI C tb_X4_addSeen_0_ok (i := 18) rfl fl_X4_47 rfl k1 ?_
      refine g_iload_n C tb_X4_addSeen_0_ok (i := 19) rfl rfl ?_
      obtain ⟨b11, h⟩ := gA_e h
      refine g_iast C tb_X4_addSeen_0_ok (i := 20) rfl b11 ?_
      refine g_mem (fun M12 eM12 => ?_)
      have h := lt_e eM12 h
      refine g_aload_n C tb_X4_addSeen_0_ok (i := 21) rfl rfl ?_
      obtain ⟨n13, h⟩ := gN_e h
      refine g_getR C tb_X4_addSeen_0_ok (i := 22) rfl fl_X4_25 rfl k1 n13 ?_
      refine g_aload_n C tb_X4_addSeen_0_ok (i := 23) rfl rfl ?_
      refine g_getI C tb_X4_addSeen_0_ok (i := 24) rfl fl_X4_47 rfl k1 ?_
      refine g_iload_n C tb_X4_addSeen_0_ok (i := 25) rfl rfl ?_
      obtain ⟨b14, h⟩ := gA_e h
      refine g_iast C tb_X4_addSeen_0_ok (i := 26) rfl b14 ?_
      refine g_mem (fun M15 eM15 => ?_)
      have h := lt_e eM15 h
      refine g_aload_n C tb_X4_addSeen_0_ok (i := 27) rfl rfl ?_
      refine g_dup C tb_X4_addSeen_0_ok (i := 28) rfl rfl ?_
      refine g_getI C tb_X4_addSeen_0_ok (i := 29) rfl fl_X4_47 rfl k1 ?_
      refine g_iconstv C tb_X4_addSeen_0_ok (i := 30) 1 rfl k_iconstv_1 ?_
      refine g_iadd C tb_X4_addSeen_0_ok (i := 31) rfl ?_
      refine g_putI C tb_X4_addSeen_0_ok (i := 32) rfl fl_X4_47 ft_4_6 rfl k1 ?_
      refine g_mem (fun M16 eM16 => ?_)
      have h := lt_e eM16 h
      refine g_iconstv C tb_X4_addSeen_0_ok (i := 33) 1 rfl k_iconstv_1 ?_
      cases h
      exact g_zret0 C R (by decide) tb_X4_addSeen_0_ok (i := 34) rfl
    · have h := f6 c
      exact g_less (L' := [none, none, none, none]) trivial (J16 () h)
def f_X11_see (y : Lay) (a0 : Nat) (a1 : Int32) (a2 : Int32) (a3 : Int32) (M : Mem) : Option (Nat × Int32 × Mem) := gK y a0 (0, 11) (cx (f_X11_needCell y a0 a1 M) fun (r2 : Int32) (M3 : Mem) => jn (fun (M4 : Mem) => gN (y.2.1 a0 3) (gK y (y.2.1 a0 3) (0, 4) (c0 (f_X4_refuse y (y.2.1 a0 3) (2 : Int32) M4) fun (r8 : Int32) (M9 : Mem) => some (0, ((-1) : Int32), M9)))) fun j5 => br (a2 < 0) (j5 M3) (br ((20 : Int32) < a2) (j5 M3) (br (a3 < 0) (j5 M3) (br ((99 : Int32) < a3) (j5 M3) (gN (y.2.1 a0 3) (gK y (y.2.1 a0 3) (0, 4) (c0 (f_X4_addSeen y (y.2.1 a0 3) a1 a2 a3 M3) fun (r20 : Int32) (M21 : Mem) => br (r20 = 0) (j5 M21) (some (0, (M21.1 (y.2.1 a0 3) 6), M21)))))))))
theorem w_X11_see {g : GX} {l : Launch} (hG : GF g l) (y : Lay) (a0 : Nat) (a1 : Int32) (a2 : Int32) (a3 : Int32) (M : Mem) : C1 g l yX11_see cX11_see 4 (some .int) 2 1 6 y [.ref a0, .int a1, .int a2, .int a3] M (f_X11_see y a0 a1 a2 a3 M) := by
  refine C1_of hG (by decide) [some (.ref a0), some (.int a1), some (.int a2), some (.int a3)] rfl rfl (fun out h x Q C R => ?_)
  unfold f_X11_see at h
  refine g_aload_n C tb_X11_see_0_ok (i := 0) rfl rfl ?_
  refine g_iload_n C tb_X11_see_0_ok (i := 1) rfl rfl ?_
  obtain ⟨k1, h⟩ := gK_e h
  refine g_callV1 C tb_X11_see_0_ok (i := 2) R [.int a1] rfl mw_X11_needCell mv_X11_needCell ml_X11_179 k1 rfl rfl rfl rfl (w_X11_needCell C.G y a0 a1 M) h rfl rfl rfl (fun r2 M3 h => ?_)
  refine g_iload_n C tb_X11_see_0_ok (i := 3) rfl rfl ?_
  obtain ⟨j5, ej5, h⟩ := jn_e h
  have J38 : ∀ (M4 : Mem), j5 M4 = some out → GG g x 4 Q 1 6 y M4 38 [some (.ref a0), none, none, none] [] := by
    intro M4 h; subst ej5
    refine g_aload_n C tb_X11_see_0_ok (i := 20) rfl rfl ?_
    obtain ⟨n6, h⟩ := gN_e h
    refine g_getR C tb_X11_see_0_ok (i := 21) rfl fl_X11_37 rfl k1 n6 ?_
    refine g_iconstv C tb_X11_see_0_ok (i := 22) 2 rfl k_iconstv_2 ?_
    obtain ⟨k7, h⟩ := gK_e h
    obtain ⟨r8, M9, er8, h⟩ := c0_e h
    refine g_callV0 C tb_X11_see_0_ok (i := 23) [.int (2 : Int32)] rfl mw_X4_refuse mv_X4_refuse ml_X11_109 k7 rfl rfl rfl rfl (w_X4_refuse C.G y (y.2.1 a0 3) (2 : Int32) M4) er8 rfl rfl rfl ?_
    refine g_iconstv C tb_X11_see_0_ok (i := 24) (-1) rfl k_iconstv_m1 ?_
    cases h
    exact g_iret1 C R rfl rfl tb_X11_see_0_ok (i := 25) rfl
  obtain ⟨t10, f11⟩ := br_e h
  refine g_if_lt C tb_X11_see_0_ok (i := 4) 38 rfl rfl (fun c => ?_) (fun c => ?_)
  · have h := t10 c
    exact g_less (L' := [some (.ref a0), none, none, none]) ⟨rfl, trivial⟩ (J38 M3 h)
  · have h := f11 c
    refine g_iload_n C tb_X11_see_0_ok (i := 5) rfl rfl ?_
    refine g_bipushv C tb_X11_see_0_ok (i := 6) 20 rfl k_bipushv_20 ?_
    obtain ⟨t12, f13⟩ := br_e h
    refine g_icmp_gt C tb_X11_see_0_ok (i := 7) 38 rfl rfl (fun c => ?_) (fun c => ?_)
    · have h := t12 c
      exact g_less (L' := [some (.ref a0), none, none, none]) ⟨rfl, trivial⟩ (J38 M3 h)
    · have h := f13 c
      refine g_iload_n C tb_X11_see_0_ok (i := 8) rfl rfl ?_
      obtain ⟨t14, f15⟩ := br_e h
      refine g_if_lt C tb_X11_see_0_ok (i := 9) 38 rfl rfl (fun c => ?_) (fun c => ?_)
      · have h := t14 c
        exact g_less (L' := [some (.ref a0), none, none, none]) ⟨rfl, trivial⟩ (J38 M3 h)
      · have h := f15 c
        refine g_iload_n C tb_X11_see_0_ok (i := 10) rfl rfl ?_
        refine g_bipushv C tb_X11_see_0_ok (i := 11) 99 rfl k_bipushv_99 ?_
        obtain ⟨t16, f17⟩ := br_e h
        refine g_icmp_gt C tb_X11_see_0_ok (i := 12) 38 rfl rfl (fun c => ?_) (fun c => ?_)
        · have h := t16 c
          exact g_less (L' := [some (.ref a0), none, none, none]) ⟨rfl, trivial⟩ (J38 M3 h)
        · have h := f17 c
          refine g_aload_n C tb_X11_see_0_ok (i := 13) rfl rfl ?_
          obtain ⟨n18, h⟩ := gN_e h
          refine g_getR C tb_X11_see_0_ok (i := 14) rfl fl_X11_37 rfl k1 n18 ?_
          refine g_iload_n C tb_X11_see_0_ok (i := 15) rfl rfl ?_
          refine g_iload_n C tb_X11_see_0_ok (i := 16) rfl rfl ?_
          refine g_iload_n C tb_X11_see_0_ok (i := 17) rfl rfl ?_
          obtain ⟨k19, h⟩ := gK_e h
          obtain ⟨r20, M21, er20, h⟩ := c0_e h
          refine g_callV0 C tb_X11_see_0_ok (i := 18) [.int a1, .int a2, .int a3] rfl mw_X4_addSeen mv_X4_addSeen ml_X11_310 k19 rfl rfl rfl rfl (w_X4_addSeen C.G y (y.2.1 a0 3) a1 a2 a3 M3) er20 rfl rfl rfl ?_
          obtain ⟨t22, f23⟩ := br_e h
          refine g_if_ne C tb_X11_see_0_ok (i := 19) 48 rfl rfl (fun c => ?_) (fun c => ?_)
          · have h := f23 c
            refine g_aload_n C tb_X11_see_0_ok (i := 26) rfl rfl ?_
            refine g_getR C tb_X11_see_0_ok (i := 27) rfl fl_X11_37 rfl k1 n18 ?_
            refine g_getI C tb_X11_see_0_ok (i := 28) rfl fl_X11_170 rfl k19 ?_
            cases h
            exact g_iret1 C R rfl rfl tb_X11_see_0_ok (i := 29) rfl
          · have h := t22 c
            exact g_less (L' := [some (.ref a0), none, none, none]) ⟨rfl, trivial⟩ (J38 M21 h)
def f_X4_lastSeenDay (y : Lay) (a0 : Nat) (M : Mem) : Option Int32 := fixN (fun _ _ => none) (fun (s3 : Int32 → Int32 → Option Int32) (v1 : Int32) (v2 : Int32) => gK y a0 (0, 4) (jn (fun (_u : Unit) => some v1) fun j6 => br ((M.1 a0 6) ≤ v2) (j6 ()) (br ((8 : Int32) ≤ v2) (j6 ()) (gN (y.2.1 a0 3) (gA y (y.2.1 a0 3) 1 v2 (lt (jmax v1 (M.1 (y.2.1 a0 3) v2.toNatClampNeg)) fun (v13 : Int32) => lt (v2 + (1 : Int32)) fun (v14 : Int32) => s3 v13 v14)))))) FUEL (0 : Int32) (0 : Int32)
theorem w_X4_lastSeenDay {g : GX} {l : Launch} (hG : GF g l) (y : Lay) (a0 : Nat) (M : Mem) : C0 g l yX4_lastSeenDay cX4_lastSeenDay 3 (some .int) 0 y [.ref a0] M (pm M (f_X4_lastSeenDay y a0 M)) := by
  refine CP_of hG (by decide) [some (.ref a0), none, none] rfl rfl (fun out h x Q C R => ?_)
  unfold f_X4_lastSeenDay at h
  refine g_iconstv C tb_X4_lastSeenDay_0_ok (i := 0) 0 rfl k_iconstv_0 ?_
  refine g_istore_n C tb_X4_lastSeenDay_0_ok (i := 1) rfl rfl rfl ?_
  refine g_iconstv C tb_X4_lastSeenDay_0_ok (i := 2) 0 rfl k_iconstv_0 ?_
  refine g_istore_n C tb_X4_lastSeenDay_0_ok (i := 3) rfl rfl rfl ?_
  refine g_less (L' := [some (.ref a0), some (.int (0 : Int32)), some (.int (0 : Int32))]) ⟨rfl, ⟨rfl, ⟨rfl, trivial⟩⟩⟩ ?_
  refine fix_i (P := fun (f : Int32 → Int32 → Option Int32) => ∀ (v1 : Int32) (v2 : Int32), f v1 v2 = some out → GG g x 3 Q 0 0 y M 4 [some (.ref a0), some (.int v1), some (.int v2)] []) ?_ ?_ _ (0 : Int32) (0 : Int32) h
  · intro v1 v2 h; exact (nn_e h).elim
  · intro s3 ih4 v1 v2 h
    refine g_iload_n C tb_X4_lastSeenDay_0_ok (i := 4) rfl rfl ?_
    refine g_aload_n C tb_X4_lastSeenDay_0_ok (i := 5) rfl rfl ?_
    obtain ⟨k5, h⟩ := gK_e h
    refine g_getI C tb_X4_lastSeenDay_0_ok (i := 6) rfl fl_X4_47 rfl k5 ?_
    obtain ⟨j6, ej6, h⟩ := jn_e h
    have J35 : ∀ (_u : Unit), j6 _u = some out → GG g x 3 Q 0 0 y M 35 [none, some (.int v1), none] [] := by
      intro _u h; subst ej6
      refine g_iload_n C tb_X4_lastSeenDay_0_ok (i := 20) rfl rfl ?_
      cases h
      exact g_iret0 C R tb_X4_lastSeenDay_0_ok (i := 21) rfl
    obtain ⟨t7, f8⟩ := br_e h
    refine g_icmp_ge C tb_X4_lastSeenDay_0_ok (i := 7) 35 rfl rfl (fun c => ?_) (fun c => ?_)
    · have h := t7 c
      exact g_less (L' := [none, some (.int v1), none]) ⟨rfl, trivial⟩ (J35 () h)
    · have h := f8 c
      refine g_iload_n C tb_X4_lastSeenDay_0_ok (i := 8) rfl rfl ?_
      refine g_bipushv C tb_X4_lastSeenDay_0_ok (i := 9) 8 rfl k_bipushv_8 ?_
      obtain ⟨t9, f10⟩ := br_e h
      refine g_icmp_ge C tb_X4_lastSeenDay_0_ok (i := 10) 35 rfl rfl (fun c => ?_) (fun c => ?_)
      · have h := t9 c
        exact g_less (L' := [none, some (.int v1), none]) ⟨rfl, trivial⟩ (J35 () h)
      · have h := f10 c
        refine g_iload_n C tb_X4_lastSeenDay_0_ok (i := 11) rfl rfl ?_
        refine g_aload_n C tb_X4_lastSeenDay_0_ok (i := 12) rfl rfl ?_
        obtain ⟨n11, h⟩ := gN_e h
        refine g_getR C tb_X4_lastSeenDay_0_ok (i := 13) rfl fl_X4_22 rfl k5 n11 ?_
        refine g_iload_n C tb_X4_lastSeenDay_0_ok (i := 14) rfl rfl ?_
        obtain ⟨b12, h⟩ := gA_e h
        refine g_iald C tb_X4_lastSeenDay_0_ok (i := 15) rfl b12 ?_
        refine g_max C tb_X4_lastSeenDay_0_ok (i := 16) rfl mt_X4_63 rfl rfl rfl ?_
        refine g_topi (fun v13 ev13 => ?_)
        have h := lt_e ev13 h
        refine g_istore_n C tb_X4_lastSeenDay_0_ok (i := 17) rfl rfl rfl ?_
        obtain ⟨v14, ev14⟩ : ∃ w : Int32, w = v2 + (1 : Int32) := ⟨_, rfl⟩
        have h := lt_e ev14 h
        refine g_iincv C tb_X4_lastSeenDay_0_ok (i := 18) (1 : Int32) ev14 rfl rfl k_iconstv_1 rfl rfl ?_
        refine g_goto C tb_X4_lastSeenDay_0_ok (i := 19) 4 rfl rfl ?_
        exact g_less (L' := [some (.ref a0), some (.int v13), some (.int v14)]) ⟨rfl, ⟨rfl, ⟨rfl, trivial⟩⟩⟩ (ih4 v13 v14 h)
def f_X4_fitsSeen (y : Lay) (a0 : Nat) (a1 : Nat) (a2 : Int32) (M : Mem) : Option Int32 := fixN (fun _ => none) (fun (s2 : Int32 → Option Int32) (v1 : Int32) => gK y a0 (0, 4) (jn (fun (_u : Unit) => some (1 : Int32)) fun j5 => br ((M.1 a0 6) ≤ v1) (j5 ()) (br ((8 : Int32) ≤ v1) (j5 ()) (gN (y.2.1 a0 3) (gA y (y.2.1 a0 3) 1 v1 (jn (fun (_u : Unit) => lt (v1 + (1 : Int32)) fun (v13 : Int32) => s2 v13) fun j12 => br ((M.1 (y.2.1 a0 3) v1.toNatClampNeg) = a2) (gN (y.2.1 a0 2) (gA y (y.2.1 a0 2) 1 v1 (gK y a1 (0, 8) (cp (f_X8_blueOf y a1 (M.1 (y.2.1 a0 2) v1.toNatClampNeg) M) fun (r19 : Int32) => gN (y.2.1 a0 4) (gA y (y.2.1 a0 4) 1 v1 (br (r19 = (M.1 (y.2.1 a0 4) v1.toNatClampNeg)) (j12 ()) (some (0 : Int32)))))))) (j12 ()))))))) FUEL (0 : Int32)
theorem w_X4_fitsSeen {g : GX} {l : Launch} (hG : GF g l) (y : Lay) (a0 : Nat) (a1 : Nat) (a2 : Int32) (M : Mem) : C0 g l yX4_fitsSeen cX4_fitsSeen 4 (some .boolean) 1 y [.ref a0, .ref a1, .int a2] M (pm M (f_X4_fitsSeen y a0 a1 a2 M)) := by
  refine CP_of hG (by decide) [some (.ref a0), some (.ref a1), some (.int a2), none] rfl rfl (fun out h x Q C R => ?_)
  unfold f_X4_fitsSeen at h
  refine g_iconstv C tb_X4_fitsSeen_0_ok (i := 0) 0 rfl k_iconstv_0 ?_
  refine g_istore_n C tb_X4_fitsSeen_0_ok (i := 1) rfl rfl rfl ?_
  refine g_less (L' := [some (.ref a0), some (.ref a1), some (.int a2), some (.int (0 : Int32))]) ⟨rfl, ⟨rfl, ⟨rfl, ⟨rfl, trivial⟩⟩⟩⟩ ?_
  refine fix_i (P := fun (f : Int32 → Option Int32) => ∀ (v1 : Int32), f v1 = some out → GG g x 4 Q 0 0 y M 2 [some (.ref a0), some (.ref a1), some (.int a2), some (.int v1)] []) ?_ ?_ _ (0 : Int32) h
  · intro v1 h; exact (nn_e h).elim
  · intro s2 ih3 v1 h
    refine g_iload_n C tb_X4_fitsSeen_0_ok (i := 2) rfl rfl ?_
    refine g_aload_n C tb_X4_fitsSeen_0_ok (i := 3) rfl rfl ?_
    obtain ⟨k4, h⟩ := gK_e h
    refine g_getI C tb_X4_fitsSeen_0_ok (i := 4) rfl fl_X4_47 rfl k4 ?_
    obtain ⟨j5, ej5, h⟩ := jn_e h
    have J53 : ∀ (_u : Unit), j5 _u = some out → GG g x 4 Q 0 0 y M 53 [none, none, none, none] [] := by
      intro _u h; subst ej5
      refine g_iconstv C tb_X4_fitsSeen_0_ok (i := 30) 1 rfl k_iconstv_1 ?_
      cases h
      exact g_zret0 C R (by decide) tb_X4_fitsSeen_0_ok (i := 31) rfl
    obtain ⟨t6, f7⟩ := br_e h
    refine g_icmp_ge C tb_X4_fitsSeen_0_ok (i := 5) 53 rfl rfl (fun c => ?_) (fun c => ?_)
    · have h := t6 c
      exact g_less (L' := [none, none, none, none]) trivial (J53 () h)
    · have h := f7 c
      refine g_iload_n C tb_X4_fitsSeen_0_ok (i := 6) rfl rfl ?_
      refine g_bipushv C tb_X4_fitsSeen_0_ok (i := 7) 8 rfl k_bipushv_8 ?_
      obtain ⟨t8, f9⟩ := br_e h
      refine g_icmp_ge C tb_X4_fitsSeen_0_ok (i := 8) 53 rfl rfl (fun c => ?_) (fun c => ?_)
      · have h := t8 c
        exact g_less (L' := [none, none, none, none]) trivial (J53 () h)
      · have h := f9 c
        refine g_aload_n C tb_X4_fitsSeen_0_ok (i := 9) rfl rfl ?_
        obtain ⟨n10, h⟩ := gN_e h
        refine g_getR C tb_X4_fitsSeen_0_ok (i := 10) rfl fl_X4_22 rfl k4 n10 ?_
        refine g_iload_n C tb_X4_fitsSeen_0_ok (i := 11) rfl rfl ?_
        obtain ⟨b11, h⟩ := gA_e h
        refine g_iald C tb_X4_fitsSeen_0_ok (i := 12) rfl b11 ?_
        refine g_iload_n C tb_X4_fitsSeen_0_ok (i := 13) rfl rfl ?_
        obtain ⟨j12, ej12, h⟩ := jn_e h
        have J47 : ∀ (_u : Unit), j12 _u = some out → GG g x 4 Q 0 0 y M 47 [some (.ref a0), some (.ref a1), some (.int a2), some (.int v1)] [] := by
          intro _u h; subst ej12
          obtain ⟨v13, ev13⟩ : ∃ w : Int32, w = v1 + (1 : Int32) := ⟨_, rfl⟩
          have h := lt_e ev13 h
          refine g_iincv C tb_X4_fitsSeen_0_ok (i := 28) (1 : Int32) ev13 rfl rfl k_iconstv_1 rfl rfl ?_
          refine g_goto C tb_X4_fitsSeen_0_ok (i := 29) 2 rfl rfl ?_
          exact g_less (L' := [some (.ref a0), some (.ref a1), some (.int a2), some (.int v13)]) ⟨rfl, ⟨rfl, ⟨rfl, ⟨rfl, trivial⟩⟩⟩⟩ (ih3 v13 h)
        obtain ⟨t14, f15⟩ := br_e h
        refine g_icmp_ne C tb_X4_fitsSeen_0_ok (i := 14) 47 rfl rfl (fun c => ?_) (fun c => ?_)
        · have h := f15 c
          exact g_less (L' := [some (.ref a0), some (.ref a1), some (.int a2), some (.int v1)]) ⟨rfl, ⟨rfl, ⟨rfl, ⟨rfl, trivial⟩⟩⟩⟩ (J47 () h)
        · have h := t14 c
          refine g_aload_n C tb_X4_fitsSeen_0_ok (i := 15) rfl rfl ?_
          refine g_aload_n C tb_X4_fitsSeen_0_ok (i := 16) rfl rfl ?_
          obtain ⟨n16, h⟩ := gN_e h
          refine g_getR C tb_X4_fitsSeen_0_ok (i := 17) rfl fl_X4_18 rfl k4 n16 ?_
          refine g_iload_n C tb_X4_fitsSeen_0_ok (i := 18) rfl rfl ?_
          obtain ⟨b17, h⟩ := gA_e h
          refine g_iald C tb_X4_fitsSeen_0_ok (i := 19) rfl b17 ?_
          obtain ⟨k18, h⟩ := gK_e h
          obtain ⟨r19, er19, h⟩ := cp_e h
          refine g_callV0 C tb_X4_fitsSeen_0_ok (i := 20) [.int (M.1 (y.2.1 a0 2) v1.toNatClampNeg)] rfl mw_X8_blueOf mv_X8_blueOf ml_X4_69 k18 rfl rfl rfl rfl (w_X8_blueOf C.G y a1 (M.1 (y.2.1 a0 2) v1.toNatClampNeg) M) (pm_s er19) rfl rfl rfl ?_
          refine g_aload_n C tb_X4_fitsSeen_0_ok (i := 21) rfl rfl ?_
          obtain ⟨n20, h⟩ := gN_e h
          refine g_getR C tb_X4_fitsSeen_0_ok (i := 22) rfl fl_X4_25 rfl k4 n20 ?_
          refine g_iload_n C tb_X4_fitsSeen_0_ok (i := 23) rfl rfl ?_
          obtain ⟨b21, h⟩ := gA_e h
          refine g_iald C tb_X4_fitsSeen_0_ok (i := 24) rfl b21 ?_
          obtain ⟨t22, f23⟩ := br_e h
          refine g_icmp_eq C tb_X4_fitsSeen_0_ok (i := 25) 47 rfl rfl (fun c => ?_) (fun c => ?_)
          · have h := t22 c
            exact g_less (L' := [some (.ref a0), some (.ref a1), some (.int a2), some (.int v1)]) ⟨rfl, ⟨rfl, ⟨rfl, ⟨rfl, trivial⟩⟩⟩⟩ (J47 () h)
          · have h := f23 c
            refine g_iconstv C tb_X4_fitsSeen_0_ok (i := 26) 0 rfl k_iconstv_0 ?_
            cases h
            exact g_zret0 C R (by decide) tb_X4_fitsSeen_0_ok (i := 27) rfl
def f_X11_wouldFit (y : Lay) (a0 : Nat) (a1 : Int32) (a2 : Int32) (M : Mem) : Option (Int32 × Mem) := gK y a0 (0, 11) (gN (y.2.1 a0 5) (gN (y.2.1 a0 3) (gK y (y.2.1 a0 3) (0, 4) (gN (y.2.1 (y.2.1 a0 3) 0) (gK y (y.2.1 a0 5) (0, 8) (c0 (f_X8_copyFrom y (y.2.1 a0 5) (y.2.1 (y.2.1 a0 3) 0) M) fun (r7 : Int32) (M8 : Mem) => c0 (f_X8_setSkill y (y.2.1 a0 5) a1 a2 M8) fun (r9 : Int32) (M10 : Mem) => cp (f_X4_lastSeenDay y (y.2.1 a0 3) M10) fun (r11 : Int32) => fixN (fun _ _ => none) (fun (s14 : Int32 → Mem → Option (Int32 × Mem)) (v12 : Int32) (M13 : Mem) => br (r11 < v12) (some ((1 : Int32), M13)) (cp (f_X4_fitsSeen y (y.2.1 a0 3) (y.2.1 a0 5) v12 M13) fun (r18 : Int32) => br (r18 = 0) (some ((0 : Int32), M13)) (jn (fun (M21 : Mem) => lt (v12 + (1 : Int32)) fun (v23 : Int32) => s14 v23 M21) fun j22 => br (r11 ≤ v12) (j22 M13) (c0 (f_X8_passDay y (y.2.1 a0 5) M13) fun (r26 : Int32) (M27 : Mem) => j22 M27)))) FUEL (0 : Int32) M10))))))
theorem w_X11_wouldFit {g : GX} {l : Launch} (hG : GF g l) (y : Lay) (a0 : Nat) (a1 : Int32) (a2 : Int32) (M : Mem) : C0 g l yX11_wouldFit cX11_wouldFit 5 (some .boolean) 5 y [.ref a0, .int a1, .int a2] M (f_X11_wouldFit y a0 a1 a2 M) := by
  refine C0_of hG (by decide) [some (.ref a0), some (.int a1), some (.int a2), none, none] rfl rfl (fun out h x Q C R => ?_)
  unfold f_X11_wouldFit at h
  refine g_aload_n C tb_X11_wouldFit_0_ok (i := 0) rfl rfl ?_
  obtain ⟨k1, h⟩ := gK_e h
  obtain ⟨n2, h⟩ := gN_e h
  refine g_getR C tb_X11_wouldFit_0_ok (i := 1) rfl fl_X11_47 rfl k1 n2 ?_
  refine g_aload_n C tb_X11_wouldFit_0_ok (i := 2) rfl rfl ?_
  obtain ⟨n3, h⟩ := gN_e h
  refine g_getR C tb_X11_wouldFit_0_ok (i := 3) rfl fl_X11_37 rfl k1 n3 ?_
  obtain ⟨k4, h⟩ := gK_e h
  obtain ⟨n5, h⟩ := gN_e h
  refine g_getR C tb_X11_wouldFit_0_ok (i := 4) rfl fl_X11_53 rfl k4 n5 ?_
  obtain ⟨k6, h⟩ := gK_e h
  obtain ⟨r7, M8, er7, h⟩ := c0_e h
  refine g_callV0 C tb_X11_wouldFit_0_ok (i := 5) [.ref (y.2.1 (y.2.1 a0 3) 0)] rfl mw_X8_copyFrom mv_X8_copyFrom ml_X11_343 k6 rfl rfl rfl rfl (w_X8_copyFrom C.G y (y.2.1 a0 5) (y.2.1 (y.2.1 a0 3) 0) M) er7 rfl rfl rfl ?_
  refine g_aload_n C tb_X11_wouldFit_0_ok (i := 6) rfl rfl ?_
  refine g_getR C tb_X11_wouldFit_0_ok (i := 7) rfl fl_X11_47 rfl k1 n2 ?_
  refine g_iload_n C tb_X11_wouldFit_0_ok (i := 8) rfl rfl ?_
  refine g_iload_n C tb_X11_wouldFit_0_ok (i := 9) rfl rfl ?_
  obtain ⟨r9, M10, er9, h⟩ := c0_e h
  refine g_callV0 C tb_X11_wouldFit_0_ok (i := 10) [.int a1, .int a2] rfl mw_X8_setSkill mv_X8_setSkill ml_X11_345 k6 rfl rfl rfl rfl (w_X8_setSkill C.G y (y.2.1 a0 5) a1 a2 M8) er9 rfl rfl rfl ?_
  refine g_aload_n C tb_X11_wouldFit_0_ok (i := 11) rfl rfl ?_
  refine g_getR C tb_X11_wouldFit_0_ok (i := 12) rfl fl_X11_37 rfl k1 n3 ?_
  obtain ⟨r11, er11, h⟩ := cp_e h
  refine g_callV0 C tb_X11_wouldFit_0_ok (i := 13) [] rfl mw_X4_lastSeenDay mv_X4_lastSeenDay ml_X11_348 k4 rfl rfl rfl rfl (w_X4_lastSeenDay C.G y (y.2.1 a0 3) M10) (pm_s er11) rfl rfl rfl ?_
  refine g_istore_n C tb_X11_wouldFit_0_ok (i := 14) rfl rfl rfl ?_
  refine g_iconstv C tb_X11_wouldFit_0_ok (i := 15) 0 rfl k_iconstv_0 ?_
  refine g_istore C tb_X11_wouldFit_0_ok (i := 16) rfl rfl rfl ?_
  refine g_less (L' := [some (.ref a0), none, none, some (.int r11), some (.int (0 : Int32))]) ⟨rfl, ⟨rfl, ⟨rfl, trivial⟩⟩⟩ ?_
  refine fix_i (P := fun (f : Int32 → Mem → Option (Int32 × Mem)) => ∀ (v12 : Int32) (M13 : Mem), f v12 M13 = some out → GG g x 5 Q 0 0 y M13 34 [some (.ref a0), none, none, some (.int r11), some (.int v12)] []) ?_ ?_ _ (0 : Int32) M10 h
  · intro v12 M13 h; exact (nn_e h).elim
  · intro s14 ih15 v12 M13 h
    refine g_iload C tb_X11_wouldFit_0_ok (i := 17) rfl rfl ?_
    refine g_iload_n C tb_X11_wouldFit_0_ok (i := 18) rfl rfl ?_
    obtain ⟨t16, f17⟩ := br_e h
    refine g_icmp_gt C tb_X11_wouldFit_0_ok (i := 19) 77 rfl rfl (fun c => ?_) (fun c => ?_)
    · have h := t16 c
      refine g_iconstv C tb_X11_wouldFit_0_ok (i := 37) 1 rfl k_iconstv_1 ?_
      cases h
      exact g_zret0 C R (by decide) tb_X11_wouldFit_0_ok (i := 38) rfl
    · have h := f17 c
      refine g_aload_n C tb_X11_wouldFit_0_ok (i := 20) rfl rfl ?_
      refine g_getR C tb_X11_wouldFit_0_ok (i := 21) rfl fl_X11_37 rfl k1 n3 ?_
      refine g_aload_n C tb_X11_wouldFit_0_ok (i := 22) rfl rfl ?_
      refine g_getR C tb_X11_wouldFit_0_ok (i := 23) rfl fl_X11_47 rfl k1 n2 ?_
      refine g_iload C tb_X11_wouldFit_0_ok (i := 24) rfl rfl ?_
      obtain ⟨r18, er18, h⟩ := cp_e h
      refine g_callV0 C tb_X11_wouldFit_0_ok (i := 25) [.ref (y.2.1 a0 5), .int v12] rfl mw_X4_fitsSeen mv_X4_fitsSeen ml_X11_351 k4 rfl rfl rfl rfl (w_X4_fitsSeen C.G y (y.2.1 a0 3) (y.2.1 a0 5) v12 M13) (pm_s er18) rfl rfl rfl ?_
      obtain ⟨t19, f20⟩ := br_e h
      refine g_if_ne C tb_X11_wouldFit_0_ok (i := 26) 58 rfl rfl (fun c => ?_) (fun c => ?_)
      · have h := f20 c
        refine g_iload C tb_X11_wouldFit_0_ok (i := 29) rfl rfl ?_
        refine g_iload_n C tb_X11_wouldFit_0_ok (i := 30) rfl rfl ?_
        obtain ⟨j22, ej22, h⟩ := jn_e h
        have J71 : ∀ (M21 : Mem), j22 M21 = some out → GG g x 5 Q 0 0 y M21 71 [some (.ref a0), none, none, some (.int r11), some (.int v12)] [] := by
          intro M21 h; subst ej22
          obtain ⟨v23, ev23⟩ : ∃ w : Int32, w = v12 + (1 : Int32) := ⟨_, rfl⟩
          have h := lt_e ev23 h
          refine g_iincv C tb_X11_wouldFit_0_ok (i := 35) (1 : Int32) ev23 rfl rfl k_iconstv_1 rfl rfl ?_
          refine g_goto C tb_X11_wouldFit_0_ok (i := 36) 34 rfl rfl ?_
          exact g_less (L' := [some (.ref a0), none, none, some (.int r11), some (.int v23)]) ⟨rfl, ⟨rfl, ⟨rfl, trivial⟩⟩⟩ (ih15 v23 M21 h)
        obtain ⟨t24, f25⟩ := br_e h
        refine g_icmp_ge C tb_X11_wouldFit_0_ok (i := 31) 71 rfl rfl (fun c => ?_) (fun c => ?_)
        · have h := t24 c
          exact g_less (L' := [some (.ref a0), none, none, some (.int r11), some (.int v12)]) ⟨rfl, ⟨rfl, ⟨rfl, trivial⟩⟩⟩ (J71 M13 h)
        · have h := f25 c
          refine g_aload_n C tb_X11_wouldFit_0_ok (i := 32) rfl rfl ?_
          refine g_getR C tb_X11_wouldFit_0_ok (i := 33) rfl fl_X11_47 rfl k1 n2 ?_
          obtain ⟨r26, M27, er26, h⟩ := c0_e h
          refine g_callV0 C tb_X11_wouldFit_0_ok (i := 34) [] rfl mw_X8_passDay mv_X8_passDay ml_X11_221 k6 rfl rfl rfl rfl (w_X8_passDay C.G y (y.2.1 a0 5) M13) er26 rfl rfl rfl ?_
          exact g_less (L' := [some (.ref a0), none, none, some (.int r11), some (.int v12)]) ⟨rfl, ⟨rfl, ⟨rfl, trivial⟩⟩⟩ (J71 M27 h)
      · have h := t19 c
        refine g_iconstv C tb_X11_wouldFit_0_ok (i := 27) 0 rfl k_iconstv_0 ?_
        cases h
        exact g_zret0 C R (by decide) tb_X11_wouldFit_0_ok (i := 28) rfl
def f_X11_skilled (y : Lay) (a0 : Nat) (a1 : Int32) (M : Mem) : Option (Nat × Int32 × Mem) := gK y a0 (0, 11) (cx (f_X11_needWhat y a0 a1 (2 : Int32) M) fun (r2 : Int32) (M3 : Mem) => br (a1 = (2 : Int32)) (c0 (f_X11_wouldFit y a0 ((-1) : Int32) (0 : Int32) M3) fun (r52 : Int32) (M53 : Mem) => jn (fun (v54 : Int32) => some (0, v54, M53)) fun j55 => br (r52 = 0) (j55 (0 : Int32)) (j55 (1 : Int32))) (lt ((-1) : Int32) fun (v6 : Int32) => fixN (fun _ _ _ _ => none) (fun (s11 : Int32 → Int32 → Int32 → Mem → Option (Nat × Int32 × Mem)) (v7 : Int32) (v8 : Int32) (v9 : Int32) (M10 : Mem) => gN (y.2.1 a0 1) (gK y (y.2.1 a0 1) (0, 1) (br ((M10.1 (y.2.1 a0 1) 4) ≤ v9) (jn (fun (v17 : Int32) => some (0, v17, M10)) fun j18 => br (a1 = 0) (j18 v7) (j18 v8)) (fixN (fun _ _ _ _ => none) (fun (s25 : Int32 → Int32 → Int32 → Mem → Option (Nat × Int32 × Mem)) (v21 : Int32) (v22 : Int32) (v23 : Int32) (M24 : Mem) => br ((9 : Int32) < v23) (lt (v9 + (1 : Int32)) fun (v29 : Int32) => s11 v21 v22 v29 M24) (gN (y.2.1 a0 3) (gK y (y.2.1 a0 3) (0, 4) (gN (y.2.1 (y.2.1 a0 3) 0) (gK y (y.2.1 (y.2.1 a0 3) 0) (0, 8) (cp (f_X8_skillOf y (y.2.1 (y.2.1 a0 3) 0) v9 M24) fun (r34 : Int32) => jn (fun (v35 : Int32) (v36 : Int32) (M37 : Mem) => lt (v23 + (1 : Int32)) fun (v39 : Int32) => s25 v35 v36 v39 M37) fun j38 => br (v23 = r34) (j38 v21 v22 M24) (c0 (f_X11_wouldFit y a0 v9 v23 M24) fun (r42 : Int32) (M43 : Mem) => br (r42 = 0) (j38 v21 v22 M43) (jn (fun (v46 : Int32) => lt (v21 + (1 : Int32)) fun (v48 : Int32) => j38 v48 v46 M43) fun j47 => br (v21 = 0) (lt (((10 : Int32) * v9) + v23) fun (v51 : Int32) => j47 v51) (j47 v22))))))))) FUEL v7 v8 (0 : Int32) M10)))) FUEL (0 : Int32) v6 (0 : Int32) M3))
theorem w_X11_skilled {g : GX} {l : Launch} (hG : GF g l) (y : Lay) (a0 : Nat) (a1 : Int32) (M : Mem) : C1 g l yX11_skilled cX11_skilled 6 (some .int) 6 1 6 y [.ref a0, .int a1] M (f_X11_skilled y a0 a1 M) := by
  refine C1_of hG (by decide) [some (.ref a0), some (.int a1), none, none, none, none] rfl rfl (fun out h x Q C R => ?_)
  unfold f_X11_skilled at h
  refine g_aload_n C tb_X11_skilled_0_ok (i := 0) rfl rfl ?_
  refine g_iload_n C tb_X11_skilled_0_ok (i := 1) rfl rfl ?_
  refine g_iconstv C tb_X11_skilled_0_ok (i := 2) 2 rfl k_iconstv_2 ?_
  obtain ⟨k1, h⟩ := gK_e h
  refine g_callV1 C tb_X11_skilled_0_ok (i := 3) R [.int a1, .int (2 : Int32)] rfl mw_X11_needWhat mv_X11_needWhat ml_X11_255 k1 rfl rfl rfl rfl (w_X11_needWhat C.G y a0 a1 (2 : Int32) M) h rfl rfl rfl (fun r2 M3 h => ?_)
  refine g_iload_n C tb_X11_skilled_0_ok (i := 4) rfl rfl ?_
  refine g_iconstv C tb_X11_skilled_0_ok (i := 5) 2 rfl k_iconstv_2 ?_
  obtain ⟨t4, f5⟩ := br_e h
  refine g_icmp_ne C tb_X11_skilled_0_ok (i := 6) 26 rfl rfl (fun c => ?_) (fun c => ?_)
  · have h := f5 c
    refine g_iconstv C tb_X11_skilled_0_ok (i := 16) 0 rfl k_iconstv_0 ?_
    refine g_istore_n C tb_X11_skilled_0_ok (i := 17) rfl rfl rfl ?_
    refine g_iconstv C tb_X11_skilled_0_ok (i := 18) (-1) rfl k_iconstv_m1 ?_
    refine g_topi (fun v6 ev6 => ?_)
    have h := lt_e ev6 h
    refine g_istore_n C tb_X11_skilled_0_ok (i := 19) rfl rfl rfl ?_
    refine g_iconstv C tb_X11_skilled_0_ok (i := 20) 0 rfl k_iconstv_0 ?_
    refine g_istore C tb_X11_skilled_0_ok (i := 21) rfl rfl rfl ?_
    refine g_less (L' := [some (.ref a0), some (.int a1), some (.int (0 : Int32)), some (.int v6), some (.int (0 : Int32)), none]) ⟨rfl, ⟨rfl, ⟨rfl, ⟨rfl, ⟨rfl, trivial⟩⟩⟩⟩⟩ ?_
    refine fix_i (P := fun (f : Int32 → Int32 → Int32 → Mem → Option (Nat × Int32 × Mem)) => ∀ (v7 : Int32) (v8 : Int32) (v9 : Int32) (M10 : Mem), f v7 v8 v9 M10 = some out → GG g x 6 Q 1 6 y M10 33 [some (.ref a0), some (.int a1), some (.int v7), some (.int v8), some (.int v9), none] []) ?_ ?_ _ (0 : Int32) v6 (0 : Int32) M3 h
    · intro v7 v8 v9 M10 h; exact (nn_e h).elim
    · intro s11 ih12 v7 v8 v9 M10 h
      refine g_iload C tb_X11_skilled_0_ok (i := 22) rfl rfl ?_
      refine g_aload_n C tb_X11_skilled_0_ok (i := 23) rfl rfl ?_
      obtain ⟨n13, h⟩ := gN_e h
      refine g_getR C tb_X11_skilled_0_ok (i := 24) rfl fl_X11_19 rfl k1 n13 ?_
      obtain ⟨k14, h⟩ := gK_e h
      refine g_getI C tb_X11_skilled_0_ok (i := 25) rfl fl_X11_134 rfl k14 ?_
      obtain ⟨t15, f16⟩ := br_e h
      refine g_icmp_ge C tb_X11_skilled_0_ok (i := 26) 111 rfl rfl (fun c => ?_) (fun c => ?_)
      · have h := t15 c
        refine g_iload_n C tb_X11_skilled_1_ok (i := 17) rfl rfl ?_
        obtain ⟨j18, ej18, h⟩ := jn_e h
        have J120 : ∀ (v17 : Int32), j18 v17 = some out → GG g x 6 Q 1 6 y M10 120 [none, none, none, none, none, none] [.int v17] := by
          intro v17 h; subst ej18
          cases h
          exact g_iret1 C R rfl rfl tb_X11_skilled_1_ok (i := 22) rfl
        obtain ⟨t19, f20⟩ := br_e h
        refine g_if_ne C tb_X11_skilled_1_ok (i := 18) 119 rfl rfl (fun c => ?_) (fun c => ?_)
        · have h := f20 c
          refine g_iload_n C tb_X11_skilled_1_ok (i := 21) rfl rfl ?_
          exact g_less (L' := [none, none, none, none, none, none]) trivial (J120 v8 h)
        · have h := t19 c
          refine g_iload_n C tb_X11_skilled_1_ok (i := 19) rfl rfl ?_
          refine g_goto C tb_X11_skilled_1_ok (i := 20) 120 rfl rfl ?_
          exact g_less (L' := [none, none, none, none, none, none]) trivial (J120 v7 h)
      · have h := f16 c
        refine g_iconstv C tb_X11_skilled_0_ok (i := 27) 0 rfl k_iconstv_0 ?_
        refine g_istore C tb_X11_skilled_0_ok (i := 28) rfl rfl rfl ?_
        refine g_less (L' := [some (.ref a0), some (.int a1), some (.int v7), some (.int v8), some (.int v9), some (.int (0 : Int32))]) ⟨rfl, ⟨rfl, ⟨rfl, ⟨rfl, ⟨rfl, ⟨rfl, trivial⟩⟩⟩⟩⟩⟩ ?_
        refine fix_i (P := fun (f : Int32 → Int32 → Int32 → Mem → Option (Nat × Int32 × Mem)) => ∀ (v21 : Int32) (v22 : Int32) (v23 : Int32) (M24 : Mem), f v21 v22 v23 M24 = some out → GG g x 6 Q 1 6 y M24 48 [some (.ref a0), some (.int a1), some (.int v21), some (.int v22), some (.int v9), some (.int v23)] []) ?_ ?_ _ v7 v8 (0 : Int32) M10 h
        · intro v21 v22 v23 M24 h; exact (nn_e h).elim
        · intro s25 ih26 v21 v22 v23 M24 h
          refine g_iload C tb_X11_skilled_0_ok (i := 29) rfl rfl ?_
          refine g_bipushv C tb_X11_skilled_0_ok (i := 30) 9 rfl k_bipushv_9 ?_
          obtain ⟨t27, f28⟩ := br_e h
          refine g_icmp_gt C tb_X11_skilled_0_ok (i := 31) 105 rfl rfl (fun c => ?_) (fun c => ?_)
          · have h := t27 c
            obtain ⟨v29, ev29⟩ : ∃ w : Int32, w = v9 + (1 : Int32) := ⟨_, rfl⟩
            have h := lt_e ev29 h
            refine g_iincv C tb_X11_skilled_1_ok (i := 15) (1 : Int32) ev29 rfl rfl k_iconstv_1 rfl rfl ?_
            refine g_goto C tb_X11_skilled_1_ok (i := 16) 33 rfl rfl ?_
            exact g_less (L' := [some (.ref a0), some (.int a1), some (.int v21), some (.int v22), some (.int v29), none]) ⟨rfl, ⟨rfl, ⟨rfl, ⟨rfl, ⟨rfl, trivial⟩⟩⟩⟩⟩ (ih12 v21 v22 v29 M24 h)
          · have h := f28 c
            refine g_iload C tb_X11_skilled_0_ok (i := 32) rfl rfl ?_
            refine g_aload_n C tb_X11_skilled_0_ok (i := 33) rfl rfl ?_
            obtain ⟨n30, h⟩ := gN_e h
            refine g_getR C tb_X11_skilled_0_ok (i := 34) rfl fl_X11_37 rfl k1 n30 ?_
            obtain ⟨k31, h⟩ := gK_e h
            obtain ⟨n32, h⟩ := gN_e h
            refine g_getR C tb_X11_skilled_0_ok (i := 35) rfl fl_X11_53 rfl k31 n32 ?_
            refine g_iload C tb_X11_skilled_0_ok (i := 36) rfl rfl ?_
            obtain ⟨k33, h⟩ := gK_e h
            obtain ⟨r34, er34, h⟩ := cp_e h
            refine g_callV0 C tb_X11_skilled_0_ok (i := 37) [.int v9] rfl mw_X8_skillOf mv_X8_skillOf ml_X11_198 k33 rfl rfl rfl rfl (w_X8_skillOf C.G y (y.2.1 (y.2.1 a0 3) 0) v9 M24) (pm_s er34) rfl rfl rfl ?_
            obtain ⟨j38, ej38, h⟩ := jn_e h
            have J99 : ∀ (v35 : Int32) (v36 : Int32) (M37 : Mem), j38 v35 v36 M37 = some out → GG g x 6 Q 1 6 y M37 99 [some (.ref a0), some (.int a1), some (.int v35), some (.int v36), some (.int v9), some (.int v23)] [] := by
              intro v35 v36 M37 h; subst ej38
              obtain ⟨v39, ev39⟩ : ∃ w : Int32, w = v23 + (1 : Int32) := ⟨_, rfl⟩
              have h := lt_e ev39 h
              refine g_iincv C tb_X11_skilled_1_ok (i := 13) (1 : Int32) ev39 rfl rfl k_iconstv_1 rfl rfl ?_
              refine g_goto C tb_X11_skilled_1_ok (i := 14) 48 rfl rfl ?_
              exact g_less (L' := [some (.ref a0), some (.int a1), some (.int v35), some (.int v36), some (.int v9), some (.int v39)]) ⟨rfl, ⟨rfl, ⟨rfl, ⟨rfl, ⟨rfl, ⟨rfl, trivial⟩⟩⟩⟩⟩⟩ (ih26 v35 v36 v39 M37 h)
            obtain ⟨t40, f41⟩ := br_e h
            refine g_icmp_eq C tb_X11_skilled_0_ok (i := 38) 99 rfl rfl (fun c => ?_) (fun c => ?_)
            · have h := t40 c
              exact g_less (L' := [some (.ref a0), some (.int a1), some (.int v21), some (.int v22), some (.int v9), some (.int v23)]) ⟨rfl, ⟨rfl, ⟨rfl, ⟨rfl, ⟨rfl, ⟨rfl, trivial⟩⟩⟩⟩⟩⟩ (J99 v21 v22 M24 h)
            · have h := f41 c
              refine g_aload_n C tb_X11_skilled_0_ok (i := 39) rfl rfl ?_
              refine g_iload C tb_X11_skilled_1_ok (i := 0) rfl rfl ?_
              refine g_iload C tb_X11_skilled_1_ok (i := 1) rfl rfl ?_
              obtain ⟨r42, M43, er42, h⟩ := c0_e h
              refine g_callV0 C tb_X11_skilled_1_ok (i := 2) [.int v9, .int v23] rfl mw_X11_wouldFit mv_X11_wouldFit ml_X11_314 k1 rfl rfl rfl rfl (w_X11_wouldFit C.G y a0 v9 v23 M24) er42 rfl rfl rfl ?_
              obtain ⟨t44, f45⟩ := br_e h
              refine g_if_eq C tb_X11_skilled_1_ok (i := 3) 99 rfl rfl (fun c => ?_) (fun c => ?_)
              · have h := t44 c
                exact g_less (L' := [some (.ref a0), some (.int a1), some (.int v21), some (.int v22), some (.int v9), some (.int v23)]) ⟨rfl, ⟨rfl, ⟨rfl, ⟨rfl, ⟨rfl, ⟨rfl, trivial⟩⟩⟩⟩⟩⟩ (J99 v21 v22 M43 h)
              · have h := f45 c
                refine g_iload_n C tb_X11_skilled_1_ok (i := 4) rfl rfl ?_
                obtain ⟨j47, ej47, h⟩ := jn_e h
                have J96 : ∀ (v46 : Int32), j47 v46 = some out → GG g x 6 Q 1 6 y M43 96 [some (.ref a0), some (.int a1), some (.int v21), some (.int v46), some (.int v9), some (.int v23)] [] := by
                  intro v46 h; subst ej47
                  obtain ⟨v48, ev48⟩ : ∃ w : Int32, w = v21 + (1 : Int32) := ⟨_, rfl⟩
                  have h := lt_e ev48 h
                  refine g_iincv C tb_X11_skilled_1_ok (i := 12) (1 : Int32) ev48 rfl rfl k_iconstv_1 rfl rfl ?_
                  exact g_less (L' := [some (.ref a0), some (.int a1), some (.int v48), some (.int v46), some (.int v9), some (.int v23)]) ⟨rfl, ⟨rfl, ⟨rfl, ⟨rfl, ⟨rfl, ⟨rfl, trivial⟩⟩⟩⟩⟩⟩ (J99 v48 v46 M43 h)
                obtain ⟨t49, f50⟩ := br_e h
                refine g_if_ne C tb_X11_skilled_1_ok (i := 5) 96 rfl rfl (fun c => ?_) (fun c => ?_)
                · have h := f50 c
                  exact g_less (L' := [some (.ref a0), some (.int a1), some (.int v21), some (.int v22), some (.int v9), some (.int v23)]) ⟨rfl, ⟨rfl, ⟨rfl, ⟨rfl, ⟨rfl, ⟨rfl, trivial⟩⟩⟩⟩⟩⟩ (J96 v22 h)
                · have h := t49 c
                  refine g_bipushv C tb_X11_skilled_1_ok (i := 6) 10 rfl k_bipushv_10 ?_
                  refine g_iload C tb_X11_skilled_1_ok (i := 7) rfl rfl ?_
                  refine g_imul C tb_X11_skilled_1_ok (i := 8) rfl ?_
                  refine g_iload C tb_X11_skilled_1_ok (i := 9) rfl rfl ?_
                  refine g_iadd C tb_X11_skilled_1_ok (i := 10) rfl ?_
                  refine g_topi (fun v51 ev51 => ?_)
                  have h := lt_e ev51 h
                  refine g_istore_n C tb_X11_skilled_1_ok (i := 11) rfl rfl rfl ?_
                  exact g_less (L' := [some (.ref a0), some (.int a1), some (.int v21), some (.int v51), some (.int v9), some (.int v23)]) ⟨rfl, ⟨rfl, ⟨rfl, ⟨rfl, ⟨rfl, ⟨rfl, trivial⟩⟩⟩⟩⟩⟩ (J96 v51 h)
  · have h := t4 c
    refine g_aload_n C tb_X11_skilled_0_ok (i := 7) rfl rfl ?_
    refine g_iconstv C tb_X11_skilled_0_ok (i := 8) (-1) rfl k_iconstv_m1 ?_
    refine g_iconstv C tb_X11_skilled_0_ok (i := 9) 0 rfl k_iconstv_0 ?_
    obtain ⟨r52, M53, er52, h⟩ := c0_e h
    refine g_callV0 C tb_X11_skilled_0_ok (i := 10) [.int ((-1) : Int32), .int (0 : Int32)] rfl mw_X11_wouldFit mv_X11_wouldFit ml_X11_314 k1 rfl rfl rfl rfl (w_X11_wouldFit C.G y a0 ((-1) : Int32) (0 : Int32) M3) er52 rfl rfl rfl ?_
    obtain ⟨j55, ej55, h⟩ := jn_e h
    have J25 : ∀ (v54 : Int32), j55 v54 = some out → GG g x 6 Q 1 6 y M53 25 [none, none, none, none, none, none] [.int v54] := by
      intro v54 h; subst ej55
      cases h
      exact g_iret1 C R rfl rfl tb_X11_skilled_0_ok (i := 15) rfl
    obtain ⟨t56, f57⟩ := br_e h
    refine g_if_eq C tb_X11_skilled_0_ok (i := 11) 24 rfl rfl (fun c => ?_) (fun c => ?_)
    · have h := t56 c
      refine g_iconstv C tb_X11_skilled_0_ok (i := 14) 0 rfl k_iconstv_0 ?_
      exact g_less (L' := [none, none, none, none, none, none]) trivial (J25 (0 : Int32) h)
    · have h := f57 c
      refine g_iconstv C tb_X11_skilled_0_ok (i := 12) 1 rfl k_iconstv_1 ?_
      refine g_goto C tb_X11_skilled_0_ok (i := 13) 25 rfl rfl ?_
      exact g_less (L' := [none, none, none, none, none, none]) trivial (J25 (1 : Int32) h)
def f_X11_clearBlues (y : Lay) (a0 : Nat) (M : Mem) : Option (Int32 × Mem) := fixN (fun _ _ => none) (fun (s3 : Int32 → Mem → Option (Int32 × Mem)) (v1 : Int32) (M2 : Mem) => br ((30 : Int32) ≤ v1) (some (0, M2)) (gK y a0 (0, 11) (gN (y.2.1 a0 8) (gA y (y.2.1 a0 8) 3 v1 (lt (wL M2 (y.2.1 a0 8) v1.toNatClampNeg (0 : Int64)) fun (M10 : Mem) => gN (y.2.1 a0 9) (gA y (y.2.1 a0 9) 3 v1 (lt (wL M10 (y.2.1 a0 9) v1.toNatClampNeg (0 : Int64)) fun (M13 : Mem) => lt (v1 + (1 : Int32)) fun (v14 : Int32) => s3 v14 M13))))))) FUEL (0 : Int32) M
theorem w_X11_clearBlues {g : GX} {l : Launch} (hG : GF g l) (y : Lay) (a0 : Nat) (M : Mem) : C0 g l yX11_clearBlues cX11_clearBlues 2 none 0 y [.ref a0] M (f_X11_clearBlues y a0 M) := by
  refine C0_of hG (by decide) [some (.ref a0), none] rfl rfl (fun out h x Q C R => ?_)
  unfold f_X11_clearBlues at h
  refine g_iconstv C tb_X11_clearBlues_0_ok (i := 0) 0 rfl k_iconstv_0 ?_
  refine g_istore_n C tb_X11_clearBlues_0_ok (i := 1) rfl rfl rfl ?_
  refine g_less (L' := [some (.ref a0), some (.int (0 : Int32))]) ⟨rfl, ⟨rfl, trivial⟩⟩ ?_
  refine fix_i (P := fun (f : Int32 → Mem → Option (Int32 × Mem)) => ∀ (v1 : Int32) (M2 : Mem), f v1 M2 = some out → GG g x 2 Q 0 0 y M2 2 [some (.ref a0), some (.int v1)] []) ?_ ?_ _ (0 : Int32) M h
  · intro v1 M2 h; exact (nn_e h).elim
  · intro s3 ih4 v1 M2 h
    refine g_iload_n C tb_X11_clearBlues_0_ok (i := 2) rfl rfl ?_
    refine g_bipushv C tb_X11_clearBlues_0_ok (i := 3) 30 rfl k_bipushv_30 ?_
    obtain ⟨t5, f6⟩ := br_e h
    refine g_icmp_ge C tb_X11_clearBlues_0_ok (i := 4) 28 rfl rfl (fun c => ?_) (fun c => ?_)
    · have h := t5 c
      cases h
      exact g_vret0 C R tb_X11_clearBlues_0_ok (i := 17) rfl
    · have h := f6 c
      refine g_aload_n C tb_X11_clearBlues_0_ok (i := 5) rfl rfl ?_
      obtain ⟨k7, h⟩ := gK_e h
      obtain ⟨n8, h⟩ := gN_e h
      refine g_getR C tb_X11_clearBlues_0_ok (i := 6) rfl fl_X11_70 rfl k7 n8 ?_
      refine g_iload_n C tb_X11_clearBlues_0_ok (i := 7) rfl rfl ?_
      refine g_lconst C tb_X11_clearBlues_0_ok (i := 8) 0 rfl rfl ?_
      obtain ⟨b9, h⟩ := gA_e h
      refine g_last C tb_X11_clearBlues_0_ok (i := 9) rfl b9 ?_
      refine g_mem (fun M10 eM10 => ?_)
      have h := lt_e eM10 h
      refine g_aload_n C tb_X11_clearBlues_0_ok (i := 10) rfl rfl ?_
      obtain ⟨n11, h⟩ := gN_e h
      refine g_getR C tb_X11_clearBlues_0_ok (i := 11) rfl fl_X11_74 rfl k7 n11 ?_
      refine g_iload_n C tb_X11_clearBlues_0_ok (i := 12) rfl rfl ?_
      refine g_lconst C tb_X11_clearBlues_0_ok (i := 13) 0 rfl rfl ?_
      obtain ⟨b12, h⟩ := gA_e h
      refine g_last C tb_X11_clearBlues_0_ok (i := 14) rfl b12 ?_
      refine g_mem (fun M13 eM13 => ?_)
      have h := lt_e eM13 h
      obtain ⟨v14, ev14⟩ : ∃ w : Int32, w = v1 + (1 : Int32) := ⟨_, rfl⟩
      have h := lt_e ev14 h
      refine g_iincv C tb_X11_clearBlues_0_ok (i := 15) (1 : Int32) ev14 rfl rfl k_iconstv_1 rfl rfl ?_
      refine g_goto C tb_X11_clearBlues_0_ok (i := 16) 2 rfl rfl ?_
      exact g_less (L' := [some (.ref a0), some (.int v14)]) ⟨rfl, ⟨rfl, trivial⟩⟩ (ih4 v14 M13 h)
def f_X11_gatherBlues (y : Lay) (a0 : Nat) (a1 : Int32) (a2 : Int32) (M : Mem) : Option (Int32 × Mem) := gK y a0 (0, 11) (gN (y.2.1 a0 5) (gN (y.2.1 a0 3) (gK y (y.2.1 a0 3) (0, 4) (gN (y.2.1 (y.2.1 a0 3) 0) (gK y (y.2.1 a0 5) (0, 8) (c0 (f_X8_copyFrom y (y.2.1 a0 5) (y.2.1 (y.2.1 a0 3) 0) M) fun (r7 : Int32) (M8 : Mem) => c0 (f_X8_setSkill y (y.2.1 a0 5) a1 a2 M8) fun (r9 : Int32) (M10 : Mem) => fixN (fun _ _ => none) (fun (s13 : Int32 → Mem → Option (Int32 × Mem)) (v11 : Int32) (M12 : Mem) => br ((5 : Int32) ≤ v11) (fixN (fun _ _ => none) (fun (s19 : Int32 → Mem → Option (Int32 × Mem)) (v17 : Int32) (M18 : Mem) => br ((30 : Int32) ≤ v17) (some (0, M18)) (cp (f_X8_blueOf y (y.2.1 a0 5) v17 M18) fun (r23 : Int32) => jn (fun (M24 : Mem) => lt (v17 + (1 : Int32)) fun (v26 : Int32) => s19 v26 M24) fun j25 => br ((64 : Int32) ≤ r23) (gN (y.2.1 a0 9) (gA y (y.2.1 a0 9) 3 v17 (gA y (y.2.1 a0 9) 3 v17 (lt (wL M18 (y.2.1 a0 9) v17.toNatClampNeg ((M18.2.1 (y.2.1 a0 9) v17.toNatClampNeg) ||| ((1 : Int64) <<< ((r23 - (64 : Int32)).toInt64 &&& 63)))) fun (M32 : Mem) => j25 M32)))) (gN (y.2.1 a0 8) (gA y (y.2.1 a0 8) 3 v17 (gA y (y.2.1 a0 8) 3 v17 (lt (wL M18 (y.2.1 a0 8) v17.toNatClampNeg ((M18.2.1 (y.2.1 a0 8) v17.toNatClampNeg) ||| ((1 : Int64) <<< (r23.toInt64 &&& 63)))) fun (M36 : Mem) => j25 M36)))))) FUEL (0 : Int32) M12) (c0 (f_X8_passDay y (y.2.1 a0 5) M12) fun (r37 : Int32) (M38 : Mem) => lt (v11 + (1 : Int32)) fun (v39 : Int32) => s13 v39 M38)) FUEL (0 : Int32) M10))))))
theorem w_X11_gatherBlues {g : GX} {l : Launch} (hG : GF g l) (y : Lay) (a0 : Nat) (a1 : Int32) (a2 : Int32) (M : Mem) : C0 g l yX11_gatherBlues cX11_gatherBlues 5 none 5 y [.ref a0, .int a1, .int a2] M (f_X11_gatherBlues y a0 a1 a2 M) := by
  refine C0_of hG (by decide) [some (.ref a0), some (.int a1), some (.int a2), none, none] rfl rfl (fun out h x Q C R => ?_)
  unfold f_X11_gatherBlues at h
  refine g_aload_n C tb_X11_gatherBlues_0_ok (i := 0) rfl rfl ?_
  obtain ⟨k1, h⟩ := gK_e h
  obtain ⟨n2, h⟩ := gN_e h
  refine g_getR C tb_X11_gatherBlues_0_ok (i := 1) rfl fl_X11_47 rfl k1 n2 ?_
  refine g_aload_n C tb_X11_gatherBlues_0_ok (i := 2) rfl rfl ?_
  obtain ⟨n3, h⟩ := gN_e h
  refine g_getR C tb_X11_gatherBlues_0_ok (i := 3) rfl fl_X11_37 rfl k1 n3 ?_
  obtain ⟨k4, h⟩ := gK_e h
  obtain ⟨n5, h⟩ := gN_e h
  refine g_getR C tb_X11_gatherBlues_0_ok (i := 4) rfl fl_X11_53 rfl k4 n5 ?_
  obtain ⟨k6, h⟩ := gK_e h
  obtain ⟨r7, M8, er7, h⟩ := c0_e h
  refine g_callV0 C tb_X11_gatherBlues_0_ok (i := 5) [.ref (y.2.1 (y.2.1 a0 3) 0)] rfl mw_X8_copyFrom mv_X8_copyFrom ml_X11_343 k6 rfl rfl rfl rfl (w_X8_copyFrom C.G y (y.2.1 a0 5) (y.2.1 (y.2.1 a0 3) 0) M) er7 rfl rfl rfl ?_
  refine g_aload_n C tb_X11_gatherBlues_0_ok (i := 6) rfl rfl ?_
  refine g_getR C tb_X11_gatherBlues_0_ok (i := 7) rfl fl_X11_47 rfl k1 n2 ?_
  refine g_iload_n C tb_X11_gatherBlues_0_ok (i := 8) rfl rfl ?_
  refine g_iload_n C tb_X11_gatherBlues_0_ok (i := 9) rfl rfl ?_
  obtain ⟨r9, M10, er9, h⟩ := c0_e h
  refine g_callV0 C tb_X11_gatherBlues_0_ok (i := 10) [.int a1, .int a2] rfl mw_X8_setSkill mv_X8_setSkill ml_X11_345 k6 rfl rfl rfl rfl (w_X8_setSkill C.G y (y.2.1 a0 5) a1 a2 M8) er9 rfl rfl rfl ?_
  refine g_iconstv C tb_X11_gatherBlues_0_ok (i := 11) 0 rfl k_iconstv_0 ?_
  refine g_istore_n C tb_X11_gatherBlues_0_ok (i := 12) rfl rfl rfl ?_
  refine g_less (L' := [some (.ref a0), none, none, some (.int (0 : Int32)), none]) ⟨rfl, ⟨rfl, trivial⟩⟩ ?_
  refine fix_i (P := fun (f : Int32 → Mem → Option (Int32 × Mem)) => ∀ (v11 : Int32) (M12 : Mem), f v11 M12 = some out → GG g x 5 Q 0 0 y M12 25 [some (.ref a0), none, none, some (.int v11), none] []) ?_ ?_ _ (0 : Int32) M10 h
  · intro v11 M12 h; exact (nn_e h).elim
  · intro s13 ih14 v11 M12 h
    refine g_iload_n C tb_X11_gatherBlues_0_ok (i := 13) rfl rfl ?_
    refine g_iconstv C tb_X11_gatherBlues_0_ok (i := 14) 5 rfl k_iconstv_5 ?_
    obtain ⟨t15, f16⟩ := br_e h
    refine g_icmp_ge C tb_X11_gatherBlues_0_ok (i := 15) 43 rfl rfl (fun c => ?_) (fun c => ?_)
    · have h := t15 c
      refine g_iconstv C tb_X11_gatherBlues_0_ok (i := 21) 0 rfl k_iconstv_0 ?_
      refine g_istore_n C tb_X11_gatherBlues_0_ok (i := 22) rfl rfl rfl ?_
      refine g_less (L' := [some (.ref a0), none, none, some (.int (0 : Int32)), none]) ⟨rfl, ⟨rfl, trivial⟩⟩ ?_
      refine fix_i (P := fun (f : Int32 → Mem → Option (Int32 × Mem)) => ∀ (v17 : Int32) (M18 : Mem), f v17 M18 = some out → GG g x 5 Q 0 0 y M18 45 [some (.ref a0), none, none, some (.int v17), none] []) ?_ ?_ _ (0 : Int32) M12 h
      · intro v17 M18 h; exact (nn_e h).elim
      · intro s19 ih20 v17 M18 h
        refine g_iload_n C tb_X11_gatherBlues_0_ok (i := 23) rfl rfl ?_
        refine g_bipushv C tb_X11_gatherBlues_0_ok (i := 24) 30 rfl k_bipushv_30 ?_
        obtain ⟨t21, f22⟩ := br_e h
        refine g_icmp_ge C tb_X11_gatherBlues_0_ok (i := 25) 106 rfl rfl (fun c => ?_) (fun c => ?_)
        · have h := t21 c
          cases h
          exact g_vret0 C R tb_X11_gatherBlues_1_ok (i := 19) rfl
        · have h := f22 c
          refine g_aload_n C tb_X11_gatherBlues_0_ok (i := 26) rfl rfl ?_
          refine g_getR C tb_X11_gatherBlues_0_ok (i := 27) rfl fl_X11_47 rfl k1 n2 ?_
          refine g_iload_n C tb_X11_gatherBlues_0_ok (i := 28) rfl rfl ?_
          obtain ⟨r23, er23, h⟩ := cp_e h
          refine g_callV0 C tb_X11_gatherBlues_0_ok (i := 29) [.int v17] rfl mw_X8_blueOf mv_X8_blueOf ml_X11_182 k6 rfl rfl rfl rfl (w_X8_blueOf C.G y (y.2.1 a0 5) v17 M18) (pm_s er23) rfl rfl rfl ?_
          refine g_istore C tb_X11_gatherBlues_0_ok (i := 30) rfl rfl rfl ?_
          refine g_iload C tb_X11_gatherBlues_0_ok (i := 31) rfl rfl ?_
          refine g_bipushv C tb_X11_gatherBlues_0_ok (i := 32) 64 rfl k_bipushv_64 ?_
          obtain ⟨j25, ej25, h⟩ := jn_e h
          have J100 : ∀ (M24 : Mem), j25 M24 = some out → GG g x 5 Q 0 0 y M24 100 [some (.ref a0), none, none, some (.int v17), none] [] := by
            intro M24 h; subst ej25
            obtain ⟨v26, ev26⟩ : ∃ w : Int32, w = v17 + (1 : Int32) := ⟨_, rfl⟩
            have h := lt_e ev26 h
            refine g_iincv C tb_X11_gatherBlues_1_ok (i := 17) (1 : Int32) ev26 rfl rfl k_iconstv_1 rfl rfl ?_
            refine g_goto C tb_X11_gatherBlues_1_ok (i := 18) 45 rfl rfl ?_
            exact g_less (L' := [some (.ref a0), none, none, some (.int v26), none]) ⟨rfl, ⟨rfl, trivial⟩⟩ (ih20 v26 M24 h)
          obtain ⟨t27, f28⟩ := br_e h
          refine g_icmp_ge C tb_X11_gatherBlues_0_ok (i := 33) 84 rfl rfl (fun c => ?_) (fun c => ?_)
          · have h := t27 c
            refine g_aload_n C tb_X11_gatherBlues_1_ok (i := 5) rfl rfl ?_
            obtain ⟨n29, h⟩ := gN_e h
            refine g_getR C tb_X11_gatherBlues_1_ok (i := 6) rfl fl_X11_74 rfl k1 n29 ?_
            refine g_iload_n C tb_X11_gatherBlues_1_ok (i := 7) rfl rfl ?_
            refine g_dup2 C tb_X11_gatherBlues_1_ok (i := 8) rfl rfl rfl ?_
            obtain ⟨b30, h⟩ := gA_e h
            refine g_lald C tb_X11_gatherBlues_1_ok (i := 9) rfl b30 ?_
            refine g_lconst C tb_X11_gatherBlues_1_ok (i := 10) 1 rfl rfl ?_
            refine g_iload C tb_X11_gatherBlues_1_ok (i := 11) rfl rfl ?_
            refine g_bipushv C tb_X11_gatherBlues_1_ok (i := 12) 64 rfl k_bipushv_64 ?_
            refine g_isub C tb_X11_gatherBlues_1_ok (i := 13) rfl ?_
            refine g_lshl C tb_X11_gatherBlues_1_ok (i := 14) rfl ?_
            refine g_lor C tb_X11_gatherBlues_1_ok (i := 15) rfl ?_
            obtain ⟨b31, h⟩ := gA_e h
            refine g_last C tb_X11_gatherBlues_1_ok (i := 16) rfl b31 ?_
            refine g_mem (fun M32 eM32 => ?_)
            have h := lt_e eM32 h
            exact g_less (L' := [some (.ref a0), none, none, some (.int v17), none]) ⟨rfl, ⟨rfl, trivial⟩⟩ (J100 M32 h)
          · have h := f28 c
            refine g_aload_n C tb_X11_gatherBlues_0_ok (i := 34) rfl rfl ?_
            obtain ⟨n33, h⟩ := gN_e h
            refine g_getR C tb_X11_gatherBlues_0_ok (i := 35) rfl fl_X11_70 rfl k1 n33 ?_
            refine g_iload_n C tb_X11_gatherBlues_0_ok (i := 36) rfl rfl ?_
            refine g_dup2 C tb_X11_gatherBlues_0_ok (i := 37) rfl rfl rfl ?_
            obtain ⟨b34, h⟩ := gA_e h
            refine g_lald C tb_X11_gatherBlues_0_ok (i := 38) rfl b34 ?_
            refine g_lconst C tb_X11_gatherBlues_0_ok (i := 39) 1 rfl rfl ?_
            refine g_iload C tb_X11_gatherBlues_1_ok (i := 0) rfl rfl ?_
            refine g_lshl C tb_X11_gatherBlues_1_ok (i := 1) rfl ?_
            refine g_lor C tb_X11_gatherBlues_1_ok (i := 2) rfl ?_
            obtain ⟨b35, h⟩ := gA_e h
            refine g_last C tb_X11_gatherBlues_1_ok (i := 3) rfl b35 ?_
            refine g_mem (fun M36 eM36 => ?_)
            have h := lt_e eM36 h
            refine g_goto C tb_X11_gatherBlues_1_ok (i := 4) 100 rfl rfl ?_
            exact g_less (L' := [some (.ref a0), none, none, some (.int v17), none]) ⟨rfl, ⟨rfl, trivial⟩⟩ (J100 M36 h)
    · have h := f16 c
      refine g_aload_n C tb_X11_gatherBlues_0_ok (i := 16) rfl rfl ?_
      refine g_getR C tb_X11_gatherBlues_0_ok (i := 17) rfl fl_X11_47 rfl k1 n2 ?_
      obtain ⟨r37, M38, er37, h⟩ := c0_e h
      refine g_callV0 C tb_X11_gatherBlues_0_ok (i := 18) [] rfl mw_X8_passDay mv_X8_passDay ml_X11_221 k6 rfl rfl rfl rfl (w_X8_passDay C.G y (y.2.1 a0 5) M12) er37 rfl rfl rfl ?_
      obtain ⟨v39, ev39⟩ : ∃ w : Int32, w = v11 + (1 : Int32) := ⟨_, rfl⟩
      have h := lt_e ev39 h
      refine g_iincv C tb_X11_gatherBlues_0_ok (i := 19) (1 : Int32) ev39 rfl rfl k_iconstv_1 rfl rfl ?_
      refine g_goto C tb_X11_gatherBlues_0_ok (i := 20) 25 rfl rfl ?_
      exact g_less (L' := [some (.ref a0), none, none, some (.int v39), none]) ⟨rfl, ⟨rfl, trivial⟩⟩ (ih14 v39 M38 h)
def f_J13_bitCount_95d88 (y : Lay) (a0 : Int64) (M : Mem) : Option Int32 := lt (a0 - (((a0.toUInt64 >>> ((1 : Int32).toInt64.toUInt64 &&& Int64.toUInt64 63)).toInt64) &&& (6148914691236517205 : Int64))) fun (v1 : Int64) => lt ((v1 &&& (3689348814741910323 : Int64)) + (((v1.toUInt64 >>> ((2 : Int32).toInt64.toUInt64 &&& Int64.toUInt64 63)).toInt64) &&& (3689348814741910323 : Int64))) fun (v2 : Int64) => lt ((v2 + ((v2.toUInt64 >>> ((4 : Int32).toInt64.toUInt64 &&& Int64.toUInt64 63)).toInt64)) &&& (1085102592571150095 : Int64)) fun (v3 : Int64) => lt (v3 + ((v3.toUInt64 >>> ((8 : Int32).toInt64.toUInt64 &&& Int64.toUInt64 63)).toInt64)) fun (v4 : Int64) => lt (v4 + ((v4.toUInt64 >>> ((16 : Int32).toInt64.toUInt64 &&& Int64.toUInt64 63)).toInt64)) fun (v5 : Int64) => lt (v5 + ((v5.toUInt64 >>> ((32 : Int32).toInt64.toUInt64 &&& Int64.toUInt64 63)).toInt64)) fun (v6 : Int64) => some ((v6.toInt32) &&& (127 : Int32))
theorem w_J13_bitCount_95d88 {g : GX} {l : Launch} (hG : GF g l) (y : Lay) (a0 : Int64) (M : Mem) : C0 g l yJ13_bitCount_95d88 cJ13_bitCount_95d88 2 (some .int) 0 y [.long a0] M (pm M (f_J13_bitCount_95d88 y a0 M)) := by
  refine CP_of hG (by decide) [some (.long a0), none] rfl rfl (fun out h x Q C R => ?_)
  unfold f_J13_bitCount_95d88 at h
  refine g_lload_n C tb_J13_bitCount_95d88_0_ok (i := 0) rfl rfl ?_
  refine g_lload_n C tb_J13_bitCount_95d88_0_ok (i := 1) rfl rfl ?_
  refine g_iconstv C tb_J13_bitCount_95d88_0_ok (i := 2) 1 rfl k_iconstv_1 ?_
  refine g_lushr C tb_J13_bitCount_95d88_0_ok (i := 3) rfl ?_
  refine g_ldc2 C tb_J13_bitCount_95d88_0_ok (i := 4) rfl cl_J13_314 ?_
  refine g_land C tb_J13_bitCount_95d88_0_ok (i := 5) rfl ?_
  refine g_lsub C tb_J13_bitCount_95d88_0_ok (i := 6) rfl ?_
  refine g_topl (fun v1 ev1 => ?_)
  have h := lt_e ev1 h
  refine g_lstore_n C tb_J13_bitCount_95d88_0_ok (i := 7) rfl rfl rfl ?_
  refine g_lload_n C tb_J13_bitCount_95d88_0_ok (i := 8) rfl rfl ?_
  refine g_ldc2 C tb_J13_bitCount_95d88_0_ok (i := 9) rfl cl_J13_316 ?_
  refine g_land C tb_J13_bitCount_95d88_0_ok (i := 10) rfl ?_
  refine g_lload_n C tb_J13_bitCount_95d88_0_ok (i := 11) rfl rfl ?_
  refine g_iconstv C tb_J13_bitCount_95d88_0_ok (i := 12) 2 rfl k_iconstv_2 ?_
  refine g_lushr C tb_J13_bitCount_95d88_0_ok (i := 13) rfl ?_
  refine g_ldc2 C tb_J13_bitCount_95d88_0_ok (i := 14) rfl cl_J13_316 ?_
  refine g_land C tb_J13_bitCount_95d88_0_ok (i := 15) rfl ?_
  refine g_ladd C tb_J13_bitCount_95d88_0_ok (i := 16) rfl ?_
  refine g_topl (fun v2 ev2 => ?_)
  have h := lt_e ev2 h
  refine g_lstore_n C tb_J13_bitCount_95d88_0_ok (i := 17) rfl rfl rfl ?_
  refine g_lload_n C tb_J13_bitCount_95d88_0_ok (i := 18) rfl rfl ?_
  refine g_lload_n C tb_J13_bitCount_95d88_0_ok (i := 19) rfl rfl ?_
  refine g_iconstv C tb_J13_bitCount_95d88_0_ok (i := 20) 4 rfl k_iconstv_4 ?_
  refine g_lushr C tb_J13_bitCount_95d88_0_ok (i := 21) rfl ?_
  refine g_ladd C tb_J13_bitCount_95d88_0_ok (i := 22) rfl ?_
  refine g_ldc2 C tb_J13_bitCount_95d88_0_ok (i := 23) rfl cl_J13_318 ?_
  refine g_land C tb_J13_bitCount_95d88_0_ok (i := 24) rfl ?_
  refine g_topl (fun v3 ev3 => ?_)
  have h := lt_e ev3 h
  refine g_lstore_n C tb_J13_bitCount_95d88_0_ok (i := 25) rfl rfl rfl ?_
  refine g_lload_n C tb_J13_bitCount_95d88_0_ok (i := 26) rfl rfl ?_
  refine g_lload_n C tb_J13_bitCount_95d88_0_ok (i := 27) rfl rfl ?_
  refine g_bipushv C tb_J13_bitCount_95d88_0_ok (i := 28) 8 rfl k_bipushv_8 ?_
  refine g_lushr C tb_J13_bitCount_95d88_0_ok (i := 29) rfl ?_
  refine g_ladd C tb_J13_bitCount_95d88_0_ok (i := 30) rfl ?_
  refine g_topl (fun v4 ev4 => ?_)
  have h := lt_e ev4 h
  refine g_lstore_n C tb_J13_bitCount_95d88_0_ok (i := 31) rfl rfl rfl ?_
  refine g_lload_n C tb_J13_bitCount_95d88_0_ok (i := 32) rfl rfl ?_
  refine g_lload_n C tb_J13_bitCount_95d88_0_ok (i := 33) rfl rfl ?_
  refine g_bipushv C tb_J13_bitCount_95d88_0_ok (i := 34) 16 rfl k_bipushv_16 ?_
  refine g_lushr C tb_J13_bitCount_95d88_0_ok (i := 35) rfl ?_
  refine g_ladd C tb_J13_bitCount_95d88_0_ok (i := 36) rfl ?_
  refine g_topl (fun v5 ev5 => ?_)
  have h := lt_e ev5 h
  refine g_lstore_n C tb_J13_bitCount_95d88_0_ok (i := 37) rfl rfl rfl ?_
  refine g_lload_n C tb_J13_bitCount_95d88_0_ok (i := 38) rfl rfl ?_
  refine g_lload_n C tb_J13_bitCount_95d88_0_ok (i := 39) rfl rfl ?_
  refine g_bipushv C tb_J13_bitCount_95d88_1_ok (i := 0) 32 rfl k_bipushv_32 ?_
  refine g_lushr C tb_J13_bitCount_95d88_1_ok (i := 1) rfl ?_
  refine g_ladd C tb_J13_bitCount_95d88_1_ok (i := 2) rfl ?_
  refine g_topl (fun v6 ev6 => ?_)
  have h := lt_e ev6 h
  refine g_lstore_n C tb_J13_bitCount_95d88_1_ok (i := 3) rfl rfl rfl ?_
  refine g_lload_n C tb_J13_bitCount_95d88_1_ok (i := 4) rfl rfl ?_
  refine g_l2i C tb_J13_bitCount_95d88_1_ok (i := 5) rfl ?_
  refine g_bipushv C tb_J13_bitCount_95d88_1_ok (i := 6) 127 rfl k_bipushv_127 ?_
  refine g_iand C tb_J13_bitCount_95d88_1_ok (i := 7) rfl ?_
  cases h
  exact g_iret0 C R tb_J13_bitCount_95d88_1_ok (i := 8) rfl
def f_X11_unlikeBlues (y : Lay) (a0 : Nat) (a1 : Int32) (M : Mem) : Option Int32 := jn (fun (_u : Unit) => some (0 : Int32)) fun j1 => br (a1 < 0) (j1 ()) (br (a1 < (30 : Int32)) (gK y a0 (0, 11) (gN (y.2.1 a0 8) (gA y (y.2.1 a0 8) 3 a1 (cp (f_J13_bitCount_95d88 y (M.2.1 (y.2.1 a0 8) a1.toNatClampNeg) M) fun (r9 : Int32) => gN (y.2.1 a0 9) (gA y (y.2.1 a0 9) 3 a1 (cp (f_J13_bitCount_95d88 y (M.2.1 (y.2.1 a0 9) a1.toNatClampNeg) M) fun (r12 : Int32) => some (r9 + r12))))))) (j1 ()))
theorem w_X11_unlikeBlues {g : GX} {l : Launch} (hG : GF g l) (y : Lay) (a0 : Nat) (a1 : Int32) (M : Mem) : C0 g l yX11_unlikeBlues cX11_unlikeBlues 2 (some .int) 1 y [.ref a0, .int a1] M (pm M (f_X11_unlikeBlues y a0 a1 M)) := by
  refine CP_of hG (by decide) [some (.ref a0), some (.int a1)] rfl rfl (fun out h x Q C R => ?_)
  unfold f_X11_unlikeBlues at h
  refine g_iload_n C tb_X11_unlikeBlues_0_ok (i := 0) rfl rfl ?_
  obtain ⟨j1, ej1, h⟩ := jn_e h
  have J10 : ∀ (_u : Unit), j1 _u = some out → GG g x 2 Q 0 0 y M 10 [none, none] [] := by
    intro _u h; subst ej1
    refine g_iconstv C tb_X11_unlikeBlues_0_ok (i := 5) 0 rfl k_iconstv_0 ?_
    cases h
    exact g_iret0 C R tb_X11_unlikeBlues_0_ok (i := 6) rfl
  obtain ⟨t2, f3⟩ := br_e h
  refine g_if_lt C tb_X11_unlikeBlues_0_ok (i := 1) 10 rfl rfl (fun c => ?_) (fun c => ?_)
  · have h := t2 c
    exact g_less (L' := [none, none]) trivial (J10 () h)
  · have h := f3 c
    refine g_iload_n C tb_X11_unlikeBlues_0_ok (i := 2) rfl rfl ?_
    refine g_bipushv C tb_X11_unlikeBlues_0_ok (i := 3) 30 rfl k_bipushv_30 ?_
    obtain ⟨t4, f5⟩ := br_e h
    refine g_icmp_lt C tb_X11_unlikeBlues_0_ok (i := 4) 12 rfl rfl (fun c => ?_) (fun c => ?_)
    · have h := t4 c
      refine g_aload_n C tb_X11_unlikeBlues_0_ok (i := 7) rfl rfl ?_
      obtain ⟨k6, h⟩ := gK_e h
      obtain ⟨n7, h⟩ := gN_e h
      refine g_getR C tb_X11_unlikeBlues_0_ok (i := 8) rfl fl_X11_70 rfl k6 n7 ?_
      refine g_iload_n C tb_X11_unlikeBlues_0_ok (i := 9) rfl rfl ?_
      obtain ⟨b8, h⟩ := gA_e h
      refine g_lald C tb_X11_unlikeBlues_0_ok (i := 10) rfl b8 ?_
      obtain ⟨r9, er9, h⟩ := cp_e h
      refine g_callS0 C tb_X11_unlikeBlues_0_ok (i := 11) [.long (M.2.1 (y.2.1 a0 8) a1.toNatClampNeg)] rfl mw_J13_bitCount_95d88 mst_J13_bitCount_95d88 ml_X11_355 rfl rfl rfl rfl (w_J13_bitCount_95d88 C.G y (M.2.1 (y.2.1 a0 8) a1.toNatClampNeg) M) (pm_s er9) rfl rfl rfl ?_
      refine g_aload_n C tb_X11_unlikeBlues_0_ok (i := 12) rfl rfl ?_
      obtain ⟨n10, h⟩ := gN_e h
      refine g_getR C tb_X11_unlikeBlues_0_ok (i := 13) rfl fl_X11_74 rfl k6 n10 ?_
      refine g_iload_n C tb_X11_unlikeBlues_0_ok (i := 14) rfl rfl ?_
      obtain ⟨b11, h⟩ := gA_e h
      refine g_lald C tb_X11_unlikeBlues_0_ok (i := 15) rfl b11 ?_
      obtain ⟨r12, er12, h⟩ := cp_e h
      refine g_callS0 C tb_X11_unlikeBlues_0_ok (i := 16) [.long (M.2.1 (y.2.1 a0 9) a1.toNatClampNeg)] rfl mw_J13_bitCount_95d88 mst_J13_bitCount_95d88 ml_X11_355 rfl rfl rfl rfl (w_J13_bitCount_95d88 C.G y (M.2.1 (y.2.1 a0 9) a1.toNatClampNeg) M) (pm_s er12) rfl rfl rfl ?_
      refine g_iadd C tb_X11_unlikeBlues_0_ok (i := 17) rfl ?_
      cases h
      exact g_iret0 C R tb_X11_unlikeBlues_0_ok (i := 18) rfl
    · have h := f5 c
      exact g_less (L' := [none, none]) trivial (J10 () h)
def f_X11_look (y : Lay) (a0 : Nat) (a1 : Int32) (M : Mem) : Option (Nat × Int32 × Mem) := gK y a0 (0, 11) (cx (f_X11_needWhat y a0 a1 (1 : Int32) M) fun (r2 : Int32) (M3 : Mem) => c0 (f_X11_clearBlues y a0 M3) fun (r4 : Int32) (M5 : Mem) => fixN (fun _ _ => none) (fun (s8 : Int32 → Mem → Option (Nat × Int32 × Mem)) (v6 : Int32) (M7 : Mem) => gN (y.2.1 a0 1) (gK y (y.2.1 a0 1) (0, 1) (br ((M7.1 (y.2.1 a0 1) 4) ≤ v6) (lt ((-1) : Int32) fun (v14 : Int32) => fixN (fun _ _ _ => none) (fun (s18 : Int32 → Int32 → Int32 → Option (Nat × Int32 × Mem)) (v15 : Int32) (v16 : Int32) (v17 : Int32) => cp (f_X1_cells y (y.2.1 a0 1) M7) fun (r20 : Int32) => br (r20 ≤ v17) (jn (fun (v23 : Int32) => some (0, v23, M7)) fun j24 => br (a1 = 0) (j24 v15) (j24 v16)) (cp (f_X11_unlikeBlues y a0 v17 M7) fun (r27 : Int32) => jn (fun (v28 : Int32) (v29 : Int32) => lt (v17 + (1 : Int32)) fun (v31 : Int32) => s18 v28 v29 v31) fun j30 => br (r27 ≤ v16) (j30 v15 v16) (j30 v17 r27))) FUEL v14 (0 : Int32) (0 : Int32)) (fixN (fun _ _ => none) (fun (s36 : Int32 → Mem → Option (Nat × Int32 × Mem)) (v34 : Int32) (M35 : Mem) => br ((9 : Int32) < v34) (lt (v6 + (1 : Int32)) fun (v40 : Int32) => s8 v40 M35) (gN (y.2.1 a0 3) (gK y (y.2.1 a0 3) (0, 4) (gN (y.2.1 (y.2.1 a0 3) 0) (gK y (y.2.1 (y.2.1 a0 3) 0) (0, 8) (cp (f_X8_skillOf y (y.2.1 (y.2.1 a0 3) 0) v6 M35) fun (r45 : Int32) => jn (fun (M46 : Mem) => lt (v34 + (1 : Int32)) fun (v48 : Int32) => s36 v48 M46) fun j47 => br (v34 = r45) (j47 M35) (c0 (f_X11_wouldFit y a0 v6 v34 M35) fun (r51 : Int32) (M52 : Mem) => br (r51 = 0) (j47 M52) (c0 (f_X11_gatherBlues y a0 v6 v34 M52) fun (r55 : Int32) (M56 : Mem) => j47 M56)))))))) FUEL (0 : Int32) M7)))) FUEL (0 : Int32) M5)
theorem w_X11_look {g : GX} {l : Launch} (hG : GF g l) (y : Lay) (a0 : Nat) (a1 : Int32) (M : Mem) : C1 g l yX11_look cX11_look 6 (some .int) 6 1 6 y [.ref a0, .int a1] M (f_X11_look y a0 a1 M) := by
  refine C1_of hG (by decide) [some (.ref a0), some (.int a1), none, none, none, none] rfl rfl (fun out h x Q C R => ?_)
  unfold f_X11_look at h
  refine g_aload_n C tb_X11_look_0_ok (i := 0) rfl rfl ?_
  refine g_iload_n C tb_X11_look_0_ok (i := 1) rfl rfl ?_
  refine g_iconstv C tb_X11_look_0_ok (i := 2) 1 rfl k_iconstv_1 ?_
  obtain ⟨k1, h⟩ := gK_e h
  refine g_callV1 C tb_X11_look_0_ok (i := 3) R [.int a1, .int (1 : Int32)] rfl mw_X11_needWhat mv_X11_needWhat ml_X11_255 k1 rfl rfl rfl rfl (w_X11_needWhat C.G y a0 a1 (1 : Int32) M) h rfl rfl rfl (fun r2 M3 h => ?_)
  refine g_aload_n C tb_X11_look_0_ok (i := 4) rfl rfl ?_
  obtain ⟨r4, M5, er4, h⟩ := c0_e h
  refine g_callV0 C tb_X11_look_0_ok (i := 5) [] rfl mw_X11_clearBlues mv_X11_clearBlues ml_X11_318 k1 rfl rfl rfl rfl (w_X11_clearBlues C.G y a0 M3) er4 rfl rfl rfl ?_
  refine g_iconstv C tb_X11_look_0_ok (i := 6) 0 rfl k_iconstv_0 ?_
  refine g_istore_n C tb_X11_look_0_ok (i := 7) rfl rfl rfl ?_
  refine g_less (L' := [some (.ref a0), some (.int a1), some (.int (0 : Int32)), none, none, none]) ⟨rfl, ⟨rfl, ⟨rfl, trivial⟩⟩⟩ ?_
  refine fix_i (P := fun (f : Int32 → Mem → Option (Nat × Int32 × Mem)) => ∀ (v6 : Int32) (M7 : Mem), f v6 M7 = some out → GG g x 6 Q 1 6 y M7 12 [some (.ref a0), some (.int a1), some (.int v6), none, none, none] []) ?_ ?_ _ (0 : Int32) M5 h
  · intro v6 M7 h; exact (nn_e h).elim
  · intro s8 ih9 v6 M7 h
    refine g_iload_n C tb_X11_look_0_ok (i := 8) rfl rfl ?_
    refine g_aload_n C tb_X11_look_0_ok (i := 9) rfl rfl ?_
    obtain ⟨n10, h⟩ := gN_e h
    refine g_getR C tb_X11_look_0_ok (i := 10) rfl fl_X11_19 rfl k1 n10 ?_
    obtain ⟨k11, h⟩ := gK_e h
    refine g_getI C tb_X11_look_0_ok (i := 11) rfl fl_X11_134 rfl k11 ?_
    obtain ⟨t12, f13⟩ := br_e h
    refine g_icmp_ge C tb_X11_look_0_ok (i := 12) 73 rfl rfl (fun c => ?_) (fun c => ?_)
    · have h := t12 c
      refine g_iconstv C tb_X11_look_0_ok (i := 38) (-1) rfl k_iconstv_m1 ?_
      refine g_topi (fun v14 ev14 => ?_)
      have h := lt_e ev14 h
      refine g_istore_n C tb_X11_look_0_ok (i := 39) rfl rfl rfl ?_
      refine g_iconstv C tb_X11_look_1_ok (i := 0) 0 rfl k_iconstv_0 ?_
      refine g_istore_n C tb_X11_look_1_ok (i := 1) rfl rfl rfl ?_
      refine g_iconstv C tb_X11_look_1_ok (i := 2) 0 rfl k_iconstv_0 ?_
      refine g_istore C tb_X11_look_1_ok (i := 3) rfl rfl rfl ?_
      refine g_less (L' := [some (.ref a0), some (.int a1), some (.int v14), some (.int (0 : Int32)), some (.int (0 : Int32)), none]) ⟨rfl, ⟨rfl, ⟨rfl, ⟨rfl, ⟨rfl, trivial⟩⟩⟩⟩⟩ ?_
      refine fix_i (P := fun (f : Int32 → Int32 → Int32 → Option (Nat × Int32 × Mem)) => ∀ (v15 : Int32) (v16 : Int32) (v17 : Int32), f v15 v16 v17 = some out → GG g x 6 Q 1 6 y M7 80 [some (.ref a0), some (.int a1), some (.int v15), some (.int v16), some (.int v17), none] []) ?_ ?_ _ v14 (0 : Int32) (0 : Int32) h
      · intro v15 v16 v17 h; exact (nn_e h).elim
      · intro s18 ih19 v15 v16 v17 h
        refine g_iload C tb_X11_look_1_ok (i := 4) rfl rfl ?_
        refine g_aload_n C tb_X11_look_1_ok (i := 5) rfl rfl ?_
        refine g_getR C tb_X11_look_1_ok (i := 6) rfl fl_X11_19 rfl k1 n10 ?_
        obtain ⟨r20, er20, h⟩ := cp_e h
        refine g_callV0 C tb_X11_look_1_ok (i := 7) [] rfl mw_X1_cells mv_X1_cells ml_X11_128 k11 rfl rfl rfl rfl (w_X1_cells C.G y (y.2.1 a0 1) M7) (pm_s er20) rfl rfl rfl ?_
        obtain ⟨t21, f22⟩ := br_e h
        refine g_icmp_ge C tb_X11_look_1_ok (i := 8) 118 rfl rfl (fun c => ?_) (fun c => ?_)
        · have h := t21 c
          refine g_iload_n C tb_X11_look_1_ok (i := 22) rfl rfl ?_
          obtain ⟨j24, ej24, h⟩ := jn_e h
          have J127 : ∀ (v23 : Int32), j24 v23 = some out → GG g x 6 Q 1 6 y M7 127 [none, none, none, none, none, none] [.int v23] := by
            intro v23 h; subst ej24
            cases h
            exact g_iret1 C R rfl rfl tb_X11_look_1_ok (i := 27) rfl
          obtain ⟨t25, f26⟩ := br_e h
          refine g_if_ne C tb_X11_look_1_ok (i := 23) 126 rfl rfl (fun c => ?_) (fun c => ?_)
          · have h := f26 c
            refine g_iload_n C tb_X11_look_1_ok (i := 26) rfl rfl ?_
            exact g_less (L' := [none, none, none, none, none, none]) trivial (J127 v16 h)
          · have h := t25 c
            refine g_iload_n C tb_X11_look_1_ok (i := 24) rfl rfl ?_
            refine g_goto C tb_X11_look_1_ok (i := 25) 127 rfl rfl ?_
            exact g_less (L' := [none, none, none, none, none, none]) trivial (J127 v15 h)
        · have h := f22 c
          refine g_aload_n C tb_X11_look_1_ok (i := 9) rfl rfl ?_
          refine g_iload C tb_X11_look_1_ok (i := 10) rfl rfl ?_
          obtain ⟨r27, er27, h⟩ := cp_e h
          refine g_callV0 C tb_X11_look_1_ok (i := 11) [.int v17] rfl mw_X11_unlikeBlues mv_X11_unlikeBlues ml_X11_324 k1 rfl rfl rfl rfl (w_X11_unlikeBlues C.G y a0 v17 M7) (pm_s er27) rfl rfl rfl ?_
          refine g_istore C tb_X11_look_1_ok (i := 12) rfl rfl rfl ?_
          refine g_iload C tb_X11_look_1_ok (i := 13) rfl rfl ?_
          refine g_iload_n C tb_X11_look_1_ok (i := 14) rfl rfl ?_
          obtain ⟨j30, ej30, h⟩ := jn_e h
          have J112 : ∀ (v28 : Int32) (v29 : Int32), j30 v28 v29 = some out → GG g x 6 Q 1 6 y M7 112 [some (.ref a0), some (.int a1), some (.int v28), some (.int v29), some (.int v17), none] [] := by
            intro v28 v29 h; subst ej30
            obtain ⟨v31, ev31⟩ : ∃ w : Int32, w = v17 + (1 : Int32) := ⟨_, rfl⟩
            have h := lt_e ev31 h
            refine g_iincv C tb_X11_look_1_ok (i := 20) (1 : Int32) ev31 rfl rfl k_iconstv_1 rfl rfl ?_
            refine g_goto C tb_X11_look_1_ok (i := 21) 80 rfl rfl ?_
            exact g_less (L' := [some (.ref a0), some (.int a1), some (.int v28), some (.int v29), some (.int v31), none]) ⟨rfl, ⟨rfl, ⟨rfl, ⟨rfl, ⟨rfl, trivial⟩⟩⟩⟩⟩ (ih19 v28 v29 v31 h)
          obtain ⟨t32, f33⟩ := br_e h
          refine g_icmp_le C tb_X11_look_1_ok (i := 15) 112 rfl rfl (fun c => ?_) (fun c => ?_)
          · have h := t32 c
            exact g_less (L' := [some (.ref a0), some (.int a1), some (.int v15), some (.int v16), some (.int v17), none]) ⟨rfl, ⟨rfl, ⟨rfl, ⟨rfl, ⟨rfl, trivial⟩⟩⟩⟩⟩ (J112 v15 v16 h)
          · have h := f33 c
            refine g_iload C tb_X11_look_1_ok (i := 16) rfl rfl ?_
            refine g_istore_n C tb_X11_look_1_ok (i := 17) rfl rfl rfl ?_
            refine g_iload C tb_X11_look_1_ok (i := 18) rfl rfl ?_
            refine g_istore_n C tb_X11_look_1_ok (i := 19) rfl rfl rfl ?_
            exact g_less (L' := [some (.ref a0), some (.int a1), some (.int v17), some (.int r27), some (.int v17), none]) ⟨rfl, ⟨rfl, ⟨rfl, ⟨rfl, ⟨rfl, trivial⟩⟩⟩⟩⟩ (J112 v17 r27 h)
    · have h := f13 c
      refine g_iconstv C tb_X11_look_0_ok (i := 13) 0 rfl k_iconstv_0 ?_
      refine g_istore_n C tb_X11_look_0_ok (i := 14) rfl rfl rfl ?_
      refine g_less (L' := [some (.ref a0), some (.int a1), some (.int v6), some (.int (0 : Int32)), none, none]) ⟨rfl, ⟨rfl, ⟨rfl, ⟨rfl, trivial⟩⟩⟩⟩ ?_
      refine fix_i (P := fun (f : Int32 → Mem → Option (Nat × Int32 × Mem)) => ∀ (v34 : Int32) (M35 : Mem), f v34 M35 = some out → GG g x 6 Q 1 6 y M35 25 [some (.ref a0), some (.int a1), some (.int v6), some (.int v34), none, none] []) ?_ ?_ _ (0 : Int32) M7 h
      · intro v34 M35 h; exact (nn_e h).elim
      · intro s36 ih37 v34 M35 h
        refine g_iload_n C tb_X11_look_0_ok (i := 15) rfl rfl ?_
        refine g_bipushv C tb_X11_look_0_ok (i := 16) 9 rfl k_bipushv_9 ?_
        obtain ⟨t38, f39⟩ := br_e h
        refine g_icmp_gt C tb_X11_look_0_ok (i := 17) 67 rfl rfl (fun c => ?_) (fun c => ?_)
        · have h := t38 c
          obtain ⟨v40, ev40⟩ : ∃ w : Int32, w = v6 + (1 : Int32) := ⟨_, rfl⟩
          have h := lt_e ev40 h
          refine g_iincv C tb_X11_look_0_ok (i := 36) (1 : Int32) ev40 rfl rfl k_iconstv_1 rfl rfl ?_
          refine g_goto C tb_X11_look_0_ok (i := 37) 12 rfl rfl ?_
          exact g_less (L' := [some (.ref a0), some (.int a1), some (.int v40), none, none, none]) ⟨rfl, ⟨rfl, ⟨rfl, trivial⟩⟩⟩ (ih9 v40 M35 h)
        · have h := f39 c
          refine g_iload_n C tb_X11_look_0_ok (i := 18) rfl rfl ?_
          refine g_aload_n C tb_X11_look_0_ok (i := 19) rfl rfl ?_
          obtain ⟨n41, h⟩ := gN_e h
          refine g_getR C tb_X11_look_0_ok (i := 20) rfl fl_X11_37 rfl k1 n41 ?_
          obtain ⟨k42, h⟩ := gK_e h
          obtain ⟨n43, h⟩ := gN_e h
          refine g_getR C tb_X11_look_0_ok (i := 21) rfl fl_X11_53 rfl k42 n43 ?_
          refine g_iload_n C tb_X11_look_0_ok (i := 22) rfl rfl ?_
          obtain ⟨k44, h⟩ := gK_e h
          obtain ⟨r45, er45, h⟩ := cp_e h
          refine g_callV0 C tb_X11_look_0_ok (i := 23) [.int v6] rfl mw_X8_skillOf mv_X8_skillOf ml_X11_198 k44 rfl rfl rfl rfl (w_X8_skillOf C.G y (y.2.1 (y.2.1 a0 3) 0) v6 M35) (pm_s er45) rfl rfl rfl ?_
          obtain ⟨j47, ej47, h⟩ := jn_e h
          have J61 : ∀ (M46 : Mem), j47 M46 = some out → GG g x 6 Q 1 6 y M46 61 [some (.ref a0), some (.int a1), some (.int v6), some (.int v34), none, none] [] := by
            intro M46 h; subst ej47
            obtain ⟨v48, ev48⟩ : ∃ w : Int32, w = v34 + (1 : Int32) := ⟨_, rfl⟩
            have h := lt_e ev48 h
            refine g_iincv C tb_X11_look_0_ok (i := 34) (1 : Int32) ev48 rfl rfl k_iconstv_1 rfl rfl ?_
            refine g_goto C tb_X11_look_0_ok (i := 35) 25 rfl rfl ?_
            exact g_less (L' := [some (.ref a0), some (.int a1), some (.int v6), some (.int v48), none, none]) ⟨rfl, ⟨rfl, ⟨rfl, ⟨rfl, trivial⟩⟩⟩⟩ (ih37 v48 M46 h)
          obtain ⟨t49, f50⟩ := br_e h
          refine g_icmp_eq C tb_X11_look_0_ok (i := 24) 61 rfl rfl (fun c => ?_) (fun c => ?_)
          · have h := t49 c
            exact g_less (L' := [some (.ref a0), some (.int a1), some (.int v6), some (.int v34), none, none]) ⟨rfl, ⟨rfl, ⟨rfl, ⟨rfl, trivial⟩⟩⟩⟩ (J61 M35 h)
          · have h := f50 c
            refine g_aload_n C tb_X11_look_0_ok (i := 25) rfl rfl ?_
            refine g_iload_n C tb_X11_look_0_ok (i := 26) rfl rfl ?_
            refine g_iload_n C tb_X11_look_0_ok (i := 27) rfl rfl ?_
            obtain ⟨r51, M52, er51, h⟩ := c0_e h
            refine g_callV0 C tb_X11_look_0_ok (i := 28) [.int v6, .int v34] rfl mw_X11_wouldFit mv_X11_wouldFit ml_X11_314 k1 rfl rfl rfl rfl (w_X11_wouldFit C.G y a0 v6 v34 M35) er51 rfl rfl rfl ?_
            obtain ⟨t53, f54⟩ := br_e h
            refine g_if_eq C tb_X11_look_0_ok (i := 29) 61 rfl rfl (fun c => ?_) (fun c => ?_)
            · have h := t53 c
              exact g_less (L' := [some (.ref a0), some (.int a1), some (.int v6), some (.int v34), none, none]) ⟨rfl, ⟨rfl, ⟨rfl, ⟨rfl, trivial⟩⟩⟩⟩ (J61 M52 h)
            · have h := f54 c
              refine g_aload_n C tb_X11_look_0_ok (i := 30) rfl rfl ?_
              refine g_iload_n C tb_X11_look_0_ok (i := 31) rfl rfl ?_
              refine g_iload_n C tb_X11_look_0_ok (i := 32) rfl rfl ?_
              obtain ⟨r55, M56, er55, h⟩ := c0_e h
              refine g_callV0 C tb_X11_look_0_ok (i := 33) [.int v6, .int v34] rfl mw_X11_gatherBlues mv_X11_gatherBlues ml_X11_321 k1 rfl rfl rfl rfl (w_X11_gatherBlues C.G y a0 v6 v34 M52) er55 rfl rfl rfl ?_
              exact g_less (L' := [some (.ref a0), some (.int a1), some (.int v6), some (.int v34), none, none]) ⟨rfl, ⟨rfl, ⟨rfl, ⟨rfl, trivial⟩⟩⟩⟩ (J61 M56 h)
def f_X11_playAll (y : Lay) (a0 : Nat) (a1 : Int32) (a2 : Int32) (M : Mem) : Option (Int32 × Mem) := fixN (fun _ _ => none) (fun (s3 : Int32 → Mem → Option (Int32 × Mem)) (v1 : Int32) (M2 : Mem) => br ((1 : Int32) < v1) (some (0, M2)) (fixN (fun _ _ => none) (fun (s9 : Int32 → Mem → Option (Int32 × Mem)) (v7 : Int32) (M8 : Mem) => br ((1 : Int32) < v7) (lt (v1 + (1 : Int32)) fun (v13 : Int32) => s3 v13 M8) (gK y a0 (0, 11) (gN (y.2.1 a0 5) (gN (y.2.1 a0 3) (gK y (y.2.1 a0 3) (0, 4) (gN (y.2.1 (y.2.1 a0 3) 0) (gK y (y.2.1 a0 5) (0, 8) (c0 (f_X8_copyFrom y (y.2.1 a0 5) (y.2.1 (y.2.1 a0 3) 0) M8) fun (r20 : Int32) (M21 : Mem) => jn (fun (v22 : Int32) => c0 (f_X8_setResting y (y.2.1 a0 5) a1 v22 M21) fun (r24 : Int32) (M25 : Mem) => jn (fun (v26 : Int32) => c0 (f_X8_setResting y (y.2.1 a0 5) a2 v26 M25) fun (r28 : Int32) (M29 : Mem) => c0 (f_X8_passDay y (y.2.1 a0 5) M29) fun (r30 : Int32) (M31 : Mem) => cp (f_J6_bitCount_0f7a4 y (M31.1 (y.2.1 a0 5) 12) M31) fun (r32 : Int32) => lt ((10 : Int32) * r32) fun (v33 : Int32) => gN (y.2.1 a0 10) (cp (f_X8_spotOf y (y.2.1 a0 5) a1 M31) fun (r35 : Int32) => cp (f_X8_blueOf y (y.2.1 a0 5) r35 M31) fun (r36 : Int32) => gA y (y.2.1 a0 10) 1 (((2 : Int32) * v1) + v7) (lt (wI M31 (y.2.1 a0 10) (((2 : Int32) * v1) + v7).toNatClampNeg ((r36 - v33) - ((2 : Int32) * v1))) fun (M38 : Mem) => cp (f_X8_spotOf y (y.2.1 a0 5) a2 M38) fun (r39 : Int32) => cp (f_X8_blueOf y (y.2.1 a0 5) r39 M38) fun (r40 : Int32) => gA y (y.2.1 a0 10) 1 (((4 : Int32) + ((2 : Int32) * v1)) + v7) (lt (wI M38 (y.2.1 a0 10) (((4 : Int32) + ((2 : Int32) * v1)) + v7).toNatClampNeg ((r40 - v33) - ((2 : Int32) * v7))) fun (M42 : Mem) => lt (v7 + (1 : Int32)) fun (v43 : Int32) => s9 v43 M42)))) fun j27 => br (v7 = 0) (j27 (1 : Int32)) (j27 (0 : Int32))) fun j23 => br (v1 = 0) (j23 (1 : Int32)) (j23 (0 : Int32)))))))))) FUEL (0 : Int32) M2)) FUEL (0 : Int32) M
theorem w_X11_playAll {g : GX} {l : Launch} (hG : GF g l) (y : Lay) (a0 : Nat) (a1 : Int32) (a2 : Int32) (M : Mem) : C0 g l yX11_playAll cX11_playAll 6 none 5 y [.ref a0, .int a1, .int a2] M (f_X11_playAll y a0 a1 a2 M) := by
  refine C0_of hG (by decide) [some (.ref a0), some (.int a1), some (.int a2), none, none, none] rfl rfl (fun out h x Q C R => ?_)
  unfold f_X11_playAll at h
  refine g_iconstv C tb_X11_playAll_0_ok (i := 0) 0 rfl k_iconstv_0 ?_
  refine g_istore_n C tb_X11_playAll_0_ok (i := 1) rfl rfl rfl ?_
  refine g_less (L' := [some (.ref a0), some (.int a1), some (.int a2), some (.int (0 : Int32)), none, none]) ⟨rfl, ⟨rfl, ⟨rfl, ⟨rfl, trivial⟩⟩⟩⟩ ?_
  refine fix_i (P := fun (f : Int32 → Mem → Option (Int32 × Mem)) => ∀ (v1 : Int32) (M2 : Mem), f v1 M2 = some out → GG g x 6 Q 0 0 y M2 2 [some (.ref a0), some (.int a1), some (.int a2), some (.int v1), none, none] []) ?_ ?_ _ (0 : Int32) M h
  · intro v1 M2 h; exact (nn_e h).elim
  · intro s3 ih4 v1 M2 h
    refine g_iload_n C tb_X11_playAll_0_ok (i := 2) rfl rfl ?_
    refine g_iconstv C tb_X11_playAll_0_ok (i := 3) 1 rfl k_iconstv_1 ?_
    obtain ⟨t5, f6⟩ := br_e h
    refine g_icmp_gt C tb_X11_playAll_0_ok (i := 4) 168 rfl rfl (fun c => ?_) (fun c => ?_)
    · have h := t5 c
      cases h
      exact g_vret0 C R tb_X11_playAll_2_ok (i := 12) rfl
    · have h := f6 c
      refine g_iconstv C tb_X11_playAll_0_ok (i := 5) 0 rfl k_iconstv_0 ?_
      refine g_istore C tb_X11_playAll_0_ok (i := 6) rfl rfl rfl ?_
      refine g_less (L' := [some (.ref a0), some (.int a1), some (.int a2), some (.int v1), some (.int (0 : Int32)), none]) ⟨rfl, ⟨rfl, ⟨rfl, ⟨rfl, ⟨rfl, trivial⟩⟩⟩⟩⟩ ?_
      refine fix_i (P := fun (f : Int32 → Mem → Option (Int32 × Mem)) => ∀ (v7 : Int32) (M8 : Mem), f v7 M8 = some out → GG g x 6 Q 0 0 y M8 10 [some (.ref a0), some (.int a1), some (.int a2), some (.int v1), some (.int v7), none] []) ?_ ?_ _ (0 : Int32) M2 h
      · intro v7 M8 h; exact (nn_e h).elim
      · intro s9 ih10 v7 M8 h
        refine g_iload C tb_X11_playAll_0_ok (i := 7) rfl rfl ?_
        refine g_iconstv C tb_X11_playAll_0_ok (i := 8) 1 rfl k_iconstv_1 ?_
        obtain ⟨t11, f12⟩ := br_e h
        refine g_icmp_gt C tb_X11_playAll_0_ok (i := 9) 162 rfl rfl (fun c => ?_) (fun c => ?_)
        · have h := t11 c
          obtain ⟨v13, ev13⟩ : ∃ w : Int32, w = v1 + (1 : Int32) := ⟨_, rfl⟩
          have h := lt_e ev13 h
          refine g_iincv C tb_X11_playAll_2_ok (i := 10) (1 : Int32) ev13 rfl rfl k_iconstv_1 rfl rfl ?_
          refine g_goto C tb_X11_playAll_2_ok (i := 11) 2 rfl rfl ?_
          exact g_less (L' := [some (.ref a0), some (.int a1), some (.int a2), some (.int v13), none, none]) ⟨rfl, ⟨rfl, ⟨rfl, ⟨rfl, trivial⟩⟩⟩⟩ (ih4 v13 M8 h)
        · have h := f12 c
          refine g_aload_n C tb_X11_playAll_0_ok (i := 10) rfl rfl ?_
          obtain ⟨k14, h⟩ := gK_e h
          obtain ⟨n15, h⟩ := gN_e h
          refine g_getR C tb_X11_playAll_0_ok (i := 11) rfl fl_X11_47 rfl k14 n15 ?_
          refine g_aload_n C tb_X11_playAll_0_ok (i := 12) rfl rfl ?_
          obtain ⟨n16, h⟩ := gN_e h
          refine g_getR C tb_X11_playAll_0_ok (i := 13) rfl fl_X11_37 rfl k14 n16 ?_
          obtain ⟨k17, h⟩ := gK_e h
          obtain ⟨n18, h⟩ := gN_e h
          refine g_getR C tb_X11_playAll_0_ok (i := 14) rfl fl_X11_53 rfl k17 n18 ?_
          obtain ⟨k19, h⟩ := gK_e h
          obtain ⟨r20, M21, er20, h⟩ := c0_e h
          refine g_callV0 C tb_X11_playAll_0_ok (i := 15) [.ref (y.2.1 (y.2.1 a0 3) 0)] rfl mw_X8_copyFrom mv_X8_copyFrom ml_X11_343 k19 rfl rfl rfl rfl (w_X8_copyFrom C.G y (y.2.1 a0 5) (y.2.1 (y.2.1 a0 3) 0) M8) er20 rfl rfl rfl ?_
          refine g_aload_n C tb_X11_playAll_0_ok (i := 16) rfl rfl ?_
          refine g_getR C tb_X11_playAll_0_ok (i := 17) rfl fl_X11_47 rfl k14 n15 ?_
          refine g_iload_n C tb_X11_playAll_0_ok (i := 18) rfl rfl ?_
          refine g_iload_n C tb_X11_playAll_0_ok (i := 19) rfl rfl ?_
          obtain ⟨j23, ej23, h⟩ := jn_e h
          have J44 : ∀ (v22 : Int32), j23 v22 = some out → GG g x 6 Q 0 0 y M21 44 [some (.ref a0), some (.int a1), some (.int a2), some (.int v1), some (.int v7), none] [.int v22, .int a1, .ref (y.2.1 a0 5)] := by
            intro v22 h; subst ej23
            obtain ⟨r24, M25, er24, h⟩ := c0_e h
            refine g_callV0 C tb_X11_playAll_0_ok (i := 24) [.int a1, .int v22] rfl mw_X8_setResting mv_X8_setResting ml_X11_227 k19 rfl rfl rfl rfl (w_X8_setResting C.G y (y.2.1 a0 5) a1 v22 M21) er24 rfl rfl rfl ?_
            refine g_aload_n C tb_X11_playAll_0_ok (i := 25) rfl rfl ?_
            refine g_getR C tb_X11_playAll_0_ok (i := 26) rfl fl_X11_47 rfl k14 n15 ?_
            refine g_iload_n C tb_X11_playAll_0_ok (i := 27) rfl rfl ?_
            refine g_iload C tb_X11_playAll_0_ok (i := 28) rfl rfl ?_
            obtain ⟨j27, ej27, h⟩ := jn_e h
            have J62 : ∀ (v26 : Int32), j27 v26 = some out → GG g x 6 Q 0 0 y M25 62 [some (.ref a0), some (.int a1), some (.int a2), some (.int v1), some (.int v7), none] [.int v26, .int a2, .ref (y.2.1 a0 5)] := by
              intro v26 h; subst ej27
              obtain ⟨r28, M29, er28, h⟩ := c0_e h
              refine g_callV0 C tb_X11_playAll_0_ok (i := 33) [.int a2, .int v26] rfl mw_X8_setResting mv_X8_setResting ml_X11_227 k19 rfl rfl rfl rfl (w_X8_setResting C.G y (y.2.1 a0 5) a2 v26 M25) er28 rfl rfl rfl ?_
              refine g_aload_n C tb_X11_playAll_0_ok (i := 34) rfl rfl ?_
              refine g_getR C tb_X11_playAll_0_ok (i := 35) rfl fl_X11_47 rfl k14 n15 ?_
              obtain ⟨r30, M31, er30, h⟩ := c0_e h
              refine g_callV0 C tb_X11_playAll_0_ok (i := 36) [] rfl mw_X8_passDay mv_X8_passDay ml_X11_221 k19 rfl rfl rfl rfl (w_X8_passDay C.G y (y.2.1 a0 5) M29) er30 rfl rfl rfl ?_
              refine g_bipushv C tb_X11_playAll_0_ok (i := 37) 10 rfl k_bipushv_10 ?_
              refine g_aload_n C tb_X11_playAll_0_ok (i := 38) rfl rfl ?_
              refine g_getR C tb_X11_playAll_0_ok (i := 39) rfl fl_X11_47 rfl k14 n15 ?_
              refine g_getI C tb_X11_playAll_1_ok (i := 0) rfl fl_X11_267 rfl k19 ?_
              obtain ⟨r32, er32, h⟩ := cp_e h
              refine g_callS0 C tb_X11_playAll_1_ok (i := 1) [.int (M31.1 (y.2.1 a0 5) 12)] rfl mw_J6_bitCount_0f7a4 mst_J6_bitCount_0f7a4 ml_X11_296 rfl rfl rfl rfl (w_J6_bitCount_0f7a4 C.G y (M31.1 (y.2.1 a0 5) 12) M31) (pm_s er32) rfl rfl rfl ?_
              refine g_imul C tb_X11_playAll_1_ok (i := 2) rfl ?_
              refine g_topi (fun v33 ev33 => ?_)
              have h := lt_e ev33 h
              refine g_istore C tb_X11_playAll_1_ok (i := 3) rfl rfl rfl ?_
              refine g_aload_n C tb_X11_playAll_1_ok (i := 4) rfl rfl ?_
              obtain ⟨n34, h⟩ := gN_e h
              refine g_getR C tb_X11_playAll_1_ok (i := 5) rfl fl_X11_77 rfl k14 n34 ?_
              refine g_iconstv C tb_X11_playAll_1_ok (i := 6) 2 rfl k_iconstv_2 ?_
              refine g_iload_n C tb_X11_playAll_1_ok (i := 7) rfl rfl ?_
              refine g_imul C tb_X11_playAll_1_ok (i := 8) rfl ?_
              refine g_iload C tb_X11_playAll_1_ok (i := 9) rfl rfl ?_
              refine g_iadd C tb_X11_playAll_1_ok (i := 10) rfl ?_
              refine g_aload_n C tb_X11_playAll_1_ok (i := 11) rfl rfl ?_
              refine g_getR C tb_X11_playAll_1_ok (i := 12) rfl fl_X11_47 rfl k14 n15 ?_
              refine g_aload_n C tb_X11_playAll_1_ok (i := 13) rfl rfl ?_
              refine g_getR C tb_X11_playAll_1_ok (i := 14) rfl fl_X11_47 rfl k14 n15 ?_
              refine g_iload_n C tb_X11_playAll_1_ok (i := 15) rfl rfl ?_
              obtain ⟨r35, er35, h⟩ := cp_e h
              refine g_callV0 C tb_X11_playAll_1_ok (i := 16) [.int a1] rfl mw_X8_spotOf mv_X8_spotOf ml_X11_201 k19 rfl rfl rfl rfl (w_X8_spotOf C.G y (y.2.1 a0 5) a1 M31) (pm_s er35) rfl rfl rfl ?_
              obtain ⟨r36, er36, h⟩ := cp_e h
              refine g_callV0 C tb_X11_playAll_1_ok (i := 17) [.int r35] rfl mw_X8_blueOf mv_X8_blueOf ml_X11_182 k19 rfl rfl rfl rfl (w_X8_blueOf C.G y (y.2.1 a0 5) r35 M31) (pm_s er36) rfl rfl rfl ?_
              refine g_iload C tb_X11_playAll_1_ok (i := 18) rfl rfl ?_
              refine g_isub C tb_X11_playAll_1_ok (i := 19) rfl ?_
              refine g_iconstv C tb_X11_playAll_1_ok (i := 20) 2 rfl k_iconstv_2 ?_
              refine g_iload_n C tb_X11_playAll_1_ok (i := 21) rfl rfl ?_
              refine g_imul C tb_X11_playAll_1_ok (i := 22) rfl ?_
              refine g_isub C tb_X11_playAll_1_ok (i := 23) rfl ?_
              obtain ⟨b37, h⟩ := gA_e h
              refine g_iast C tb_X11_playAll_1_ok (i := 24) rfl b37 ?_
              refine g_mem (fun M38 eM38 => ?_)
              have h := lt_e eM38 h
              refine g_aload_n C tb_X11_playAll_1_ok (i := 25) rfl rfl ?_
              refine g_getR C tb_X11_playAll_1_ok (i := 26) rfl fl_X11_77 rfl k14 n34 ?_
              refine g_iconstv C tb_X11_playAll_1_ok (i := 27) 4 rfl k_iconstv_4 ?_
              refine g_iconstv C tb_X11_playAll_1_ok (i := 28) 2 rfl k_iconstv_2 ?_
              refine g_iload_n C tb_X11_playAll_1_ok (i := 29) rfl rfl ?_
              refine g_imul C tb_X11_playAll_1_ok (i := 30) rfl ?_
              refine g_iadd C tb_X11_playAll_1_ok (i := 31) rfl ?_
              refine g_iload C tb_X11_playAll_1_ok (i := 32) rfl rfl ?_
              refine g_iadd C tb_X11_playAll_1_ok (i := 33) rfl ?_
              refine g_aload_n C tb_X11_playAll_1_ok (i := 34) rfl rfl ?_
              refine g_getR C tb_X11_playAll_1_ok (i := 35) rfl fl_X11_47 rfl k14 n15 ?_
              refine g_aload_n C tb_X11_playAll_1_ok (i := 36) rfl rfl ?_
              refine g_getR C tb_X11_playAll_1_ok (i := 37) rfl fl_X11_47 rfl k14 n15 ?_
              refine g_iload_n C tb_X11_playAll_1_ok (i := 38) rfl rfl ?_
              obtain ⟨r39, er39, h⟩ := cp_e h
              refine g_callV0 C tb_X11_playAll_1_ok (i := 39) [.int a2] rfl mw_X8_spotOf mv_X8_spotOf ml_X11_201 k19 rfl rfl rfl rfl (w_X8_spotOf C.G y (y.2.1 a0 5) a2 M38) (pm_s er39) rfl rfl rfl ?_
              obtain ⟨r40, er40, h⟩ := cp_e h
              refine g_callV0 C tb_X11_playAll_2_ok (i := 0) [.int r39] rfl mw_X8_blueOf mv_X8_blueOf ml_X11_182 k19 rfl rfl rfl rfl (w_X8_blueOf C.G y (y.2.1 a0 5) r39 M38) (pm_s er40) rfl rfl rfl ?_
              refine g_iload C tb_X11_playAll_2_ok (i := 1) rfl rfl ?_
              refine g_isub C tb_X11_playAll_2_ok (i := 2) rfl ?_
              refine g_iconstv C tb_X11_playAll_2_ok (i := 3) 2 rfl k_iconstv_2 ?_
              refine g_iload C tb_X11_playAll_2_ok (i := 4) rfl rfl ?_
              refine g_imul C tb_X11_playAll_2_ok (i := 5) rfl ?_
              refine g_isub C tb_X11_playAll_2_ok (i := 6) rfl ?_
              obtain ⟨b41, h⟩ := gA_e h
              refine g_iast C tb_X11_playAll_2_ok (i := 7) rfl b41 ?_
              refine g_mem (fun M42 eM42 => ?_)
              have h := lt_e eM42 h
              obtain ⟨v43, ev43⟩ : ∃ w : Int32, w = v7 + (1 : Int32) := ⟨_, rfl⟩
              have h := lt_e ev43 h
              refine g_iincv C tb_X11_playAll_2_ok (i := 8) (1 : Int32) ev43 rfl rfl k_iconstv_1 rfl rfl ?_
              refine g_goto C tb_X11_playAll_2_ok (i := 9) 10 rfl rfl ?_
              exact g_less (L' := [some (.ref a0), some (.int a1), some (.int a2), some (.int v1), some (.int v43), none]) ⟨rfl, ⟨rfl, ⟨rfl, ⟨rfl, ⟨rfl, trivial⟩⟩⟩⟩⟩ (ih10 v43 M42 h)
            obtain ⟨t44, f45⟩ := br_e h
            refine g_if_ne C tb_X11_playAll_0_ok (i := 29) 61 rfl rfl (fun c => ?_) (fun c => ?_)
            · have h := f45 c
              refine g_iconstv C tb_X11_playAll_0_ok (i := 32) 0 rfl k_iconstv_0 ?_
              exact g_less (L' := [some (.ref a0), some (.int a1), some (.int a2), some (.int v1), some (.int v7), none]) ⟨rfl, ⟨rfl, ⟨rfl, ⟨rfl, ⟨rfl, trivial⟩⟩⟩⟩⟩ (J62 (0 : Int32) h)
            · have h := t44 c
              refine g_iconstv C tb_X11_playAll_0_ok (i := 30) 1 rfl k_iconstv_1 ?_
              refine g_goto C tb_X11_playAll_0_ok (i := 31) 62 rfl rfl ?_
              exact g_less (L' := [some (.ref a0), some (.int a1), some (.int a2), some (.int v1), some (.int v7), none]) ⟨rfl, ⟨rfl, ⟨rfl, ⟨rfl, ⟨rfl, trivial⟩⟩⟩⟩⟩ (J62 (1 : Int32) h)
          obtain ⟨t46, f47⟩ := br_e h
          refine g_if_ne C tb_X11_playAll_0_ok (i := 20) 43 rfl rfl (fun c => ?_) (fun c => ?_)
          · have h := f47 c
            refine g_iconstv C tb_X11_playAll_0_ok (i := 23) 0 rfl k_iconstv_0 ?_
            exact g_less (L' := [some (.ref a0), some (.int a1), some (.int a2), some (.int v1), some (.int v7), none]) ⟨rfl, ⟨rfl, ⟨rfl, ⟨rfl, ⟨rfl, trivial⟩⟩⟩⟩⟩ (J44 (0 : Int32) h)
          · have h := t46 c
            refine g_iconstv C tb_X11_playAll_0_ok (i := 21) 1 rfl k_iconstv_1 ?_
            refine g_goto C tb_X11_playAll_0_ok (i := 22) 44 rfl rfl ?_
            exact g_less (L' := [some (.ref a0), some (.int a1), some (.int a2), some (.int v1), some (.int v7), none]) ⟨rfl, ⟨rfl, ⟨rfl, ⟨rfl, ⟨rfl, trivial⟩⟩⟩⟩⟩ (J44 (1 : Int32) h)
def f_X11_gainAt (y : Lay) (a0 : Nat) (a1 : Int32) (a2 : Int32) (a3 : Int32) (M : Mem) : Option Int32 := lt ((((4 : Int32) * a1) + ((2 : Int32) * a2)) + a3) fun (v1 : Int32) => jn (fun (v2 : Int32) => some v2) fun j3 => jn (fun (_u : Unit) => j3 (0 : Int32)) fun j4 => br (v1 < 0) (j4 ()) (gK y a0 (0, 11) (gN (y.2.1 a0 10) (gT y (y.2.1 a0 10) 1 (br ((Int32.ofNat (kd y (y.2.1 a0 10)).2) ≤ v1) (j4 ()) (gA y (y.2.1 a0 10) 1 v1 (j3 (M.1 (y.2.1 a0 10) v1.toNatClampNeg)))))))
theorem w_X11_gainAt {g : GX} {l : Launch} (hG : GF g l) (y : Lay) (a0 : Nat) (a1 : Int32) (a2 : Int32) (a3 : Int32) (M : Mem) : C0 g l yX11_gainAt cX11_gainAt 5 (some .int) 0 y [.ref a0, .int a1, .int a2, .int a3] M (pm M (f_X11_gainAt y a0 a1 a2 a3 M)) := by
  refine CP_of hG (by decide) [some (.ref a0), some (.int a1), some (.int a2), some (.int a3), none] rfl rfl (fun out h x Q C R => ?_)
  unfold f_X11_gainAt at h
  refine g_iconstv C tb_X11_gainAt_0_ok (i := 0) 4 rfl k_iconstv_4 ?_
  refine g_iload_n C tb_X11_gainAt_0_ok (i := 1) rfl rfl ?_
  refine g_imul C tb_X11_gainAt_0_ok (i := 2) rfl ?_
  refine g_iconstv C tb_X11_gainAt_0_ok (i := 3) 2 rfl k_iconstv_2 ?_
  refine g_iload_n C tb_X11_gainAt_0_ok (i := 4) rfl rfl ?_
  refine g_imul C tb_X11_gainAt_0_ok (i := 5) rfl ?_
  refine g_iadd C tb_X11_gainAt_0_ok (i := 6) rfl ?_
  refine g_iload_n C tb_X11_gainAt_0_ok (i := 7) rfl rfl ?_
  refine g_iadd C tb_X11_gainAt_0_ok (i := 8) rfl ?_
  refine g_topi (fun v1 ev1 => ?_)
  have h := lt_e ev1 h
  refine g_istore C tb_X11_gainAt_0_ok (i := 9) rfl rfl rfl ?_
  refine g_iload C tb_X11_gainAt_0_ok (i := 10) rfl rfl ?_
  obtain ⟨j3, ej3, h⟩ := jn_e h
  have J37 : ∀ (v2 : Int32), j3 v2 = some out → GG g x 5 Q 0 0 y M 37 [none, none, none, none, none] [.int v2] := by
    intro v2 h; subst ej3
    cases h
    exact g_iret0 C R tb_X11_gainAt_0_ok (i := 23) rfl
  obtain ⟨j4, ej4, h⟩ := jn_e h
  have J36 : ∀ (_u : Unit), j4 _u = some out → GG g x 5 Q 0 0 y M 36 [none, none, none, none, none] [] := by
    intro _u h; subst ej4
    refine g_iconstv C tb_X11_gainAt_0_ok (i := 22) 0 rfl k_iconstv_0 ?_
    exact g_less (L' := [none, none, none, none, none]) trivial (J37 (0 : Int32) h)
  obtain ⟨t5, f6⟩ := br_e h
  refine g_if_lt C tb_X11_gainAt_0_ok (i := 11) 36 rfl rfl (fun c => ?_) (fun c => ?_)
  · have h := t5 c
    exact g_less (L' := [none, none, none, none, none]) trivial (J36 () h)
  · have h := f6 c
    refine g_iload C tb_X11_gainAt_0_ok (i := 12) rfl rfl ?_
    refine g_aload_n C tb_X11_gainAt_0_ok (i := 13) rfl rfl ?_
    obtain ⟨k7, h⟩ := gK_e h
    obtain ⟨n8, h⟩ := gN_e h
    refine g_getR C tb_X11_gainAt_0_ok (i := 14) rfl fl_X11_77 rfl k7 n8 ?_
    obtain ⟨b9, h⟩ := gT_e h
    refine g_alen C tb_X11_gainAt_0_ok (i := 15) rfl b9 (by decide) ?_
    obtain ⟨t10, f11⟩ := br_e h
    refine g_icmp_ge C tb_X11_gainAt_0_ok (i := 16) 36 rfl rfl (fun c => ?_) (fun c => ?_)
    · have h := t10 c
      exact g_less (L' := [none, none, none, none, none]) trivial (J36 () h)
    · have h := f11 c
      refine g_aload_n C tb_X11_gainAt_0_ok (i := 17) rfl rfl ?_
      refine g_getR C tb_X11_gainAt_0_ok (i := 18) rfl fl_X11_77 rfl k7 n8 ?_
      refine g_iload C tb_X11_gainAt_0_ok (i := 19) rfl rfl ?_
      obtain ⟨b12, h⟩ := gA_e h
      refine g_iald C tb_X11_gainAt_0_ok (i := 20) rfl b12 ?_
      refine g_goto C tb_X11_gainAt_0_ok (i := 21) 37 rfl rfl ?_
      exact g_less (L' := [none, none, none, none, none]) trivial (J37 (M.1 (y.2.1 a0 10) v1.toNatClampNeg) h)
def f_X11_game (y : Lay) (a0 : Nat) (a1 : Int32) (a2 : Int32) (a3 : Int32) (M : Mem) : Option (Nat × Int32 × Mem) := gK y a0 (0, 11) (cx (f_X11_needGirl y a0 a1 M) fun (r2 : Int32) (M3 : Mem) => cx (f_X11_needGirl y a0 a2 M3) fun (r4 : Int32) (M5 : Mem) => cx (f_X11_needWhat y a0 a3 (1 : Int32) M5) fun (r6 : Int32) (M7 : Mem) => br (a1 = a2) (some (2, 0, M7)) (c0 (f_X11_playAll y a0 a1 a2 M7) fun (r10 : Int32) (M11 : Mem) => lt ((-1) : Int32) fun (v12 : Int32) => fixN (fun _ _ _ => none) (fun (s16 : Int32 → Int32 → Int32 → Option (Nat × Int32 × Mem)) (v13 : Int32) (v14 : Int32) (v15 : Int32) => br ((1 : Int32) < v15) (jn (fun (v20 : Int32) => some (0, v20, M11)) fun j21 => br (a3 = 0) (j21 v13) (j21 v14)) (fixN (fun _ _ _ => none) (fun (s27 : Int32 → Int32 → Int32 → Option (Nat × Int32 × Mem)) (v24 : Int32) (v25 : Int32) (v26 : Int32) => br ((1 : Int32) < v26) (lt (v15 + (1 : Int32)) fun (v31 : Int32) => s16 v24 v25 v31) (cp (f_X11_gainAt y a0 (0 : Int32) v15 v26 M11) fun (r32 : Int32) => cp (f_X11_gainAt y a0 (0 : Int32) ((1 : Int32) - v15) v26 M11) fun (r33 : Int32) => jn (fun (v34 : Int32) => jn (fun (v36 : Int32) (v37 : Int32) => lt (v26 + (1 : Int32)) fun (v39 : Int32) => s27 v36 v37 v39) fun j38 => br (v34 = 0) (j38 v24 v25) (jn (fun (v42 : Int32) => lt (v24 + (1 : Int32)) fun (v44 : Int32) => j38 v44 v42) fun j43 => br (v24 = 0) (lt (((10 : Int32) * v15) + v26) fun (v47 : Int32) => j43 v47) (j43 v25))) fun j35 => jn (fun (_u : Unit) => j35 (0 : Int32)) fun j48 => br (r32 < r33) (j48 ()) (cp (f_X11_gainAt y a0 (1 : Int32) v15 v26 M11) fun (r51 : Int32) => cp (f_X11_gainAt y a0 (1 : Int32) v15 ((1 : Int32) - v26) M11) fun (r52 : Int32) => br (r51 < r52) (j48 ()) (j35 (1 : Int32))))) FUEL v13 v14 (0 : Int32))) FUEL (0 : Int32) v12 (0 : Int32)))
theorem w_X11_game {g : GX} {l : Launch} (hG : GF g l) (y : Lay) (a0 : Nat) (a1 : Int32) (a2 : Int32) (a3 : Int32) (M : Mem) : C1 g l yX11_game cX11_game 9 (some .int) 6 4 24 y [.ref a0, .int a1, .int a2, .int a3] M (f_X11_game y a0 a1 a2 a3 M) := by
  refine C1_of hG (by decide) [some (.ref a0), some (.int a1), some (.int a2), some (.int a3), none, none, none, none, none] rfl rfl (fun out h x Q C R => ?_)
  unfold f_X11_game at h
  refine g_aload_n C tb_X11_game_0_ok (i := 0) rfl rfl ?_
  refine g_iload_n C tb_X11_game_0_ok (i := 1) rfl rfl ?_
  obtain ⟨k1, h⟩ := gK_e h
  refine g_callV1 C tb_X11_game_0_ok (i := 2) R [.int a1] rfl mw_X11_needGirl mv_X11_needGirl ml_X11_195 k1 rfl rfl rfl rfl (w_X11_needGirl C.G y a0 a1 M) h rfl rfl rfl (fun r2 M3 h => ?_)
  refine g_aload_n C tb_X11_game_0_ok (i := 3) rfl rfl ?_
  refine g_iload_n C tb_X11_game_0_ok (i := 4) rfl rfl ?_
  refine g_callV1 C tb_X11_game_0_ok (i := 5) R [.int a2] rfl mw_X11_needGirl mv_X11_needGirl ml_X11_195 k1 rfl rfl rfl rfl (w_X11_needGirl C.G y a0 a2 M3) h rfl rfl rfl (fun r4 M5 h => ?_)
  refine g_aload_n C tb_X11_game_0_ok (i := 6) rfl rfl ?_
  refine g_iload_n C tb_X11_game_0_ok (i := 7) rfl rfl ?_
  refine g_iconstv C tb_X11_game_0_ok (i := 8) 1 rfl k_iconstv_1 ?_
  refine g_callV1 C tb_X11_game_0_ok (i := 9) R [.int a3, .int (1 : Int32)] rfl mw_X11_needWhat mv_X11_needWhat ml_X11_255 k1 rfl rfl rfl rfl (w_X11_needWhat C.G y a0 a3 (1 : Int32) M5) h rfl rfl rfl (fun r6 M7 h => ?_)
  refine g_iload_n C tb_X11_game_0_ok (i := 10) rfl rfl ?_
  refine g_iload_n C tb_X11_game_0_ok (i := 11) rfl rfl ?_
  obtain ⟨t8, f9⟩ := br_e h
  refine g_icmp_ne C tb_X11_game_0_ok (i := 12) 29 rfl rfl (fun c => ?_) (fun c => ?_)
  · have h := f9 c
    refine g_aload_n C tb_X11_game_0_ok (i := 17) rfl rfl ?_
    refine g_iload_n C tb_X11_game_0_ok (i := 18) rfl rfl ?_
    refine g_iload_n C tb_X11_game_0_ok (i := 19) rfl rfl ?_
    obtain ⟨r10, M11, er10, h⟩ := c0_e h
    refine g_callV0 C tb_X11_game_0_ok (i := 20) [.int a1, .int a2] rfl mw_X11_playAll mv_X11_playAll ml_X11_327 k1 rfl rfl rfl rfl (w_X11_playAll C.G y a0 a1 a2 M7) er10 rfl rfl rfl ?_
    refine g_iconstv C tb_X11_game_0_ok (i := 21) 0 rfl k_iconstv_0 ?_
    refine g_istore C tb_X11_game_0_ok (i := 22) rfl rfl rfl ?_
    refine g_iconstv C tb_X11_game_0_ok (i := 23) (-1) rfl k_iconstv_m1 ?_
    refine g_topi (fun v12 ev12 => ?_)
    have h := lt_e ev12 h
    refine g_istore C tb_X11_game_0_ok (i := 24) rfl rfl rfl ?_
    refine g_iconstv C tb_X11_game_0_ok (i := 25) 0 rfl k_iconstv_0 ?_
    refine g_istore C tb_X11_game_0_ok (i := 26) rfl rfl rfl ?_
    refine g_less (L' := [some (.ref a0), none, none, some (.int a3), some (.int (0 : Int32)), some (.int v12), some (.int (0 : Int32)), none, none]) ⟨rfl, ⟨rfl, ⟨rfl, ⟨rfl, ⟨rfl, trivial⟩⟩⟩⟩⟩ ?_
    refine fix_i (P := fun (f : Int32 → Int32 → Int32 → Option (Nat × Int32 × Mem)) => ∀ (v13 : Int32) (v14 : Int32) (v15 : Int32), f v13 v14 v15 = some out → GG g x 9 Q 3 18 y M11 44 [some (.ref a0), none, none, some (.int a3), some (.int v13), some (.int v14), some (.int v15), none, none] []) ?_ ?_ _ (0 : Int32) v12 (0 : Int32) h
    · intro v13 v14 v15 h; exact (nn_e h).elim
    · intro s16 ih17 v13 v14 v15 h
      refine g_iload C tb_X11_game_0_ok (i := 27) rfl rfl ?_
      refine g_iconstv C tb_X11_game_0_ok (i := 28) 1 rfl k_iconstv_1 ?_
      obtain ⟨t18, f19⟩ := br_e h
      refine g_icmp_gt C tb_X11_game_0_ok (i := 29) 147 rfl rfl (fun c => ?_) (fun c => ?_)
      · have h := t18 c
        refine g_iload_n C tb_X11_game_2_ok (i := 0) rfl rfl ?_
        obtain ⟨j21, ej21, h⟩ := jn_e h
        have J158 : ∀ (v20 : Int32), j21 v20 = some out → GG g x 9 Q 3 18 y M11 158 [none, none, none, none, none, none, none, none, none] [.int v20] := by
          intro v20 h; subst ej21
          cases h
          exact g_iret1 C R rfl rfl tb_X11_game_2_ok (i := 5) rfl
        obtain ⟨t22, f23⟩ := br_e h
        refine g_if_ne C tb_X11_game_2_ok (i := 1) 156 rfl rfl (fun c => ?_) (fun c => ?_)
        · have h := f23 c
          refine g_iload C tb_X11_game_2_ok (i := 4) rfl rfl ?_
          exact g_less (L' := [none, none, none, none, none, none, none, none, none]) trivial (J158 v14 h)
        · have h := t22 c
          refine g_iload C tb_X11_game_2_ok (i := 2) rfl rfl ?_
          refine g_goto C tb_X11_game_2_ok (i := 3) 158 rfl rfl ?_
          exact g_less (L' := [none, none, none, none, none, none, none, none, none]) trivial (J158 v13 h)
      · have h := f19 c
        refine g_iconstv C tb_X11_game_0_ok (i := 30) 0 rfl k_iconstv_0 ?_
        refine g_istore C tb_X11_game_0_ok (i := 31) rfl rfl rfl ?_
        refine g_less (L' := [some (.ref a0), none, none, some (.int a3), some (.int v13), some (.int v14), some (.int v15), some (.int (0 : Int32)), none]) ⟨rfl, ⟨rfl, ⟨rfl, ⟨rfl, ⟨rfl, ⟨rfl, trivial⟩⟩⟩⟩⟩⟩ ?_
        refine fix_i (P := fun (f : Int32 → Int32 → Int32 → Option (Nat × Int32 × Mem)) => ∀ (v24 : Int32) (v25 : Int32) (v26 : Int32), f v24 v25 v26 = some out → GG g x 9 Q 3 18 y M11 53 [some (.ref a0), none, none, some (.int a3), some (.int v24), some (.int v25), some (.int v15), some (.int v26), none] []) ?_ ?_ _ v13 v14 (0 : Int32) h
        · intro v24 v25 v26 h; exact (nn_e h).elim
        · intro s27 ih28 v24 v25 v26 h
          refine g_iload C tb_X11_game_0_ok (i := 32) rfl rfl ?_
          refine g_iconstv C tb_X11_game_0_ok (i := 33) 1 rfl k_iconstv_1 ?_
          obtain ⟨t29, f30⟩ := br_e h
          refine g_icmp_gt C tb_X11_game_0_ok (i := 34) 141 rfl rfl (fun c => ?_) (fun c => ?_)
          · have h := t29 c
            obtain ⟨v31, ev31⟩ : ∃ w : Int32, w = v15 + (1 : Int32) := ⟨_, rfl⟩
            have h := lt_e ev31 h
            refine g_iincv C tb_X11_game_1_ok (i := 38) (1 : Int32) ev31 rfl rfl k_iconstv_1 rfl rfl ?_
            refine g_goto C tb_X11_game_1_ok (i := 39) 44 rfl rfl ?_
            exact g_less (L' := [some (.ref a0), none, none, some (.int a3), some (.int v24), some (.int v25), some (.int v31), none, none]) ⟨rfl, ⟨rfl, ⟨rfl, ⟨rfl, ⟨rfl, trivial⟩⟩⟩⟩⟩ (ih17 v24 v25 v31 h)
          · have h := f30 c
            refine g_aload_n C tb_X11_game_0_ok (i := 35) rfl rfl ?_
            refine g_iconstv C tb_X11_game_0_ok (i := 36) 0 rfl k_iconstv_0 ?_
            refine g_iload C tb_X11_game_0_ok (i := 37) rfl rfl ?_
            refine g_iload C tb_X11_game_0_ok (i := 38) rfl rfl ?_
            obtain ⟨r32, er32, h⟩ := cp_e h
            refine g_callV0 C tb_X11_game_0_ok (i := 39) [.int (0 : Int32), .int v15, .int v26] rfl mw_X11_gainAt mv_X11_gainAt ml_X11_330 k1 rfl rfl rfl rfl (w_X11_gainAt C.G y a0 (0 : Int32) v15 v26 M11) (pm_s er32) rfl rfl rfl ?_
            refine g_aload_n C tb_X11_game_1_ok (i := 0) rfl rfl ?_
            refine g_iconstv C tb_X11_game_1_ok (i := 1) 0 rfl k_iconstv_0 ?_
            refine g_iconstv C tb_X11_game_1_ok (i := 2) 1 rfl k_iconstv_1 ?_
            refine g_iload C tb_X11_game_1_ok (i := 3) rfl rfl ?_
            refine g_isub C tb_X11_game_1_ok (i := 4) rfl ?_
            refine g_iload C tb_X11_game_1_ok (i := 5) rfl rfl ?_
            obtain ⟨r33, er33, h⟩ := cp_e h
            refine g_callV0 C tb_X11_game_1_ok (i := 6) [.int (0 : Int32), .int ((1 : Int32) - v15), .int v26] rfl mw_X11_gainAt mv_X11_gainAt ml_X11_330 k1 rfl rfl rfl rfl (w_X11_gainAt C.G y a0 (0 : Int32) ((1 : Int32) - v15) v26 M11) (pm_s er33) rfl rfl rfl ?_
            obtain ⟨j35, ej35, h⟩ := jn_e h
            have J110 : ∀ (v34 : Int32), j35 v34 = some out → GG g x 9 Q 3 18 y M11 110 [some (.ref a0), none, none, some (.int a3), some (.int v24), some (.int v25), some (.int v15), some (.int v26), none] [.int v34] := by
              intro v34 h; subst ej35
              refine g_istore C tb_X11_game_1_ok (i := 24) rfl rfl rfl ?_
              refine g_iload C tb_X11_game_1_ok (i := 25) rfl rfl ?_
              obtain ⟨j38, ej38, h⟩ := jn_e h
              have J135 : ∀ (v36 : Int32) (v37 : Int32), j38 v36 v37 = some out → GG g x 9 Q 3 18 y M11 135 [some (.ref a0), none, none, some (.int a3), some (.int v36), some (.int v37), some (.int v15), some (.int v26), none] [] := by
                intro v36 v37 h; subst ej38
                obtain ⟨v39, ev39⟩ : ∃ w : Int32, w = v26 + (1 : Int32) := ⟨_, rfl⟩
                have h := lt_e ev39 h
                refine g_iincv C tb_X11_game_1_ok (i := 36) (1 : Int32) ev39 rfl rfl k_iconstv_1 rfl rfl ?_
                refine g_goto C tb_X11_game_1_ok (i := 37) 53 rfl rfl ?_
                exact g_less (L' := [some (.ref a0), none, none, some (.int a3), some (.int v36), some (.int v37), some (.int v15), some (.int v39), none]) ⟨rfl, ⟨rfl, ⟨rfl, ⟨rfl, ⟨rfl, ⟨rfl, trivial⟩⟩⟩⟩⟩⟩ (ih28 v36 v37 v39 h)
              obtain ⟨t40, f41⟩ := br_e h
              refine g_if_eq C tb_X11_game_1_ok (i := 26) 135 rfl rfl (fun c => ?_) (fun c => ?_)
              · have h := t40 c
                exact g_less (L' := [some (.ref a0), none, none, some (.int a3), some (.int v24), some (.int v25), some (.int v15), some (.int v26), none]) ⟨rfl, ⟨rfl, ⟨rfl, ⟨rfl, ⟨rfl, ⟨rfl, trivial⟩⟩⟩⟩⟩⟩ (J135 v24 v25 h)
              · have h := f41 c
                refine g_iload C tb_X11_game_1_ok (i := 27) rfl rfl ?_
                obtain ⟨j43, ej43, h⟩ := jn_e h
                have J132 : ∀ (v42 : Int32), j43 v42 = some out → GG g x 9 Q 3 18 y M11 132 [some (.ref a0), none, none, some (.int a3), some (.int v24), some (.int v42), some (.int v15), some (.int v26), none] [] := by
                  intro v42 h; subst ej43
                  obtain ⟨v44, ev44⟩ : ∃ w : Int32, w = v24 + (1 : Int32) := ⟨_, rfl⟩
                  have h := lt_e ev44 h
                  refine g_iincv C tb_X11_game_1_ok (i := 35) (1 : Int32) ev44 rfl rfl k_iconstv_1 rfl rfl ?_
                  exact g_less (L' := [some (.ref a0), none, none, some (.int a3), some (.int v44), some (.int v42), some (.int v15), some (.int v26), none]) ⟨rfl, ⟨rfl, ⟨rfl, ⟨rfl, ⟨rfl, ⟨rfl, trivial⟩⟩⟩⟩⟩⟩ (J135 v44 v42 h)
                obtain ⟨t45, f46⟩ := br_e h
                refine g_if_ne C tb_X11_game_1_ok (i := 28) 132 rfl rfl (fun c => ?_) (fun c => ?_)
                · have h := f46 c
                  exact g_less (L' := [some (.ref a0), none, none, some (.int a3), some (.int v24), some (.int v25), some (.int v15), some (.int v26), none]) ⟨rfl, ⟨rfl, ⟨rfl, ⟨rfl, ⟨rfl, ⟨rfl, trivial⟩⟩⟩⟩⟩⟩ (J132 v25 h)
                · have h := t45 c
                  refine g_bipushv C tb_X11_game_1_ok (i := 29) 10 rfl k_bipushv_10 ?_
                  refine g_iload C tb_X11_game_1_ok (i := 30) rfl rfl ?_
                  refine g_imul C tb_X11_game_1_ok (i := 31) rfl ?_
                  refine g_iload C tb_X11_game_1_ok (i := 32) rfl rfl ?_
                  refine g_iadd C tb_X11_game_1_ok (i := 33) rfl ?_
                  refine g_topi (fun v47 ev47 => ?_)
                  have h := lt_e ev47 h
                  refine g_istore C tb_X11_game_1_ok (i := 34) rfl rfl rfl ?_
                  exact g_less (L' := [some (.ref a0), none, none, some (.int a3), some (.int v24), some (.int v47), some (.int v15), some (.int v26), none]) ⟨rfl, ⟨rfl, ⟨rfl, ⟨rfl, ⟨rfl, ⟨rfl, trivial⟩⟩⟩⟩⟩⟩ (J132 v47 h)
            obtain ⟨j48, ej48, h⟩ := jn_e h
            have J109 : ∀ (_u : Unit), j48 _u = some out → GG g x 9 Q 3 18 y M11 109 [some (.ref a0), none, none, some (.int a3), some (.int v24), some (.int v25), some (.int v15), some (.int v26), none] [] := by
              intro _u h; subst ej48
              refine g_iconstv C tb_X11_game_1_ok (i := 23) 0 rfl k_iconstv_0 ?_
              exact g_less (L' := [some (.ref a0), none, none, some (.int a3), some (.int v24), some (.int v25), some (.int v15), some (.int v26), none]) ⟨rfl, ⟨rfl, ⟨rfl, ⟨rfl, ⟨rfl, ⟨rfl, trivial⟩⟩⟩⟩⟩⟩ (J110 (0 : Int32) h)
            obtain ⟨t49, f50⟩ := br_e h
            refine g_icmp_lt C tb_X11_game_1_ok (i := 7) 109 rfl rfl (fun c => ?_) (fun c => ?_)
            · have h := t49 c
              exact g_less (L' := [some (.ref a0), none, none, some (.int a3), some (.int v24), some (.int v25), some (.int v15), some (.int v26), none]) ⟨rfl, ⟨rfl, ⟨rfl, ⟨rfl, ⟨rfl, ⟨rfl, trivial⟩⟩⟩⟩⟩⟩ (J109 () h)
            · have h := f50 c
              refine g_aload_n C tb_X11_game_1_ok (i := 8) rfl rfl ?_
              refine g_iconstv C tb_X11_game_1_ok (i := 9) 1 rfl k_iconstv_1 ?_
              refine g_iload C tb_X11_game_1_ok (i := 10) rfl rfl ?_
              refine g_iload C tb_X11_game_1_ok (i := 11) rfl rfl ?_
              obtain ⟨r51, er51, h⟩ := cp_e h
              refine g_callV0 C tb_X11_game_1_ok (i := 12) [.int (1 : Int32), .int v15, .int v26] rfl mw_X11_gainAt mv_X11_gainAt ml_X11_330 k1 rfl rfl rfl rfl (w_X11_gainAt C.G y a0 (1 : Int32) v15 v26 M11) (pm_s er51) rfl rfl rfl ?_
              refine g_aload_n C tb_X11_game_1_ok (i := 13) rfl rfl ?_
              refine g_iconstv C tb_X11_game_1_ok (i := 14) 1 rfl k_iconstv_1 ?_
              refine g_iload C tb_X11_game_1_ok (i := 15) rfl rfl ?_
              refine g_iconstv C tb_X11_game_1_ok (i := 16) 1 rfl k_iconstv_1 ?_
              refine g_iload C tb_X11_game_1_ok (i := 17) rfl rfl ?_
              refine g_isub C tb_X11_game_1_ok (i := 18) rfl ?_
              obtain ⟨r52, er52, h⟩ := cp_e h
              refine g_callV0 C tb_X11_game_1_ok (i := 19) [.int (1 : Int32), .int v15, .int ((1 : Int32) - v26)] rfl mw_X11_gainAt mv_X11_gainAt ml_X11_330 k1 rfl rfl rfl rfl (w_X11_gainAt C.G y a0 (1 : Int32) v15 ((1 : Int32) - v26) M11) (pm_s er52) rfl rfl rfl ?_
              obtain ⟨t53, f54⟩ := br_e h
              refine g_icmp_lt C tb_X11_game_1_ok (i := 20) 109 rfl rfl (fun c => ?_) (fun c => ?_)
              · have h := t53 c
                exact g_less (L' := [some (.ref a0), none, none, some (.int a3), some (.int v24), some (.int v25), some (.int v15), some (.int v26), none]) ⟨rfl, ⟨rfl, ⟨rfl, ⟨rfl, ⟨rfl, ⟨rfl, trivial⟩⟩⟩⟩⟩⟩ (J109 () h)
              · have h := f54 c
                refine g_iconstv C tb_X11_game_1_ok (i := 21) 1 rfl k_iconstv_1 ?_
                refine g_goto C tb_X11_game_1_ok (i := 22) 110 rfl rfl ?_
                exact g_less (L' := [some (.ref a0), none, none, some (.int a3), some (.int v24), some (.int v25), some (.int v15), some (.int v26), none]) ⟨rfl, ⟨rfl, ⟨rfl, ⟨rfl, ⟨rfl, ⟨rfl, trivial⟩⟩⟩⟩⟩⟩ (J110 (1 : Int32) h)
  · have h := t8 c
    cases h
    exact g_throw (T2 := []) C tb_X11_game_0_ok (i0 := 13) (i1 := 14) (i2 := 15) (i3 := 16) (e := 1) R tw_X11_96_98 rfl rfl rfl rfl rfl rfl rfl
def f_X3_draw (y : Lay) (a0 : Nat) (a1 : Int32) (M : Mem) : Option (Int32 × Mem) := gK y a0 (0, 3) (lt (wI M a0 0 (((M.1 a0 0) * (1103515245 : Int32)) + (12345 : Int32))) fun (M2 : Mem) => lt ((((M2.1 a0 0).toUInt32 >>> ((16 : Int32).toUInt32 &&& Int32.toUInt32 31)).toInt32) &&& (32767 : Int32)) fun (v3 : Int32) => jn (fun (v4 : Int32) => some (v4, M2)) fun j5 => br (a1 ≤ 0) (j5 (0 : Int32)) (gd (¬ a1 = 0) (j5 (v3 - v3 / a1 * a1))))
theorem w_X3_draw {g : GX} {l : Launch} (hG : GF g l) (y : Lay) (a0 : Nat) (a1 : Int32) (M : Mem) : C0 g l yX3_draw cX3_draw 3 (some .int) 0 y [.ref a0, .int a1] M (f_X3_draw y a0 a1 M) := by
  refine C0_of hG (by decide) [some (.ref a0), some (.int a1), none] rfl rfl (fun out h x Q C R => ?_)
  unfold f_X3_draw at h
  refine g_aload_n C tb_X3_draw_0_ok (i := 0) rfl rfl ?_
  refine g_aload_n C tb_X3_draw_0_ok (i := 1) rfl rfl ?_
  obtain ⟨k1, h⟩ := gK_e h
  refine g_getI C tb_X3_draw_0_ok (i := 2) rfl fl_X3_7 rfl k1 ?_
  refine g_ldcI C tb_X3_draw_0_ok (i := 3) rfl cl_X3_13 ?_
  refine g_imul C tb_X3_draw_0_ok (i := 4) rfl ?_
  refine g_sipushv C tb_X3_draw_0_ok (i := 5) 12345 rfl k_sipushv_12345 ?_
  refine g_iadd C tb_X3_draw_0_ok (i := 6) rfl ?_
  refine g_putI C tb_X3_draw_0_ok (i := 7) rfl fl_X3_7 ft_3_0 rfl k1 ?_
  refine g_mem (fun M2 eM2 => ?_)
  have h := lt_e eM2 h
  refine g_aload_n C tb_X3_draw_0_ok (i := 8) rfl rfl ?_
  refine g_getI C tb_X3_draw_0_ok (i := 9) rfl fl_X3_7 rfl k1 ?_
  refine g_bipushv C tb_X3_draw_0_ok (i := 10) 16 rfl k_bipushv_16 ?_
  refine g_iushr C tb_X3_draw_0_ok (i := 11) rfl ?_
  refine g_sipushv C tb_X3_draw_0_ok (i := 12) 32767 rfl k_sipushv_32767 ?_
  refine g_iand C tb_X3_draw_0_ok (i := 13) rfl ?_
  refine g_topi (fun v3 ev3 => ?_)
  have h := lt_e ev3 h
  refine g_istore_n C tb_X3_draw_0_ok (i := 14) rfl rfl rfl ?_
  refine g_iload_n C tb_X3_draw_0_ok (i := 15) rfl rfl ?_
  obtain ⟨j5, ej5, h⟩ := jn_e h
  have J38 : ∀ (v4 : Int32), j5 v4 = some out → GG g x 3 Q 0 0 y M2 38 [none, none, none] [.int v4] := by
    intro v4 h; subst ej5
    cases h
    exact g_iret0 C R tb_X3_draw_0_ok (i := 22) rfl
  obtain ⟨t6, f7⟩ := br_e h
  refine g_if_le C tb_X3_draw_0_ok (i := 16) 37 rfl rfl (fun c => ?_) (fun c => ?_)
  · have h := t6 c
    refine g_iconstv C tb_X3_draw_0_ok (i := 21) 0 rfl k_iconstv_0 ?_
    exact g_less (L' := [none, none, none]) trivial (J38 (0 : Int32) h)
  · have h := f7 c
    refine g_iload_n C tb_X3_draw_0_ok (i := 17) rfl rfl ?_
    refine g_iload_n C tb_X3_draw_0_ok (i := 18) rfl rfl ?_
    obtain ⟨n8, h⟩ := gd_e h
    refine g_irem C tb_X3_draw_0_ok (i := 19) rfl n8 ?_
    refine g_goto C tb_X3_draw_0_ok (i := 20) 38 rfl rfl ?_
    exact g_less (L' := [none, none, none]) trivial (J38 (v3 - v3 / a1 * a1) h)
def f_X11_drawAhead (y : Lay) (a0 : Nat) (M : Mem) : Option (Int32 × Mem) := gK y a0 (0, 11) (gN (y.2.1 a0 7) (gK y (y.2.1 a0 7) (0, 3) (c0 (f_X3_draw y (y.2.1 a0 7) (5 : Int32) M) fun (r4 : Int32) (M5 : Mem) => jn (fun (M6 : Mem) => some (0, M6)) fun j7 => br (r4 < (0 : Int32) ∨ (2 : Int32) < r4) (j7 M5) (br (r4 = (0 : Int32)) (gN (y.2.1 a0 5) (gN (y.2.1 a0 1) (gK y (y.2.1 a0 1) (0, 1) (cp (f_X1_cells y (y.2.1 a0 1) M5) fun (r13 : Int32) => c0 (f_X3_draw y (y.2.1 a0 7) r13 M5) fun (r14 : Int32) (M15 : Mem) => gK y (y.2.1 a0 5) (0, 8) (c0 (f_X8_addBlue y (y.2.1 a0 5) r14 (20 : Int32) M15) fun (r17 : Int32) (M18 : Mem) => j7 M18))))) (br (r4 = (1 : Int32)) (gN (y.2.1 a0 1) (gK y (y.2.1 a0 1) (0, 1) (br ((M5.1 (y.2.1 a0 1) 4) ≤ 0) (j7 M5) (c0 (f_X3_draw y (y.2.1 a0 7) (M5.1 (y.2.1 a0 1) 4) M5) fun (r25 : Int32) (M26 : Mem) => gN (y.2.1 a0 5) (cp (f_X1_cells y (y.2.1 a0 1) M26) fun (r28 : Int32) => c0 (f_X3_draw y (y.2.1 a0 7) r28 M26) fun (r29 : Int32) (M30 : Mem) => gK y (y.2.1 a0 5) (0, 8) (c0 (f_X8_setSpot y (y.2.1 a0 5) r25 r29 M30) fun (r32 : Int32) (M33 : Mem) => j7 M33)))))) (gN (y.2.1 a0 5) (gK y (y.2.1 a0 5) (0, 8) (c0 (f_X8_addKnobs y (y.2.1 a0 5) (5 : Int32) M5) fun (r38 : Int32) (M39 : Mem) => j7 M39))))))))
theorem w_X11_drawAhead {g : GX} {l : Launch} (hG : GF g l) (y : Lay) (a0 : Nat) (M : Mem) : C0 g l yX11_drawAhead cX11_drawAhead 2 none 2 y [.ref a0] M (f_X11_drawAhead y a0 M) := by
  refine C0_of hG (by decide) [some (.ref a0), none] rfl rfl (fun out h x Q C R => ?_)
  unfold f_X11_drawAhead at h
  refine g_aload_n C tb_X11_drawAhead_0_ok (i := 0) rfl rfl ?_
  obtain ⟨k1, h⟩ := gK_e h
  obtain ⟨n2, h⟩ := gN_e h
  refine g_getR C tb_X11_drawAhead_0_ok (i := 1) rfl fl_X11_66 rfl k1 n2 ?_
  refine g_iconstv C tb_X11_drawAhead_0_ok (i := 2) 5 rfl k_iconstv_5 ?_
  obtain ⟨k3, h⟩ := gK_e h
  obtain ⟨r4, M5, er4, h⟩ := c0_e h
  refine g_callV0 C tb_X11_drawAhead_0_ok (i := 3) [.int (5 : Int32)] rfl mw_X3_draw mv_X3_draw ml_X11_360 k3 rfl rfl rfl rfl (w_X3_draw C.G y (y.2.1 a0 7) (5 : Int32) M) er4 rfl rfl rfl ?_
  obtain ⟨j7, ej7, h⟩ := jn_e h
  have J123 : ∀ (M6 : Mem), j7 M6 = some out → GG g x 2 Q 0 0 y M6 123 [none, none] [] := by
    intro M6 h; subst ej7
    cases h
    exact g_vret0 C R tb_X11_drawAhead_1_ok (i := 3) rfl
  obtain ⟨t8, f9⟩ := br_e h
  by_cases hsw : r4 < (0 : Int32) ∨ (2 : Int32) < r4
  · have h := t8 hsw
    refine g_tableOut C tb_X11_drawAhead_0_ok (i := 4) 0 2 123 rfl hsw (by decide) rfl ?_
    exact g_less (L' := [none, none]) trivial (J123 M5 h)
  have h := f9 hsw
  obtain ⟨t19, f20⟩ := br_e h
  by_cases hs1000 : r4 = (0 : Int32)
  · have h := t19 hs1000
    refine g_tableIn C tb_X11_drawAhead_0_ok (i := 4) 0 36 28 rfl hs1000 (by decide) rfl ?_
    refine g_aload_n C tb_X11_drawAhead_0_ok (i := 5) rfl rfl ?_
    obtain ⟨n10, h⟩ := gN_e h
    refine g_getR C tb_X11_drawAhead_0_ok (i := 6) rfl fl_X11_47 rfl k1 n10 ?_
    refine g_aload_n C tb_X11_drawAhead_0_ok (i := 7) rfl rfl ?_
    refine g_getR C tb_X11_drawAhead_0_ok (i := 8) rfl fl_X11_66 rfl k1 n2 ?_
    refine g_aload_n C tb_X11_drawAhead_0_ok (i := 9) rfl rfl ?_
    obtain ⟨n11, h⟩ := gN_e h
    refine g_getR C tb_X11_drawAhead_0_ok (i := 10) rfl fl_X11_19 rfl k1 n11 ?_
    obtain ⟨k12, h⟩ := gK_e h
    obtain ⟨r13, er13, h⟩ := cp_e h
    refine g_callV0 C tb_X11_drawAhead_0_ok (i := 11) [] rfl mw_X1_cells mv_X1_cells ml_X11_128 k12 rfl rfl rfl rfl (w_X1_cells C.G y (y.2.1 a0 1) M5) (pm_s er13) rfl rfl rfl ?_
    obtain ⟨r14, M15, er14, h⟩ := c0_e h
    refine g_callV0 C tb_X11_drawAhead_0_ok (i := 12) [.int r13] rfl mw_X3_draw mv_X3_draw ml_X11_360 k3 rfl rfl rfl rfl (w_X3_draw C.G y (y.2.1 a0 7) r13 M5) er14 rfl rfl rfl ?_
    refine g_bipushv C tb_X11_drawAhead_0_ok (i := 13) 20 rfl k_bipushv_20 ?_
    obtain ⟨k16, h⟩ := gK_e h
    obtain ⟨r17, M18, er17, h⟩ := c0_e h
    refine g_callV0 C tb_X11_drawAhead_0_ok (i := 14) [.int r14, .int (20 : Int32)] rfl mw_X8_addBlue mv_X8_addBlue ml_X11_363 k16 rfl rfl rfl rfl (w_X8_addBlue C.G y (y.2.1 a0 5) r14 (20 : Int32) M15) er17 rfl rfl rfl ?_
    refine g_goto C tb_X11_drawAhead_0_ok (i := 15) 123 rfl rfl ?_
    exact g_less (L' := [none, none]) trivial (J123 M18 h)
  have h := f20 hs1000
  obtain ⟨t34, f35⟩ := br_e h
  by_cases hs1001 : r4 = (1 : Int32)
  · have h := t34 hs1001
    refine g_tableIn C tb_X11_drawAhead_0_ok (i := 4) 1 62 54 rfl hs1001 (by decide) rfl ?_
    refine g_aload_n C tb_X11_drawAhead_0_ok (i := 16) rfl rfl ?_
    obtain ⟨n21, h⟩ := gN_e h
    refine g_getR C tb_X11_drawAhead_0_ok (i := 17) rfl fl_X11_19 rfl k1 n21 ?_
    obtain ⟨k22, h⟩ := gK_e h
    refine g_getI C tb_X11_drawAhead_0_ok (i := 18) rfl fl_X11_134 rfl k22 ?_
    obtain ⟨t23, f24⟩ := br_e h
    refine g_if_le C tb_X11_drawAhead_0_ok (i := 19) 123 rfl rfl (fun c => ?_) (fun c => ?_)
    · have h := t23 c
      exact g_less (L' := [none, none]) trivial (J123 M5 h)
    · have h := f24 c
      refine g_aload_n C tb_X11_drawAhead_0_ok (i := 20) rfl rfl ?_
      refine g_getR C tb_X11_drawAhead_0_ok (i := 21) rfl fl_X11_66 rfl k1 n2 ?_
      refine g_aload_n C tb_X11_drawAhead_0_ok (i := 22) rfl rfl ?_
      refine g_getR C tb_X11_drawAhead_0_ok (i := 23) rfl fl_X11_19 rfl k1 n21 ?_
      refine g_getI C tb_X11_drawAhead_0_ok (i := 24) rfl fl_X11_134 rfl k22 ?_
      obtain ⟨r25, M26, er25, h⟩ := c0_e h
      refine g_callV0 C tb_X11_drawAhead_0_ok (i := 25) [.int (M5.1 (y.2.1 a0 1) 4)] rfl mw_X3_draw mv_X3_draw ml_X11_360 k3 rfl rfl rfl rfl (w_X3_draw C.G y (y.2.1 a0 7) (M5.1 (y.2.1 a0 1) 4) M5) er25 rfl rfl rfl ?_
      refine g_istore_n C tb_X11_drawAhead_0_ok (i := 26) rfl rfl rfl ?_
      refine g_aload_n C tb_X11_drawAhead_0_ok (i := 27) rfl rfl ?_
      obtain ⟨n27, h⟩ := gN_e h
      refine g_getR C tb_X11_drawAhead_0_ok (i := 28) rfl fl_X11_47 rfl k1 n27 ?_
      refine g_iload_n C tb_X11_drawAhead_0_ok (i := 29) rfl rfl ?_
      refine g_aload_n C tb_X11_drawAhead_0_ok (i := 30) rfl rfl ?_
      refine g_getR C tb_X11_drawAhead_0_ok (i := 31) rfl fl_X11_66 rfl k1 n2 ?_
      refine g_aload_n C tb_X11_drawAhead_0_ok (i := 32) rfl rfl ?_
      refine g_getR C tb_X11_drawAhead_0_ok (i := 33) rfl fl_X11_19 rfl k1 n21 ?_
      obtain ⟨r28, er28, h⟩ := cp_e h
      refine g_callV0 C tb_X11_drawAhead_0_ok (i := 34) [] rfl mw_X1_cells mv_X1_cells ml_X11_128 k22 rfl rfl rfl rfl (w_X1_cells C.G y (y.2.1 a0 1) M26) (pm_s er28) rfl rfl rfl ?_
      obtain ⟨r29, M30, er29, h⟩ := c0_e h
      refine g_callV0 C tb_X11_drawAhead_0_ok (i := 35) [.int r28] rfl mw_X3_draw mv_X3_draw ml_X11_360 k3 rfl rfl rfl rfl (w_X3_draw C.G y (y.2.1 a0 7) r28 M26) er29 rfl rfl rfl ?_
      obtain ⟨k31, h⟩ := gK_e h
      obtain ⟨r32, M33, er32, h⟩ := c0_e h
      refine g_callV0 C tb_X11_drawAhead_0_ok (i := 36) [.int r25, .int r29] rfl mw_X8_setSpot mv_X8_setSpot ml_X11_231 k31 rfl rfl rfl rfl (w_X8_setSpot C.G y (y.2.1 a0 5) r25 r29 M30) er32 rfl rfl rfl ?_
      refine g_goto C tb_X11_drawAhead_0_ok (i := 37) 123 rfl rfl ?_
      exact g_less (L' := [none, none]) trivial (J123 M33 h)
  have h := f35 hs1001
  have hlast : r4 = (2 : Int32) := i32_sw (l := [(0 : Int32), (1 : Int32)]) (n := 2) hsw (by decide +kernel) (i32_ne [(0 : Int32), (1 : Int32)] rfl (by intro c hc; simp only [List.mem_cons, List.not_mem_nil, or_false] at hc; rcases hc with rfl | rfl <;> assumption))
  refine g_tableIn C tb_X11_drawAhead_0_ok (i := 4) 2 112 104 rfl hlast (by decide) rfl ?_
  refine g_aload_n C tb_X11_drawAhead_0_ok (i := 38) rfl rfl ?_
  obtain ⟨n36, h⟩ := gN_e h
  refine g_getR C tb_X11_drawAhead_0_ok (i := 39) rfl fl_X11_47 rfl k1 n36 ?_
  refine g_iconstv C tb_X11_drawAhead_1_ok (i := 0) 5 rfl k_iconstv_5 ?_
  obtain ⟨k37, h⟩ := gK_e h
  obtain ⟨r38, M39, er38, h⟩ := c0_e h
  refine g_callV0 C tb_X11_drawAhead_1_ok (i := 1) [.int (5 : Int32)] rfl mw_X8_addKnobs mv_X8_addKnobs ml_X11_235 k37 rfl rfl rfl rfl (w_X8_addKnobs C.G y (y.2.1 a0 5) (5 : Int32) M5) er38 rfl rfl rfl ?_
  refine g_goto C tb_X11_drawAhead_1_ok (i := 2) 123 rfl rfl ?_
  exact g_less (L' := [none, none]) trivial (J123 M39 h)
def f_X11_skies (y : Lay) (a0 : Nat) (a1 : Int32) (a2 : Int32) (a3 : Int32) (M : Mem) : Option (Nat × Int32 × Mem) := gK y a0 (0, 11) (cx (f_X11_needWhat y a0 a3 (2 : Int32) M) fun (r2 : Int32) (M3 : Mem) => cx (f_X11_needWithin y a0 a2 (0 : Int32) (40 : Int32) M3) fun (r4 : Int32) (M5 : Mem) => c0 (f_X11_lookAhead y a0 (0 : Int32) M5) fun (r6 : Int32) (M7 : Mem) => gN (y.2.1 a0 7) (gK y (y.2.1 a0 7) (0, 3) (lt (wI M7 (y.2.1 a0 7) 0 a1) fun (M10 : Mem) => fixN (fun _ _ => none) (fun (s13 : Int32 → Mem → Option (Nat × Int32 × Mem)) (v11 : Int32) (M12 : Mem) => br (a2 ≤ v11) (br (a3 = (0 : Int32)) (gN (y.2.1 a0 5) (gK y (y.2.1 a0 5) (0, 8) (gN (y.2.1 a0 3) (gK y (y.2.1 a0 3) (0, 4) (gN (y.2.1 (y.2.1 a0 3) 0) (gK y (y.2.1 (y.2.1 a0 3) 0) (0, 8) (some (0, ((M12.1 (y.2.1 a0 5) 10) - (M12.1 (y.2.1 (y.2.1 a0 3) 0) 10)), M12)))))))) (br (a3 = (1 : Int32)) (gN (y.2.1 a0 5) (gK y (y.2.1 a0 5) (0, 8) (cp (f_X8_allBlue y (y.2.1 a0 5) M12) fun (r27 : Int32) => some (0, r27, M12)))) (gN (y.2.1 a0 5) (gK y (y.2.1 a0 5) (0, 8) (some (0, (M12.1 (y.2.1 a0 5) 9), M12)))))) (c0 (f_X11_drawAhead y a0 M12) fun (r32 : Int32) (M33 : Mem) => gN (y.2.1 a0 5) (gK y (y.2.1 a0 5) (0, 8) (c0 (f_X8_passDay y (y.2.1 a0 5) M33) fun (r36 : Int32) (M37 : Mem) => lt (v11 + (1 : Int32)) fun (v38 : Int32) => s13 v38 M37)))) FUEL (0 : Int32) M10)))
theorem w_X11_skies {g : GX} {l : Launch} (hG : GF g l) (y : Lay) (a0 : Nat) (a1 : Int32) (a2 : Int32) (a3 : Int32) (M : Mem) : C1 g l yX11_skies cX11_skies 5 (some .int) 6 2 12 y [.ref a0, .int a1, .int a2, .int a3] M (f_X11_skies y a0 a1 a2 a3 M) := by
  refine C1_of hG (by decide) [some (.ref a0), some (.int a1), some (.int a2), some (.int a3), none] rfl rfl (fun out h x Q C R => ?_)
  unfold f_X11_skies at h
  refine g_aload_n C tb_X11_skies_0_ok (i := 0) rfl rfl ?_
  refine g_iload_n C tb_X11_skies_0_ok (i := 1) rfl rfl ?_
  refine g_iconstv C tb_X11_skies_0_ok (i := 2) 2 rfl k_iconstv_2 ?_
  obtain ⟨k1, h⟩ := gK_e h
  refine g_callV1 C tb_X11_skies_0_ok (i := 3) R [.int a3, .int (2 : Int32)] rfl mw_X11_needWhat mv_X11_needWhat ml_X11_255 k1 rfl rfl rfl rfl (w_X11_needWhat C.G y a0 a3 (2 : Int32) M) h rfl rfl rfl (fun r2 M3 h => ?_)
  refine g_aload_n C tb_X11_skies_0_ok (i := 4) rfl rfl ?_
  refine g_iload_n C tb_X11_skies_0_ok (i := 5) rfl rfl ?_
  refine g_iconstv C tb_X11_skies_0_ok (i := 6) 0 rfl k_iconstv_0 ?_
  refine g_bipushv C tb_X11_skies_0_ok (i := 7) 40 rfl k_bipushv_40 ?_
  refine g_callV1 C tb_X11_skies_0_ok (i := 8) R [.int a2, .int (0 : Int32), .int (40 : Int32)] rfl mw_X11_needWithin mv_X11_needWithin ml_X11_248 k1 rfl rfl rfl rfl (w_X11_needWithin C.G y a0 a2 (0 : Int32) (40 : Int32) M3) h rfl rfl rfl (fun r4 M5 h => ?_)
  refine g_aload_n C tb_X11_skies_0_ok (i := 9) rfl rfl ?_
  refine g_iconstv C tb_X11_skies_0_ok (i := 10) 0 rfl k_iconstv_0 ?_
  obtain ⟨r6, M7, er6, h⟩ := c0_e h
  refine g_callV0 C tb_X11_skies_0_ok (i := 11) [.int (0 : Int32)] rfl mw_X11_lookAhead mv_X11_lookAhead ml_X11_252 k1 rfl rfl rfl rfl (w_X11_lookAhead C.G y a0 (0 : Int32) M5) er6 rfl rfl rfl ?_
  refine g_aload_n C tb_X11_skies_0_ok (i := 12) rfl rfl ?_
  obtain ⟨n8, h⟩ := gN_e h
  refine g_getR C tb_X11_skies_0_ok (i := 13) rfl fl_X11_66 rfl k1 n8 ?_
  refine g_iload_n C tb_X11_skies_0_ok (i := 14) rfl rfl ?_
  obtain ⟨k9, h⟩ := gK_e h
  refine g_putI C tb_X11_skies_0_ok (i := 15) rfl fl_X11_334 ft_3_0 rfl k9 ?_
  refine g_mem (fun M10 eM10 => ?_)
  have h := lt_e eM10 h
  refine g_iconstv C tb_X11_skies_0_ok (i := 16) 0 rfl k_iconstv_0 ?_
  refine g_istore C tb_X11_skies_0_ok (i := 17) rfl rfl rfl ?_
  refine g_less (L' := [some (.ref a0), none, some (.int a2), some (.int a3), some (.int (0 : Int32))]) ⟨rfl, ⟨rfl, ⟨rfl, ⟨rfl, trivial⟩⟩⟩⟩ ?_
  refine fix_i (P := fun (f : Int32 → Mem → Option (Nat × Int32 × Mem)) => ∀ (v11 : Int32) (M12 : Mem), f v11 M12 = some out → GG g x 5 Q 2 12 y M12 30 [some (.ref a0), none, some (.int a2), some (.int a3), some (.int v11)] []) ?_ ?_ _ (0 : Int32) M10 h
  · intro v11 M12 h; exact (nn_e h).elim
  · intro s13 ih14 v11 M12 h
    refine g_iload C tb_X11_skies_0_ok (i := 18) rfl rfl ?_
    refine g_iload_n C tb_X11_skies_0_ok (i := 19) rfl rfl ?_
    obtain ⟨t15, f16⟩ := br_e h
    refine g_icmp_ge C tb_X11_skies_0_ok (i := 20) 53 rfl rfl (fun c => ?_) (fun c => ?_)
    · have h := t15 c
      refine g_iload_n C tb_X11_skies_0_ok (i := 28) rfl rfl ?_
      obtain ⟨t23, f24⟩ := br_e h
      by_cases hs1000 : a3 = (0 : Int32)
      · have h := t23 hs1000
        refine g_lookup C tb_X11_skies_0_ok (i := 29) 80 26 rfl (by decide) (by rw [hs1000]; decide) rfl ?_
        refine g_aload_n C tb_X11_skies_0_ok (i := 30) rfl rfl ?_
        obtain ⟨n17, h⟩ := gN_e h
        refine g_getR C tb_X11_skies_0_ok (i := 31) rfl fl_X11_47 rfl k1 n17 ?_
        obtain ⟨k18, h⟩ := gK_e h
        refine g_getI C tb_X11_skies_0_ok (i := 32) rfl fl_X11_149 rfl k18 ?_
        refine g_aload_n C tb_X11_skies_0_ok (i := 33) rfl rfl ?_
        obtain ⟨n19, h⟩ := gN_e h
        refine g_getR C tb_X11_skies_0_ok (i := 34) rfl fl_X11_37 rfl k1 n19 ?_
        obtain ⟨k20, h⟩ := gK_e h
        obtain ⟨n21, h⟩ := gN_e h
        refine g_getR C tb_X11_skies_0_ok (i := 35) rfl fl_X11_53 rfl k20 n21 ?_
        obtain ⟨k22, h⟩ := gK_e h
        refine g_getI C tb_X11_skies_0_ok (i := 36) rfl fl_X11_149 rfl k22 ?_
        refine g_isub C tb_X11_skies_0_ok (i := 37) rfl ?_
        cases h
        exact g_iret1 C R rfl rfl tb_X11_skies_0_ok (i := 38) rfl
      have h := f24 hs1000
      obtain ⟨t28, f29⟩ := br_e h
      by_cases hs1001 : a3 = (1 : Int32)
      · have h := t28 hs1001
        refine g_lookup C tb_X11_skies_0_ok (i := 29) 99 45 rfl (by decide) (by rw [hs1001]; decide) rfl ?_
        refine g_aload_n C tb_X11_skies_0_ok (i := 39) rfl rfl ?_
        obtain ⟨n25, h⟩ := gN_e h
        refine g_getR C tb_X11_skies_1_ok (i := 0) rfl fl_X11_47 rfl k1 n25 ?_
        obtain ⟨k26, h⟩ := gK_e h
        obtain ⟨r27, er27, h⟩ := cp_e h
        refine g_callV0 C tb_X11_skies_1_ok (i := 1) [] rfl mw_X8_allBlue mv_X8_allBlue ml_X11_158 k26 rfl rfl rfl rfl (w_X8_allBlue C.G y (y.2.1 a0 5) M12) (pm_s er27) rfl rfl rfl ?_
        cases h
        exact g_iret1 C R rfl rfl tb_X11_skies_1_ok (i := 2) rfl
      have h := f29 hs1001
      refine g_lookup C tb_X11_skies_0_ok (i := 29) 107 53 rfl (by decide) (lk_df (by simp only [List.forall_mem_cons, List.not_mem_nil, false_implies, implies_true, and_true]; exact ⟨fun e => hs1000 (Int32.toInt_inj.mp e.symm), fun e => hs1001 (Int32.toInt_inj.mp e.symm)⟩)) rfl ?_
      refine g_aload_n C tb_X11_skies_1_ok (i := 3) rfl rfl ?_
      obtain ⟨n30, h⟩ := gN_e h
      refine g_getR C tb_X11_skies_1_ok (i := 4) rfl fl_X11_47 rfl k1 n30 ?_
      obtain ⟨k31, h⟩ := gK_e h
      refine g_getI C tb_X11_skies_1_ok (i := 5) rfl fl_X11_140 rfl k31 ?_
      cases h
      exact g_iret1 C R rfl rfl tb_X11_skies_1_ok (i := 6) rfl
    · have h := f16 c
      refine g_aload_n C tb_X11_skies_0_ok (i := 21) rfl rfl ?_
      obtain ⟨r32, M33, er32, h⟩ := c0_e h
      refine g_callV0 C tb_X11_skies_0_ok (i := 22) [] rfl mw_X11_drawAhead mv_X11_drawAhead ml_X11_337 k1 rfl rfl rfl rfl (w_X11_drawAhead C.G y a0 M12) er32 rfl rfl rfl ?_
      refine g_aload_n C tb_X11_skies_0_ok (i := 23) rfl rfl ?_
      obtain ⟨n34, h⟩ := gN_e h
      refine g_getR C tb_X11_skies_0_ok (i := 24) rfl fl_X11_47 rfl k1 n34 ?_
      obtain ⟨k35, h⟩ := gK_e h
      obtain ⟨r36, M37, er36, h⟩ := c0_e h
      refine g_callV0 C tb_X11_skies_0_ok (i := 25) [] rfl mw_X8_passDay mv_X8_passDay ml_X11_221 k35 rfl rfl rfl rfl (w_X8_passDay C.G y (y.2.1 a0 5) M33) er36 rfl rfl rfl ?_
      obtain ⟨v38, ev38⟩ : ∃ w : Int32, w = v11 + (1 : Int32) := ⟨_, rfl⟩
      have h := lt_e ev38 h
      refine g_iincv C tb_X11_skies_0_ok (i := 26) (1 : Int32) ev38 rfl rfl k_iconstv_1 rfl rfl ?_
      refine g_goto C tb_X11_skies_0_ok (i := 27) 30 rfl rfl ?_
      exact g_less (L' := [some (.ref a0), none, some (.int a2), some (.int a3), some (.int v38)]) ⟨rfl, ⟨rfl, ⟨rfl, ⟨rfl, trivial⟩⟩⟩⟩ (ih14 v38 M37 h)
def f_X12_begin (y : Lay) (a0 : Nat) (a1 : Int32) (M : Mem) : Option (Int32 × Mem) := gK y a0 (0, 12) (gN (y.2.1 a0 5) (gA y (y.2.1 a0 5) 1 a1 (lt (wI M (y.2.1 a0 5) a1.toNatClampNeg (3 : Int32)) fun (M4 : Mem) => gA y (y.2.1 a0 5) 1 (a1 + (1 : Int32)) (lt (wI M4 (y.2.1 a0 5) (a1 + (1 : Int32)).toNatClampNeg (3 : Int32)) fun (M6 : Mem) => gA y (y.2.1 a0 5) 1 (a1 + (2 : Int32)) (lt (wI M6 (y.2.1 a0 5) (a1 + (2 : Int32)).toNatClampNeg (0 : Int32)) fun (M8 : Mem) => gA y (y.2.1 a0 5) 1 (a1 + (3 : Int32)) (lt (wI M8 (y.2.1 a0 5) (a1 + (3 : Int32)).toNatClampNeg (20 : Int32)) fun (M10 : Mem) => gA y (y.2.1 a0 5) 1 (a1 + (4 : Int32)) (lt (wI M10 (y.2.1 a0 5) (a1 + (4 : Int32)).toNatClampNeg (2 : Int32)) fun (M12 : Mem) => gA y (y.2.1 a0 5) 1 (a1 + (5 : Int32)) (lt (wI M12 (y.2.1 a0 5) (a1 + (5 : Int32)).toNatClampNeg (60 : Int32)) fun (M14 : Mem) => fixN (fun _ _ => none) (fun (s17 : Int32 → Mem → Option (Int32 × Mem)) (v15 : Int32) (M16 : Mem) => br ((9 : Int32) ≤ v15) (some (0, M16)) (gA y (y.2.1 a0 5) 1 (a1 + v15) (lt (wI M16 (y.2.1 a0 5) (a1 + v15).toNatClampNeg (0 : Int32)) fun (M22 : Mem) => lt (v15 + (1 : Int32)) fun (v23 : Int32) => s17 v23 M22))) FUEL (6 : Int32) M14))))))))
theorem w_X12_begin {g : GX} {l : Launch} (hG : GF g l) (y : Lay) (a0 : Nat) (a1 : Int32) (M : Mem) : C0 g l yX12_begin cX12_begin 3 none 0 y [.ref a0, .int a1] M (f_X12_begin y a0 a1 M) := by
  refine C0_of hG (by decide) [some (.ref a0), some (.int a1), none] rfl rfl (fun out h x Q C R => ?_)
  unfold f_X12_begin at h
  refine g_aload_n C tb_X12_begin_0_ok (i := 0) rfl rfl ?_
  obtain ⟨k1, h⟩ := gK_e h
  obtain ⟨n2, h⟩ := gN_e h
  refine g_getR C tb_X12_begin_0_ok (i := 1) rfl fl_X12_40 rfl k1 n2 ?_
  refine g_iload_n C tb_X12_begin_0_ok (i := 2) rfl rfl ?_
  refine g_iconstv C tb_X12_begin_0_ok (i := 3) 3 rfl k_iconstv_3 ?_
  obtain ⟨b3, h⟩ := gA_e h
  refine g_iast C tb_X12_begin_0_ok (i := 4) rfl b3 ?_
  refine g_mem (fun M4 eM4 => ?_)
  have h := lt_e eM4 h
  refine g_aload_n C tb_X12_begin_0_ok (i := 5) rfl rfl ?_
  refine g_getR C tb_X12_begin_0_ok (i := 6) rfl fl_X12_40 rfl k1 n2 ?_
  refine g_iload_n C tb_X12_begin_0_ok (i := 7) rfl rfl ?_
  refine g_iconstv C tb_X12_begin_0_ok (i := 8) 1 rfl k_iconstv_1 ?_
  refine g_iadd C tb_X12_begin_0_ok (i := 9) rfl ?_
  refine g_iconstv C tb_X12_begin_0_ok (i := 10) 3 rfl k_iconstv_3 ?_
  obtain ⟨b5, h⟩ := gA_e h
  refine g_iast C tb_X12_begin_0_ok (i := 11) rfl b5 ?_
  refine g_mem (fun M6 eM6 => ?_)
  have h := lt_e eM6 h
  refine g_aload_n C tb_X12_begin_0_ok (i := 12) rfl rfl ?_
  refine g_getR C tb_X12_begin_0_ok (i := 13) rfl fl_X12_40 rfl k1 n2 ?_
  refine g_iload_n C tb_X12_begin_0_ok (i := 14) rfl rfl ?_
  refine g_iconstv C tb_X12_begin_0_ok (i := 15) 2 rfl k_iconstv_2 ?_
  refine g_iadd C tb_X12_begin_0_ok (i := 16) rfl ?_
  refine g_iconstv C tb_X12_begin_0_ok (i := 17) 0 rfl k_iconstv_0 ?_
  obtain ⟨b7, h⟩ := gA_e h
  refine g_iast C tb_X12_begin_0_ok (i := 18) rfl b7 ?_
  refine g_mem (fun M8 eM8 => ?_)
  have h := lt_e eM8 h
  refine g_aload_n C tb_X12_begin_0_ok (i := 19) rfl rfl ?_
  refine g_getR C tb_X12_begin_0_ok (i := 20) rfl fl_X12_40 rfl k1 n2 ?_
  refine g_iload_n C tb_X12_begin_0_ok (i := 21) rfl rfl ?_
  refine g_iconstv C tb_X12_begin_0_ok (i := 22) 3 rfl k_iconstv_3 ?_
  refine g_iadd C tb_X12_begin_0_ok (i := 23) rfl ?_
  refine g_bipushv C tb_X12_begin_0_ok (i := 24) 20 rfl k_bipushv_20 ?_
  obtain ⟨b9, h⟩ := gA_e h
  refine g_iast C tb_X12_begin_0_ok (i := 25) rfl b9 ?_
  refine g_mem (fun M10 eM10 => ?_)
  have h := lt_e eM10 h
  refine g_aload_n C tb_X12_begin_0_ok (i := 26) rfl rfl ?_
  refine g_getR C tb_X12_begin_0_ok (i := 27) rfl fl_X12_40 rfl k1 n2 ?_
  refine g_iload_n C tb_X12_begin_0_ok (i := 28) rfl rfl ?_
  refine g_iconstv C tb_X12_begin_0_ok (i := 29) 4 rfl k_iconstv_4 ?_
  refine g_iadd C tb_X12_begin_0_ok (i := 30) rfl ?_
  refine g_iconstv C tb_X12_begin_0_ok (i := 31) 2 rfl k_iconstv_2 ?_
  obtain ⟨b11, h⟩ := gA_e h
  refine g_iast C tb_X12_begin_0_ok (i := 32) rfl b11 ?_
  refine g_mem (fun M12 eM12 => ?_)
  have h := lt_e eM12 h
  refine g_aload_n C tb_X12_begin_0_ok (i := 33) rfl rfl ?_
  refine g_getR C tb_X12_begin_0_ok (i := 34) rfl fl_X12_40 rfl k1 n2 ?_
  refine g_iload_n C tb_X12_begin_0_ok (i := 35) rfl rfl ?_
  refine g_iconstv C tb_X12_begin_0_ok (i := 36) 5 rfl k_iconstv_5 ?_
  refine g_iadd C tb_X12_begin_0_ok (i := 37) rfl ?_
  refine g_bipushv C tb_X12_begin_0_ok (i := 38) 60 rfl k_bipushv_60 ?_
  obtain ⟨b13, h⟩ := gA_e h
  refine g_iast C tb_X12_begin_0_ok (i := 39) rfl b13 ?_
  refine g_mem (fun M14 eM14 => ?_)
  have h := lt_e eM14 h
  refine g_bipushv C tb_X12_begin_1_ok (i := 0) 6 rfl k_bipushv_6 ?_
  refine g_istore_n C tb_X12_begin_1_ok (i := 1) rfl rfl rfl ?_
  refine g_less (L' := [some (.ref a0), some (.int a1), some (.int (6 : Int32))]) ⟨rfl, ⟨rfl, ⟨rfl, trivial⟩⟩⟩ ?_
  refine fix_i (P := fun (f : Int32 → Mem → Option (Int32 × Mem)) => ∀ (v15 : Int32) (M16 : Mem), f v15 M16 = some out → GG g x 3 Q 0 0 y M16 57 [some (.ref a0), some (.int a1), some (.int v15)] []) ?_ ?_ _ (6 : Int32) M14 h
  · intro v15 M16 h; exact (nn_e h).elim
  · intro s17 ih18 v15 M16 h
    refine g_iload_n C tb_X12_begin_1_ok (i := 2) rfl rfl ?_
    refine g_bipushv C tb_X12_begin_1_ok (i := 3) 9 rfl k_bipushv_9 ?_
    obtain ⟨t19, f20⟩ := br_e h
    refine g_icmp_ge C tb_X12_begin_1_ok (i := 4) 78 rfl rfl (fun c => ?_) (fun c => ?_)
    · have h := t19 c
      cases h
      exact g_vret0 C R tb_X12_begin_1_ok (i := 14) rfl
    · have h := f20 c
      refine g_aload_n C tb_X12_begin_1_ok (i := 5) rfl rfl ?_
      refine g_getR C tb_X12_begin_1_ok (i := 6) rfl fl_X12_40 rfl k1 n2 ?_
      refine g_iload_n C tb_X12_begin_1_ok (i := 7) rfl rfl ?_
      refine g_iload_n C tb_X12_begin_1_ok (i := 8) rfl rfl ?_
      refine g_iadd C tb_X12_begin_1_ok (i := 9) rfl ?_
      refine g_iconstv C tb_X12_begin_1_ok (i := 10) 0 rfl k_iconstv_0 ?_
      obtain ⟨b21, h⟩ := gA_e h
      refine g_iast C tb_X12_begin_1_ok (i := 11) rfl b21 ?_
      refine g_mem (fun M22 eM22 => ?_)
      have h := lt_e eM22 h
      obtain ⟨v23, ev23⟩ : ∃ w : Int32, w = v15 + (1 : Int32) := ⟨_, rfl⟩
      have h := lt_e ev23 h
      refine g_iincv C tb_X12_begin_1_ok (i := 12) (1 : Int32) ev23 rfl rfl k_iconstv_1 rfl rfl ?_
      refine g_goto C tb_X12_begin_1_ok (i := 13) 57 rfl rfl ?_
      exact g_less (L' := [some (.ref a0), some (.int a1), some (.int v23)]) ⟨rfl, ⟨rfl, ⟨rfl, trivial⟩⟩⟩ (ih18 v23 M22 h)
def f_X12_init (y : Lay) (a0 : Nat) (M : Mem) : Option (Lay × Mem) := gd (y.2.2 + 2 ≤ 1000) (lt (psh y (4, 2)) fun (y2 : Lay) => lt (zM M (y.2.2 + 1)) fun (M3 : Mem) => gA y2 (y.2.2 + 1) 4 (0 : Int32) (lt (wF y2 (y.2.2 + 1) (0 : Int32).toNatClampNeg 1019) fun (y5 : Lay) => gA y5 (y.2.2 + 1) 4 (1 : Int32) (lt (wF y5 (y.2.2 + 1) (1 : Int32).toNatClampNeg 1020) fun (y7 : Lay) => gK y7 a0 (0, 12) (gN (y.2.2 + 1) (lt (wF y7 a0 0 (y.2.2 + 1)) fun (y10 : Lay) => gd (y10.2.2 + 2 ≤ 1000) (lt (psh y10 (4, 6)) fun (y12 : Lay) => lt (zM M3 (y10.2.2 + 1)) fun (M13 : Mem) => gA y12 (y10.2.2 + 1) 4 (0 : Int32) (lt (wF y12 (y10.2.2 + 1) (0 : Int32).toNatClampNeg 1021) fun (y15 : Lay) => gA y15 (y10.2.2 + 1) 4 (1 : Int32) (lt (wF y15 (y10.2.2 + 1) (1 : Int32).toNatClampNeg 1022) fun (y17 : Lay) => gA y17 (y10.2.2 + 1) 4 (2 : Int32) (lt (wF y17 (y10.2.2 + 1) (2 : Int32).toNatClampNeg 1023) fun (y19 : Lay) => gA y19 (y10.2.2 + 1) 4 (3 : Int32) (lt (wF y19 (y10.2.2 + 1) (3 : Int32).toNatClampNeg 1024) fun (y21 : Lay) => gA y21 (y10.2.2 + 1) 4 (4 : Int32) (lt (wF y21 (y10.2.2 + 1) (4 : Int32).toNatClampNeg 1025) fun (y23 : Lay) => gA y23 (y10.2.2 + 1) 4 (5 : Int32) (lt (wF y23 (y10.2.2 + 1) (5 : Int32).toNatClampNeg 1026) fun (y25 : Lay) => gK y25 a0 (0, 12) (gN (y10.2.2 + 1) (lt (wF y25 a0 1 (y10.2.2 + 1)) fun (y28 : Lay) => gd (y28.2.2 + 2 ≤ 1000) (lt (psh y28 (4, 4)) fun (y30 : Lay) => lt (zM M13 (y28.2.2 + 1)) fun (M31 : Mem) => gA y30 (y28.2.2 + 1) 4 (0 : Int32) (lt (wF y30 (y28.2.2 + 1) (0 : Int32).toNatClampNeg 1021) fun (y33 : Lay) => gA y33 (y28.2.2 + 1) 4 (1 : Int32) (lt (wF y33 (y28.2.2 + 1) (1 : Int32).toNatClampNeg 1022) fun (y35 : Lay) => gA y35 (y28.2.2 + 1) 4 (2 : Int32) (lt (wF y35 (y28.2.2 + 1) (2 : Int32).toNatClampNeg 1023) fun (y37 : Lay) => gA y37 (y28.2.2 + 1) 4 (3 : Int32) (lt (wF y37 (y28.2.2 + 1) (3 : Int32).toNatClampNeg 1024) fun (y39 : Lay) => gK y39 a0 (0, 12) (gN (y28.2.2 + 1) (lt (wF y39 a0 2 (y28.2.2 + 1)) fun (y42 : Lay) => gK y42 a0 (0, 12) (gN (y42.2.1 a0 1) (lt (wR M31 a0 3 (y42.2.1 a0 1)) fun (M45 : Mem) => gd (y42.2.2 + 2 ≤ 1000) (lt (psh y42 (1, 18)) fun (y47 : Lay) => lt (zM M45 (y42.2.2 + 1)) fun (M48 : Mem) => gK y47 a0 (0, 12) (gN (y42.2.2 + 1) (lt (wF y47 a0 5 (y42.2.2 + 1)) fun (y51 : Lay) => gd (y51.2.2 + 2 ≤ 1000) (lt (psh y51 (1, 60)) fun (y53 : Lay) => lt (zM M48 (y51.2.2 + 1)) fun (M54 : Mem) => gK y53 a0 (0, 12) (gN (y51.2.2 + 1) (lt (wF y53 a0 6 (y51.2.2 + 1)) fun (y57 : Lay) => gd (y57.2.2 + 2 ≤ 1000) (lt (psh y57 (1, 12)) fun (y59 : Lay) => lt (zM M54 (y57.2.2 + 1)) fun (M60 : Mem) => gK y59 a0 (0, 12) (gN (y57.2.2 + 1) (lt (wF y59 a0 7 (y57.2.2 + 1)) fun (y63 : Lay) => gd (y63.2.2 + 2 ≤ 1000) (lt (psh y63 (1, 12)) fun (y65 : Lay) => lt (zM M60 (y63.2.2 + 1)) fun (M66 : Mem) => gK y65 a0 (0, 12) (gN (y63.2.2 + 1) (lt (wF y65 a0 8 (y63.2.2 + 1)) fun (y69 : Lay) => gd (y69.2.2 + 2 ≤ 1000) (lt (psh y69 (1, 12)) fun (y71 : Lay) => lt (zM M66 (y69.2.2 + 1)) fun (M72 : Mem) => gK y71 a0 (0, 12) (gN (y69.2.2 + 1) (lt (wF y71 a0 9 (y69.2.2 + 1)) fun (y75 : Lay) => gd (y75.2.2 + 2 ≤ 1000) (lt (psh y75 (1, 1400)) fun (y77 : Lay) => lt (zM M72 (y75.2.2 + 1)) fun (M78 : Mem) => gK y77 a0 (0, 12) (gN (y75.2.2 + 1) (lt (wF y77 a0 10 (y75.2.2 + 1)) fun (y81 : Lay) => gd (y81.2.2 + 2 ≤ 1000) (lt (psh y81 (1, 1400)) fun (y83 : Lay) => lt (zM M78 (y81.2.2 + 1)) fun (M84 : Mem) => gK y83 a0 (0, 12) (gN (y81.2.2 + 1) (lt (wF y83 a0 11 (y81.2.2 + 1)) fun (y87 : Lay) => gd (y87.2.2 + 2 ≤ 1000) (lt (psh y87 (1, 3)) fun (y89 : Lay) => lt (zM M84 (y87.2.2 + 1)) fun (M90 : Mem) => gK y89 a0 (0, 12) (gN (y87.2.2 + 1) (lt (wF y89 a0 12 (y87.2.2 + 1)) fun (y93 : Lay) => gd (y93.2.2 + 2 ≤ 1000) (lt (psh y93 (1, 6)) fun (y95 : Lay) => lt (zM M90 (y93.2.2 + 1)) fun (M96 : Mem) => gK y95 a0 (0, 12) (gN (y93.2.2 + 1) (lt (wF y95 a0 13 (y93.2.2 + 1)) fun (y99 : Lay) => gd (y99.2.2 + 2 ≤ 1000) (lt (psh y99 (1, 700)) fun (y101 : Lay) => lt (zM M96 (y99.2.2 + 1)) fun (M102 : Mem) => gK y101 a0 (0, 12) (gN (y99.2.2 + 1) (lt (wF y101 a0 14 (y99.2.2 + 1)) fun (y105 : Lay) => gK y105 a0 (0, 12) (lt (wI M102 a0 24 ((-1) : Int32)) fun (M107 : Mem) => gd (y105.2.2 + 2 ≤ 1000) (lt (psh y105 (1, 30)) fun (y109 : Lay) => lt (zM M107 (y105.2.2 + 1)) fun (M110 : Mem) => gK y109 a0 (0, 12) (gN (y105.2.2 + 1) (lt (wF y109 a0 28 (y105.2.2 + 1)) fun (y113 : Lay) => gd (y113.2.2 + 2 ≤ 1000) (lt (psh y113 (1, 6)) fun (y115 : Lay) => lt (zM M110 (y113.2.2 + 1)) fun (M116 : Mem) => gK y115 a0 (0, 12) (gN (y113.2.2 + 1) (lt (wF y115 a0 29 (y113.2.2 + 1)) fun (y119 : Lay) => gd (y119.2.2 + 2 ≤ 1000) (lt (psh y119 (1, 1640)) fun (y121 : Lay) => lt (zM M116 (y119.2.2 + 1)) fun (M122 : Mem) => gK y121 a0 (0, 12) (gN (y119.2.2 + 1) (lt (wF y121 a0 30 (y119.2.2 + 1)) fun (y125 : Lay) => gd (y125.2.2 + 2 ≤ 1000) (lt (psh y125 (1, 6)) fun (y127 : Lay) => lt (zM M122 (y125.2.2 + 1)) fun (M128 : Mem) => gK y127 a0 (0, 12) (gN (y125.2.2 + 1) (lt (wF y127 a0 38 (y125.2.2 + 1)) fun (y131 : Lay) => gd (y131.2.2 + 2 ≤ 1000) (lt (psh y131 (1, 64)) fun (y133 : Lay) => lt (zM M128 (y131.2.2 + 1)) fun (M134 : Mem) => gK y133 a0 (0, 12) (gN (y131.2.2 + 1) (lt (wF y133 a0 39 (y131.2.2 + 1)) fun (y137 : Lay) => gd (y137.2.2 + 2 ≤ 1000) (lt (psh y137 (1, 30)) fun (y139 : Lay) => lt (zM M134 (y137.2.2 + 1)) fun (M140 : Mem) => gK y139 a0 (0, 12) (gN (y137.2.2 + 1) (lt (wF y139 a0 40 (y137.2.2 + 1)) fun (y143 : Lay) => gd (y143.2.2 + 2 ≤ 1000) (lt (psh y143 (1, 41)) fun (y145 : Lay) => lt (zM M140 (y143.2.2 + 1)) fun (M146 : Mem) => gK y145 a0 (0, 12) (gN (y143.2.2 + 1) (lt (wF y145 a0 42 (y143.2.2 + 1)) fun (y149 : Lay) => gd (y149.2.2 + 2 ≤ 1000) (lt (psh y149 (1, 30)) fun (y151 : Lay) => lt (zM M146 (y149.2.2 + 1)) fun (M152 : Mem) => gK y151 a0 (0, 12) (gN (y149.2.2 + 1) (lt (wF y151 a0 43 (y149.2.2 + 1)) fun (y155 : Lay) => gd (y155.2.2 + 2 ≤ 1000) (lt (psh y155 (1, 448)) fun (y157 : Lay) => lt (zM M152 (y155.2.2 + 1)) fun (M158 : Mem) => gK y157 a0 (0, 12) (gN (y155.2.2 + 1) (lt (wF y157 a0 44 (y155.2.2 + 1)) fun (y161 : Lay) => gd (y161.2.2 + 2 ≤ 1000) (lt (psh y161 (1, 6)) fun (y163 : Lay) => lt (zM M158 (y161.2.2 + 1)) fun (M164 : Mem) => gK y163 a0 (0, 12) (gN (y161.2.2 + 1) (lt (wF y163 a0 45 (y161.2.2 + 1)) fun (y167 : Lay) => gd (y167.2.2 + 2 ≤ 1000) (lt (psh y167 (1, 8)) fun (y169 : Lay) => lt (zM M164 (y167.2.2 + 1)) fun (M170 : Mem) => gK y169 a0 (0, 12) (gN (y167.2.2 + 1) (lt (wF y169 a0 46 (y167.2.2 + 1)) fun (y173 : Lay) => gd (y173.2.2 + 2 ≤ 1000) (lt (psh y173 (1, 8)) fun (y175 : Lay) => lt (zM M170 (y173.2.2 + 1)) fun (M176 : Mem) => gK y175 a0 (0, 12) (gN (y173.2.2 + 1) (lt (wF y175 a0 47 (y173.2.2 + 1)) fun (y179 : Lay) => gd (y179.2.2 + 2 ≤ 1000) (lt (psh y179 (1, 8)) fun (y181 : Lay) => lt (zM M176 (y179.2.2 + 1)) fun (M182 : Mem) => gK y181 a0 (0, 12) (gN (y179.2.2 + 1) (lt (wF y181 a0 48 (y179.2.2 + 1)) fun (y185 : Lay) => gd (y185.2.2 + 2 ≤ 1000) (lt (psh y185 (1, 41)) fun (y187 : Lay) => lt (zM M182 (y185.2.2 + 1)) fun (M188 : Mem) => gK y187 a0 (0, 12) (gN (y185.2.2 + 1) (lt (wF y187 a0 49 (y185.2.2 + 1)) fun (y191 : Lay) => gd (y191.2.2 + 2 ≤ 1000) (lt (psh y191 (1, 60)) fun (y193 : Lay) => lt (zM M188 (y191.2.2 + 1)) fun (M194 : Mem) => gK y193 a0 (0, 12) (gN (y191.2.2 + 1) (lt (wF y193 a0 50 (y191.2.2 + 1)) fun (y197 : Lay) => gd (y197.2.2 + 2 ≤ 1000) (lt (psh y197 (1, 1800)) fun (y199 : Lay) => lt (zM M194 (y197.2.2 + 1)) fun (M200 : Mem) => gK y199 a0 (0, 12) (gN (y197.2.2 + 1) (lt (wF y199 a0 51 (y197.2.2 + 1)) fun (y203 : Lay) => gd (y203.2.2 + 2 ≤ 1000) (lt (psh y203 (1, 8)) fun (y205 : Lay) => lt (zM M200 (y203.2.2 + 1)) fun (M206 : Mem) => gK y205 a0 (0, 12) (gN (y203.2.2 + 1) (lt (wF y205 a0 53 (y203.2.2 + 1)) fun (y209 : Lay) => gd (y209.2.2 + 2 ≤ 1000) (lt (psh y209 (1, 41)) fun (y211 : Lay) => lt (zM M206 (y209.2.2 + 1)) fun (M212 : Mem) => gK y211 a0 (0, 12) (gN (y209.2.2 + 1) (lt (wF y211 a0 58 (y209.2.2 + 1)) fun (y215 : Lay) => gd (y215.2.2 + 2 ≤ 1000) (lt (psh y215 (1, 1640)) fun (y217 : Lay) => lt (zM M212 (y215.2.2 + 1)) fun (M218 : Mem) => gK y217 a0 (0, 12) (gN (y215.2.2 + 1) (lt (wF y217 a0 59 (y215.2.2 + 1)) fun (y221 : Lay) => gd (y221.2.2 + 2 ≤ 1000) (lt (psh y221 (1, 8)) fun (y223 : Lay) => lt (zM M218 (y221.2.2 + 1)) fun (M224 : Mem) => gK y223 a0 (0, 12) (gN (y221.2.2 + 1) (lt (wF y223 a0 60 (y221.2.2 + 1)) fun (y227 : Lay) => gd (y227.2.2 + 2 ≤ 1000) (lt (psh y227 (1, 8)) fun (y229 : Lay) => lt (zM M224 (y227.2.2 + 1)) fun (M230 : Mem) => gK y229 a0 (0, 12) (gN (y227.2.2 + 1) (lt (wF y229 a0 61 (y227.2.2 + 1)) fun (y233 : Lay) => gd (y233.2.2 + 2 ≤ 1000) (lt (psh y233 (1, 8)) fun (y235 : Lay) => lt (zM M230 (y233.2.2 + 1)) fun (M236 : Mem) => gK y235 a0 (0, 12) (gN (y233.2.2 + 1) (lt (wF y235 a0 62 (y233.2.2 + 1)) fun (y239 : Lay) => gd (y239.2.2 + 2 ≤ 1000) (lt (psh y239 (1, 3)) fun (y241 : Lay) => lt (zM M236 (y239.2.2 + 1)) fun (M242 : Mem) => gK y241 a0 (0, 12) (gN (y239.2.2 + 1) (lt (wF y241 a0 63 (y239.2.2 + 1)) fun (y245 : Lay) => gK y245 a0 (0, 12) (c0 (f_X12_begin y245 a0 (0 : Int32) M242) fun (r247 : Int32) (M248 : Mem) => lt (wI M248 a0 32 (20 : Int32)) fun (M249 : Mem) => some (y245, M249)))))))))))))))))))))))))))))))))))))))))))))))))))))))))))))))))))))))))))))))))))))))))))))))))))))))))))))))))))))))))))))
set_option maxRecDepth 20000 in
theorem w_X12_init {g : GX} {l : Launch} (hG : GF g l) (y : Lay) (a0 : Nat) (M : Mem) : CIt g l yX12_init cX12_init 1 1 36 9577 y [.ref a0] M (f_X12_init y a0 M) := by
  refine CI_of hG (by decide) rfl [some (.ref a0)] rfl rfl (fun out h x Q C R hz => ?_)
  have hz0 := hz
  unfold f_X12_init at h
  refine g_aload_n C tb_X12_init_0_ok (i := 0) rfl rfl ?_
  refine g_objI C tb_X12_init_0_ok (i := 1) rfl oi_X12_3 obj_w rfl ?_
  refine g_aload_n C tb_X12_init_0_ok (i := 2) rfl rfl ?_
  refine g_iconstv C tb_X12_init_0_ok (i := 3) 2 rfl k_iconstv_2 ?_
  obtain ⟨g1, h⟩ := gd_e h
  refine g_newaS C tb_X12_init_0_ok (i := 4) (N := 2) hz rfl ck_X12_9 aov (by decide) (by decide) rfl g1 (by decide) (by decide) (fun hz => ?_)
  refine g_nm (fun y2 ey2 M3 eM3 => ?_)
  have h := lt_e ey2 h
  have h := lt_e eM3 h
  rw [← ey2] at hz
  refine g_dup C tb_X12_init_0_ok (i := 5) rfl rfl ?_
  refine g_iconstv C tb_X12_init_0_ok (i := 6) 0 rfl k_iconstv_0 ?_
  refine g_ldcS C tb_X12_init_0_ok (i := 7) (k := 19) (v := 1019) rfl rfl rfl (by decide) rfl ?_
  obtain ⟨b4, h⟩ := gA_e h
  refine g_astS C tb_X12_init_0_ok (i := 8) (k := 19) (v := 1019) rfl rfl (by decide) b4 ?_
  refine g_nmy (fun y5 ey5 => ?_)
  have h := lt_e ey5 h
  have hz : HZ g x 1 y5 := by rw [ey5]; exact hz
  refine g_dup C tb_X12_init_0_ok (i := 9) rfl rfl ?_
  refine g_iconstv C tb_X12_init_0_ok (i := 10) 1 rfl k_iconstv_1 ?_
  refine g_ldcS C tb_X12_init_0_ok (i := 11) (k := 20) (v := 1020) rfl rfl rfl (by decide) rfl ?_
  obtain ⟨b6, h⟩ := gA_e h
  refine g_astS C tb_X12_init_0_ok (i := 12) (k := 20) (v := 1020) rfl rfl (by decide) b6 ?_
  refine g_nmy (fun y7 ey7 => ?_)
  have h := lt_e ey7 h
  have hz : HZ g x 1 y7 := by rw [ey7]; exact hz
  obtain ⟨k8, h⟩ := gK_e h
  obtain ⟨n9, h⟩ := gN_e h
  refine g_putF C tb_X12_init_0_ok R (i := 13) rfl ff_X12_15 ft_12_0 (Or.inr ⟨_, rfl⟩) rfl n9 k8 ?_
  refine g_nmy (fun y10 ey10 => ?_)
  have h := lt_e ey10 h
  have hz : HZ g x 1 y10 := by rw [ey10]; exact hz
  refine g_aload_n C tb_X12_init_0_ok (i := 14) rfl rfl ?_
  refine g_bipushv C tb_X12_init_0_ok (i := 15) 6 rfl k_bipushv_6 ?_
  obtain ⟨g11, h⟩ := gd_e h
  refine g_newaS C tb_X12_init_0_ok (i := 16) (N := 6) hz rfl ck_X12_9 aov (by decide) (by decide) rfl g11 (by decide) (by decide) (fun hz => ?_)
  refine g_nm (fun y12 ey12 M13 eM13 => ?_)
  have h := lt_e ey12 h
  have h := lt_e eM13 h
  rw [← ey12] at hz
  refine g_dup C tb_X12_init_0_ok (i := 17) rfl rfl ?_
  refine g_iconstv C tb_X12_init_0_ok (i := 18) 0 rfl k_iconstv_0 ?_
  refine g_ldcS C tb_X12_init_0_ok (i := 19) (k := 21) (v := 1021) rfl rfl rfl (by decide) rfl ?_
  obtain ⟨b14, h⟩ := gA_e h
  refine g_astS C tb_X12_init_0_ok (i := 20) (k := 21) (v := 1021) rfl rfl (by decide) b14 ?_
  refine g_nmy (fun y15 ey15 => ?_)
  have h := lt_e ey15 h
  have hz : HZ g x 2 y15 := by rw [ey15]; exact hz
  refine g_dup C tb_X12_init_0_ok (i := 21) rfl rfl ?_
  refine g_iconstv C tb_X12_init_0_ok (i := 22) 1 rfl k_iconstv_1 ?_
  refine g_ldcS C tb_X12_init_0_ok (i := 23) (k := 22) (v := 1022) rfl rfl rfl (by decide) rfl ?_
  obtain ⟨b16, h⟩ := gA_e h
  refine g_astS C tb_X12_init_0_ok (i := 24) (k := 22) (v := 1022) rfl rfl (by decide) b16 ?_
  refine g_nmy (fun y17 ey17 => ?_)
  have h := lt_e ey17 h
  have hz : HZ g x 2 y17 := by rw [ey17]; exact hz
  refine g_dup C tb_X12_init_0_ok (i := 25) rfl rfl ?_
  refine g_iconstv C tb_X12_init_0_ok (i := 26) 2 rfl k_iconstv_2 ?_
  refine g_ldcS C tb_X12_init_0_ok (i := 27) (k := 23) (v := 1023) rfl rfl rfl (by decide) rfl ?_
  obtain ⟨b18, h⟩ := gA_e h
  refine g_astS C tb_X12_init_0_ok (i := 28) (k := 23) (v := 1023) rfl rfl (by decide) b18 ?_
  refine g_nmy (fun y19 ey19 => ?_)
  have h := lt_e ey19 h
  have hz : HZ g x 2 y19 := by rw [ey19]; exact hz
  refine g_dup C tb_X12_init_0_ok (i := 29) rfl rfl ?_
  refine g_iconstv C tb_X12_init_0_ok (i := 30) 3 rfl k_iconstv_3 ?_
  refine g_ldcS C tb_X12_init_0_ok (i := 31) (k := 24) (v := 1024) rfl rfl rfl (by decide) rfl ?_
  obtain ⟨b20, h⟩ := gA_e h
  refine g_astS C tb_X12_init_0_ok (i := 32) (k := 24) (v := 1024) rfl rfl (by decide) b20 ?_
  refine g_nmy (fun y21 ey21 => ?_)
  have h := lt_e ey21 h
  have hz : HZ g x 2 y21 := by rw [ey21]; exact hz
  refine g_dup C tb_X12_init_0_ok (i := 33) rfl rfl ?_
  refine g_iconstv C tb_X12_init_0_ok (i := 34) 4 rfl k_iconstv_4 ?_
  refine g_ldcS C tb_X12_init_0_ok (i := 35) (k := 25) (v := 1025) rfl rfl rfl (by decide) rfl ?_
  obtain ⟨b22, h⟩ := gA_e h
  refine g_astS C tb_X12_init_0_ok (i := 36) (k := 25) (v := 1025) rfl rfl (by decide) b22 ?_
  refine g_nmy (fun y23 ey23 => ?_)
  have h := lt_e ey23 h
  have hz : HZ g x 2 y23 := by rw [ey23]; exact hz
  refine g_dup C tb_X12_init_0_ok (i := 37) rfl rfl ?_
  refine g_iconstv C tb_X12_init_0_ok (i := 38) 5 rfl k_iconstv_5 ?_
  refine g_ldcS C tb_X12_init_0_ok (i := 39) (k := 26) (v := 1026) rfl rfl rfl (by decide) rfl ?_
  obtain ⟨b24, h⟩ := gA_e h
  refine g_astS C tb_X12_init_1_ok (i := 0) (k := 26) (v := 1026) rfl rfl (by decide) b24 ?_
  refine g_nmy (fun y25 ey25 => ?_)
  have h := lt_e ey25 h
  have hz : HZ g x 2 y25 := by rw [ey25]; exact hz
  obtain ⟨k26, h⟩ := gK_e h
  obtain ⟨n27, h⟩ := gN_e h
  refine g_putF C tb_X12_init_1_ok R (i := 1) rfl ff_X12_31 ft_12_1 (Or.inr ⟨_, rfl⟩) rfl n27 k26 ?_
  refine g_nmy (fun y28 ey28 => ?_)
  have h := lt_e ey28 h
  have hz : HZ g x 2 y28 := by rw [ey28]; exact hz
  refine g_aload_n C tb_X12_init_1_ok (i := 2) rfl rfl ?_
  refine g_iconstv C tb_X12_init_1_ok (i := 3) 4 rfl k_iconstv_4 ?_
  obtain ⟨g29, h⟩ := gd_e h
  refine g_newaS C tb_X12_init_1_ok (i := 4) (N := 4) hz rfl ck_X12_9 aov (by decide) (by decide) rfl g29 (by decide) (by decide) (fun hz => ?_)
  refine g_nm (fun y30 ey30 M31 eM31 => ?_)
  have h := lt_e ey30 h
  have h := lt_e eM31 h
  rw [← ey30] at hz
  refine g_dup C tb_X12_init_1_ok (i := 5) rfl rfl ?_
  refine g_iconstv C tb_X12_init_1_ok (i := 6) 0 rfl k_iconstv_0 ?_
  refine g_ldcS C tb_X12_init_1_ok (i := 7) (k := 21) (v := 1021) rfl rfl rfl (by decide) rfl ?_
  obtain ⟨b32, h⟩ := gA_e h
  refine g_astS C tb_X12_init_1_ok (i := 8) (k := 21) (v := 1021) rfl rfl (by decide) b32 ?_
  refine g_nmy (fun y33 ey33 => ?_)
  have h := lt_e ey33 h
  have hz : HZ g x 3 y33 := by rw [ey33]; exact hz
  refine g_dup C tb_X12_init_1_ok (i := 9) rfl rfl ?_
  refine g_iconstv C tb_X12_init_1_ok (i := 10) 1 rfl k_iconstv_1 ?_
  refine g_ldcS C tb_X12_init_1_ok (i := 11) (k := 22) (v := 1022) rfl rfl rfl (by decide) rfl ?_
  obtain ⟨b34, h⟩ := gA_e h
  refine g_astS C tb_X12_init_1_ok (i := 12) (k := 22) (v := 1022) rfl rfl (by decide) b34 ?_
  refine g_nmy (fun y35 ey35 => ?_)
  have h := lt_e ey35 h
  have hz : HZ g x 3 y35 := by rw [ey35]; exact hz
  refine g_dup C tb_X12_init_1_ok (i := 13) rfl rfl ?_
  refine g_iconstv C tb_X12_init_1_ok (i := 14) 2 rfl k_iconstv_2 ?_
  refine g_ldcS C tb_X12_init_1_ok (i := 15) (k := 23) (v := 1023) rfl rfl rfl (by decide) rfl ?_
  obtain ⟨b36, h⟩ := gA_e h
  refine g_astS C tb_X12_init_1_ok (i := 16) (k := 23) (v := 1023) rfl rfl (by decide) b36 ?_
  refine g_nmy (fun y37 ey37 => ?_)
  have h := lt_e ey37 h
  have hz : HZ g x 3 y37 := by rw [ey37]; exact hz
  refine g_dup C tb_X12_init_1_ok (i := 17) rfl rfl ?_
  refine g_iconstv C tb_X12_init_1_ok (i := 18) 3 rfl k_iconstv_3 ?_
  refine g_ldcS C tb_X12_init_1_ok (i := 19) (k := 24) (v := 1024) rfl rfl rfl (by decide) rfl ?_
  obtain ⟨b38, h⟩ := gA_e h
  refine g_astS C tb_X12_init_1_ok (i := 20) (k := 24) (v := 1024) rfl rfl (by decide) b38 ?_
  refine g_nmy (fun y39 ey39 => ?_)
  have h := lt_e ey39 h
  have hz : HZ g x 3 y39 := by rw [ey39]; exact hz
  obtain ⟨k40, h⟩ := gK_e h
  obtain ⟨n41, h⟩ := gN_e h
  refine g_putF C tb_X12_init_1_ok R (i := 21) rfl ff_X12_34 ft_12_2 (Or.inr ⟨_, rfl⟩) rfl n41 k40 ?_
  refine g_nmy (fun y42 ey42 => ?_)
  have h := lt_e ey42 h
  have hz : HZ g x 3 y42 := by rw [ey42]; exact hz
  refine g_aload_n C tb_X12_init_1_ok (i := 22) rfl rfl ?_
  refine g_aload_n C tb_X12_init_1_ok (i := 23) rfl rfl ?_
  obtain ⟨k43, h⟩ := gK_e h
  obtain ⟨n44, h⟩ := gN_e h
  refine g_getR C tb_X12_init_1_ok (i := 24) rfl fl_X12_31 rfl k43 n44 ?_
  refine g_putM C tb_X12_init_1_ok (i := 25) rfl fl_X12_37 ft_12_3 (Or.inr ⟨_, rfl⟩) rfl n44 k43 ?_
  refine g_mem (fun M45 eM45 => ?_)
  have h := lt_e eM45 h
  refine g_aload_n C tb_X12_init_1_ok (i := 26) rfl rfl ?_
  refine g_bipushv C tb_X12_init_1_ok (i := 27) 18 rfl k_bipushv_18 ?_
  obtain ⟨g46, h⟩ := gd_e h
  refine g_newaI C tb_X12_init_1_ok (i := 28) (N := 18) hz rfl acl_int (by decide) (by decide) rfl g46 (by decide) (by decide) (fun hz => ?_)
  refine g_nm (fun y47 ey47 M48 eM48 => ?_)
  have h := lt_e ey47 h
  have h := lt_e eM48 h
  rw [← ey47] at hz
  obtain ⟨k49, h⟩ := gK_e h
  obtain ⟨n50, h⟩ := gN_e h
  refine g_putF C tb_X12_init_1_ok R (i := 29) rfl ff_X12_40 ft_12_5 (Or.inr ⟨_, rfl⟩) rfl n50 k49 ?_
  refine g_nmy (fun y51 ey51 => ?_)
  have h := lt_e ey51 h
  have hz : HZ g x 4 y51 := by rw [ey51]; exact hz
  refine g_aload_n C tb_X12_init_1_ok (i := 30) rfl rfl ?_
  refine g_bipushv C tb_X12_init_1_ok (i := 31) 60 rfl k_bipushv_60 ?_
  obtain ⟨g52, h⟩ := gd_e h
  refine g_newaI C tb_X12_init_1_ok (i := 32) (N := 60) hz rfl acl_int (by decide) (by decide) rfl g52 (by decide) (by decide) (fun hz => ?_)
  refine g_nm (fun y53 ey53 M54 eM54 => ?_)
  have h := lt_e ey53 h
  have h := lt_e eM54 h
  rw [← ey53] at hz
  obtain ⟨k55, h⟩ := gK_e h
  obtain ⟨n56, h⟩ := gN_e h
  refine g_putF C tb_X12_init_1_ok R (i := 33) rfl ff_X12_44 ft_12_6 (Or.inr ⟨_, rfl⟩) rfl n56 k55 ?_
  refine g_nmy (fun y57 ey57 => ?_)
  have h := lt_e ey57 h
  have hz : HZ g x 5 y57 := by rw [ey57]; exact hz
  refine g_aload_n C tb_X12_init_1_ok (i := 34) rfl rfl ?_
  refine g_bipushv C tb_X12_init_1_ok (i := 35) 12 rfl k_bipushv_12 ?_
  obtain ⟨g58, h⟩ := gd_e h
  refine g_newaI C tb_X12_init_1_ok (i := 36) (N := 12) hz rfl acl_int (by decide) (by decide) rfl g58 (by decide) (by decide) (fun hz => ?_)
  refine g_nm (fun y59 ey59 M60 eM60 => ?_)
  have h := lt_e ey59 h
  have h := lt_e eM60 h
  rw [← ey59] at hz
  obtain ⟨k61, h⟩ := gK_e h
  obtain ⟨n62, h⟩ := gN_e h
  refine g_putF C tb_X12_init_1_ok R (i := 37) rfl ff_X12_47 ft_12_7 (Or.inr ⟨_, rfl⟩) rfl n62 k61 ?_
  refine g_nmy (fun y63 ey63 => ?_)
  have h := lt_e ey63 h
  have hz : HZ g x 6 y63 := by rw [ey63]; exact hz
  refine g_aload_n C tb_X12_init_1_ok (i := 38) rfl rfl ?_
  refine g_bipushv C tb_X12_init_1_ok (i := 39) 12 rfl k_bipushv_12 ?_
  obtain ⟨g64, h⟩ := gd_e h
  refine g_newaI C tb_X12_init_2_ok (i := 0) (N := 12) hz rfl acl_int (by decide) (by decide) rfl g64 (by decide) (by decide) (fun hz => ?_)
  refine g_nm (fun y65 ey65 M66 eM66 => ?_)
  have h := lt_e ey65 h
  have h := lt_e eM66 h
  rw [← ey65] at hz
  obtain ⟨k67, h⟩ := gK_e h
  obtain ⟨n68, h⟩ := gN_e h
  refine g_putF C tb_X12_init_2_ok R (i := 1) rfl ff_X12_50 ft_12_8 (Or.inr ⟨_, rfl⟩) rfl n68 k67 ?_
  refine g_nmy (fun y69 ey69 => ?_)
  have h := lt_e ey69 h
  have hz : HZ g x 7 y69 := by rw [ey69]; exact hz
  refine g_aload_n C tb_X12_init_2_ok (i := 2) rfl rfl ?_
  refine g_bipushv C tb_X12_init_2_ok (i := 3) 12 rfl k_bipushv_12 ?_
  obtain ⟨g70, h⟩ := gd_e h
  refine g_newaI C tb_X12_init_2_ok (i := 4) (N := 12) hz rfl acl_int (by decide) (by decide) rfl g70 (by decide) (by decide) (fun hz => ?_)
  refine g_nm (fun y71 ey71 M72 eM72 => ?_)
  have h := lt_e ey71 h
  have h := lt_e eM72 h
  rw [← ey71] at hz
  obtain ⟨k73, h⟩ := gK_e h
  obtain ⟨n74, h⟩ := gN_e h
  refine g_putF C tb_X12_init_2_ok R (i := 5) rfl ff_X12_53 ft_12_9 (Or.inr ⟨_, rfl⟩) rfl n74 k73 ?_
  refine g_nmy (fun y75 ey75 => ?_)
  have h := lt_e ey75 h
  have hz : HZ g x 8 y75 := by rw [ey75]; exact hz
  refine g_aload_n C tb_X12_init_2_ok (i := 6) rfl rfl ?_
  refine g_sipushv C tb_X12_init_2_ok (i := 7) 1400 rfl k_sipushv_1400 ?_
  obtain ⟨g76, h⟩ := gd_e h
  refine g_newaI C tb_X12_init_2_ok (i := 8) (N := 1400) hz rfl acl_int (by decide) (by decide) rfl g76 (by decide) (by decide) (fun hz => ?_)
  refine g_nm (fun y77 ey77 M78 eM78 => ?_)
  have h := lt_e ey77 h
  have h := lt_e eM78 h
  rw [← ey77] at hz
  obtain ⟨k79, h⟩ := gK_e h
  obtain ⟨n80, h⟩ := gN_e h
  refine g_putF C tb_X12_init_2_ok R (i := 9) rfl ff_X12_56 ft_12_10 (Or.inr ⟨_, rfl⟩) rfl n80 k79 ?_
  refine g_nmy (fun y81 ey81 => ?_)
  have h := lt_e ey81 h
  have hz : HZ g x 9 y81 := by rw [ey81]; exact hz
  refine g_aload_n C tb_X12_init_2_ok (i := 10) rfl rfl ?_
  refine g_sipushv C tb_X12_init_2_ok (i := 11) 1400 rfl k_sipushv_1400 ?_
  obtain ⟨g82, h⟩ := gd_e h
  refine g_newaI C tb_X12_init_2_ok (i := 12) (N := 1400) hz rfl acl_int (by decide) (by decide) rfl g82 (by decide) (by decide) (fun hz => ?_)
  refine g_nm (fun y83 ey83 M84 eM84 => ?_)
  have h := lt_e ey83 h
  have h := lt_e eM84 h
  rw [← ey83] at hz
  obtain ⟨k85, h⟩ := gK_e h
  obtain ⟨n86, h⟩ := gN_e h
  refine g_putF C tb_X12_init_2_ok R (i := 13) rfl ff_X12_59 ft_12_11 (Or.inr ⟨_, rfl⟩) rfl n86 k85 ?_
  refine g_nmy (fun y87 ey87 => ?_)
  have h := lt_e ey87 h
  have hz : HZ g x 10 y87 := by rw [ey87]; exact hz
  refine g_aload_n C tb_X12_init_2_ok (i := 14) rfl rfl ?_
  refine g_iconstv C tb_X12_init_2_ok (i := 15) 3 rfl k_iconstv_3 ?_
  obtain ⟨g88, h⟩ := gd_e h
  refine g_newaI C tb_X12_init_2_ok (i := 16) (N := 3) hz rfl acl_int (by decide) (by decide) rfl g88 (by decide) (by decide) (fun hz => ?_)
  refine g_nm (fun y89 ey89 M90 eM90 => ?_)
  have h := lt_e ey89 h
  have h := lt_e eM90 h
  rw [← ey89] at hz
  obtain ⟨k91, h⟩ := gK_e h
  obtain ⟨n92, h⟩ := gN_e h
  refine g_putF C tb_X12_init_2_ok R (i := 17) rfl ff_X12_62 ft_12_12 (Or.inr ⟨_, rfl⟩) rfl n92 k91 ?_
  refine g_nmy (fun y93 ey93 => ?_)
  have h := lt_e ey93 h
  have hz : HZ g x 11 y93 := by rw [ey93]; exact hz
  refine g_aload_n C tb_X12_init_2_ok (i := 18) rfl rfl ?_
  refine g_bipushv C tb_X12_init_2_ok (i := 19) 6 rfl k_bipushv_6 ?_
  obtain ⟨g94, h⟩ := gd_e h
  refine g_newaI C tb_X12_init_2_ok (i := 20) (N := 6) hz rfl acl_int (by decide) (by decide) rfl g94 (by decide) (by decide) (fun hz => ?_)
  refine g_nm (fun y95 ey95 M96 eM96 => ?_)
  have h := lt_e ey95 h
  have h := lt_e eM96 h
  rw [← ey95] at hz
  obtain ⟨k97, h⟩ := gK_e h
  obtain ⟨n98, h⟩ := gN_e h
  refine g_putF C tb_X12_init_2_ok R (i := 21) rfl ff_X12_65 ft_12_13 (Or.inr ⟨_, rfl⟩) rfl n98 k97 ?_
  refine g_nmy (fun y99 ey99 => ?_)
  have h := lt_e ey99 h
  have hz : HZ g x 12 y99 := by rw [ey99]; exact hz
  refine g_aload_n C tb_X12_init_2_ok (i := 22) rfl rfl ?_
  refine g_sipushv C tb_X12_init_2_ok (i := 23) 700 rfl k_sipushv_700 ?_
  obtain ⟨g100, h⟩ := gd_e h
  refine g_newaI C tb_X12_init_2_ok (i := 24) (N := 700) hz rfl acl_int (by decide) (by decide) rfl g100 (by decide) (by decide) (fun hz => ?_)
  refine g_nm (fun y101 ey101 M102 eM102 => ?_)
  have h := lt_e ey101 h
  have h := lt_e eM102 h
  rw [← ey101] at hz
  obtain ⟨k103, h⟩ := gK_e h
  obtain ⟨n104, h⟩ := gN_e h
  refine g_putF C tb_X12_init_2_ok R (i := 25) rfl ff_X12_68 ft_12_14 (Or.inr ⟨_, rfl⟩) rfl n104 k103 ?_
  refine g_nmy (fun y105 ey105 => ?_)
  have h := lt_e ey105 h
  have hz : HZ g x 13 y105 := by rw [ey105]; exact hz
  refine g_aload_n C tb_X12_init_2_ok (i := 26) rfl rfl ?_
  refine g_iconstv C tb_X12_init_2_ok (i := 27) (-1) rfl k_iconstv_m1 ?_
  obtain ⟨k106, h⟩ := gK_e h
  refine g_putI C tb_X12_init_2_ok (i := 28) rfl fl_X12_71 ft_12_24 rfl k106 ?_
  refine g_mem (fun M107 eM107 => ?_)
  have h := lt_e eM107 h
  refine g_aload_n C tb_X12_init_2_ok (i := 29) rfl rfl ?_
  refine g_bipushv C tb_X12_init_2_ok (i := 30) 30 rfl k_bipushv_30 ?_
  obtain ⟨g108, h⟩ := gd_e h
  refine g_newaI C tb_X12_init_2_ok (i := 31) (N := 30) hz rfl acl_int (by decide) (by decide) rfl g108 (by decide) (by decide) (fun hz => ?_)
  refine g_nm (fun y109 ey109 M110 eM110 => ?_)
  have h := lt_e ey109 h
  have h := lt_e eM110 h
  rw [← ey109] at hz
  obtain ⟨k111, h⟩ := gK_e h
  obtain ⟨n112, h⟩ := gN_e h
  refine g_putF C tb_X12_init_2_ok R (i := 32) rfl ff_X12_75 ft_12_28 (Or.inr ⟨_, rfl⟩) rfl n112 k111 ?_
  refine g_nmy (fun y113 ey113 => ?_)
  have h := lt_e ey113 h
  have hz : HZ g x 14 y113 := by rw [ey113]; exact hz
  refine g_aload_n C tb_X12_init_2_ok (i := 33) rfl rfl ?_
  refine g_bipushv C tb_X12_init_2_ok (i := 34) 6 rfl k_bipushv_6 ?_
  obtain ⟨g114, h⟩ := gd_e h
  refine g_newaI C tb_X12_init_2_ok (i := 35) (N := 6) hz rfl acl_int (by decide) (by decide) rfl g114 (by decide) (by decide) (fun hz => ?_)
  refine g_nm (fun y115 ey115 M116 eM116 => ?_)
  have h := lt_e ey115 h
  have h := lt_e eM116 h
  rw [← ey115] at hz
  obtain ⟨k117, h⟩ := gK_e h
  obtain ⟨n118, h⟩ := gN_e h
  refine g_putF C tb_X12_init_2_ok R (i := 36) rfl ff_X12_77 ft_12_29 (Or.inr ⟨_, rfl⟩) rfl n118 k117 ?_
  refine g_nmy (fun y119 ey119 => ?_)
  have h := lt_e ey119 h
  have hz : HZ g x 15 y119 := by rw [ey119]; exact hz
  refine g_aload_n C tb_X12_init_2_ok (i := 37) rfl rfl ?_
  refine g_sipushv C tb_X12_init_2_ok (i := 38) 1640 rfl k_sipushv_1640 ?_
  obtain ⟨g120, h⟩ := gd_e h
  refine g_newaI C tb_X12_init_2_ok (i := 39) (N := 1640) hz rfl acl_int (by decide) (by decide) rfl g120 (by decide) (by decide) (fun hz => ?_)
  refine g_nm (fun y121 ey121 M122 eM122 => ?_)
  have h := lt_e ey121 h
  have h := lt_e eM122 h
  rw [← ey121] at hz
  obtain ⟨k123, h⟩ := gK_e h
  obtain ⟨n124, h⟩ := gN_e h
  refine g_putF C tb_X12_init_3_ok R (i := 0) rfl ff_X12_80 ft_12_30 (Or.inr ⟨_, rfl⟩) rfl n124 k123 ?_
  refine g_nmy (fun y125 ey125 => ?_)
  have h := lt_e ey125 h
  have hz : HZ g x 16 y125 := by rw [ey125]; exact hz
  refine g_aload_n C tb_X12_init_3_ok (i := 1) rfl rfl ?_
  refine g_bipushv C tb_X12_init_3_ok (i := 2) 6 rfl k_bipushv_6 ?_
  obtain ⟨g126, h⟩ := gd_e h
  refine g_newaI C tb_X12_init_3_ok (i := 3) (N := 6) hz rfl acl_int (by decide) (by decide) rfl g126 (by decide) (by decide) (fun hz => ?_)
  refine g_nm (fun y127 ey127 M128 eM128 => ?_)
  have h := lt_e ey127 h
  have h := lt_e eM128 h
  rw [← ey127] at hz
  obtain ⟨k129, h⟩ := gK_e h
  obtain ⟨n130, h⟩ := gN_e h
  refine g_putF C tb_X12_init_3_ok R (i := 4) rfl ff_X12_83 ft_12_38 (Or.inr ⟨_, rfl⟩) rfl n130 k129 ?_
  refine g_nmy (fun y131 ey131 => ?_)
  have h := lt_e ey131 h
  have hz : HZ g x 17 y131 := by rw [ey131]; exact hz
  refine g_aload_n C tb_X12_init_3_ok (i := 5) rfl rfl ?_
  refine g_bipushv C tb_X12_init_3_ok (i := 6) 64 rfl k_bipushv_64 ?_
  obtain ⟨g132, h⟩ := gd_e h
  refine g_newaI C tb_X12_init_3_ok (i := 7) (N := 64) hz rfl acl_int (by decide) (by decide) rfl g132 (by decide) (by decide) (fun hz => ?_)
  refine g_nm (fun y133 ey133 M134 eM134 => ?_)
  have h := lt_e ey133 h
  have h := lt_e eM134 h
  rw [← ey133] at hz
  obtain ⟨k135, h⟩ := gK_e h
  obtain ⟨n136, h⟩ := gN_e h
  refine g_putF C tb_X12_init_3_ok R (i := 8) rfl ff_X12_86 ft_12_39 (Or.inr ⟨_, rfl⟩) rfl n136 k135 ?_
  refine g_nmy (fun y137 ey137 => ?_)
  have h := lt_e ey137 h
  have hz : HZ g x 18 y137 := by rw [ey137]; exact hz
  refine g_aload_n C tb_X12_init_3_ok (i := 9) rfl rfl ?_
  refine g_bipushv C tb_X12_init_3_ok (i := 10) 30 rfl k_bipushv_30 ?_
  obtain ⟨g138, h⟩ := gd_e h
  refine g_newaI C tb_X12_init_3_ok (i := 11) (N := 30) hz rfl acl_int (by decide) (by decide) rfl g138 (by decide) (by decide) (fun hz => ?_)
  refine g_nm (fun y139 ey139 M140 eM140 => ?_)
  have h := lt_e ey139 h
  have h := lt_e eM140 h
  rw [← ey139] at hz
  obtain ⟨k141, h⟩ := gK_e h
  obtain ⟨n142, h⟩ := gN_e h
  refine g_putF C tb_X12_init_3_ok R (i := 12) rfl ff_X12_89 ft_12_40 (Or.inr ⟨_, rfl⟩) rfl n142 k141 ?_
  refine g_nmy (fun y143 ey143 => ?_)
  have h := lt_e ey143 h
  have hz : HZ g x 19 y143 := by rw [ey143]; exact hz
  refine g_aload_n C tb_X12_init_3_ok (i := 13) rfl rfl ?_
  refine g_bipushv C tb_X12_init_3_ok (i := 14) 41 rfl k_bipushv_41 ?_
  obtain ⟨g144, h⟩ := gd_e h
  refine g_newaI C tb_X12_init_3_ok (i := 15) (N := 41) hz rfl acl_int (by decide) (by decide) rfl g144 (by decide) (by decide) (fun hz => ?_)
  refine g_nm (fun y145 ey145 M146 eM146 => ?_)
  have h := lt_e ey145 h
  have h := lt_e eM146 h
  rw [← ey145] at hz
  obtain ⟨k147, h⟩ := gK_e h
  obtain ⟨n148, h⟩ := gN_e h
  refine g_putF C tb_X12_init_3_ok R (i := 16) rfl ff_X12_92 ft_12_42 (Or.inr ⟨_, rfl⟩) rfl n148 k147 ?_
  refine g_nmy (fun y149 ey149 => ?_)
  have h := lt_e ey149 h
  have hz : HZ g x 20 y149 := by rw [ey149]; exact hz
  refine g_aload_n C tb_X12_init_3_ok (i := 17) rfl rfl ?_
  refine g_bipushv C tb_X12_init_3_ok (i := 18) 30 rfl k_bipushv_30 ?_
  obtain ⟨g150, h⟩ := gd_e h
  refine g_newaI C tb_X12_init_3_ok (i := 19) (N := 30) hz rfl acl_int (by decide) (by decide) rfl g150 (by decide) (by decide) (fun hz => ?_)
  refine g_nm (fun y151 ey151 M152 eM152 => ?_)
  have h := lt_e ey151 h
  have h := lt_e eM152 h
  rw [← ey151] at hz
  obtain ⟨k153, h⟩ := gK_e h
  obtain ⟨n154, h⟩ := gN_e h
  refine g_putF C tb_X12_init_3_ok R (i := 20) rfl ff_X12_95 ft_12_43 (Or.inr ⟨_, rfl⟩) rfl n154 k153 ?_
  refine g_nmy (fun y155 ey155 => ?_)
  have h := lt_e ey155 h
  have hz : HZ g x 21 y155 := by rw [ey155]; exact hz
  refine g_aload_n C tb_X12_init_3_ok (i := 21) rfl rfl ?_
  refine g_sipushv C tb_X12_init_3_ok (i := 22) 448 rfl k_sipushv_448 ?_
  obtain ⟨g156, h⟩ := gd_e h
  refine g_newaI C tb_X12_init_3_ok (i := 23) (N := 448) hz rfl acl_int (by decide) (by decide) rfl g156 (by decide) (by decide) (fun hz => ?_)
  refine g_nm (fun y157 ey157 M158 eM158 => ?_)
  have h := lt_e ey157 h
  have h := lt_e eM158 h
  rw [← ey157] at hz
  obtain ⟨k159, h⟩ := gK_e h
  obtain ⟨n160, h⟩ := gN_e h
  refine g_putF C tb_X12_init_3_ok R (i := 24) rfl ff_X12_98 ft_12_44 (Or.inr ⟨_, rfl⟩) rfl n160 k159 ?_
  refine g_nmy (fun y161 ey161 => ?_)
  have h := lt_e ey161 h
  have hz : HZ g x 22 y161 := by rw [ey161]; exact hz
  refine g_aload_n C tb_X12_init_3_ok (i := 25) rfl rfl ?_
  refine g_bipushv C tb_X12_init_3_ok (i := 26) 6 rfl k_bipushv_6 ?_
  obtain ⟨g162, h⟩ := gd_e h
  refine g_newaI C tb_X12_init_3_ok (i := 27) (N := 6) hz rfl acl_int (by decide) (by decide) rfl g162 (by decide) (by decide) (fun hz => ?_)
  refine g_nm (fun y163 ey163 M164 eM164 => ?_)
  have h := lt_e ey163 h
  have h := lt_e eM164 h
  rw [← ey163] at hz
  obtain ⟨k165, h⟩ := gK_e h
  obtain ⟨n166, h⟩ := gN_e h
  refine g_putF C tb_X12_init_3_ok R (i := 28) rfl ff_X12_101 ft_12_45 (Or.inr ⟨_, rfl⟩) rfl n166 k165 ?_
  refine g_nmy (fun y167 ey167 => ?_)
  have h := lt_e ey167 h
  have hz : HZ g x 23 y167 := by rw [ey167]; exact hz
  refine g_aload_n C tb_X12_init_3_ok (i := 29) rfl rfl ?_
  refine g_bipushv C tb_X12_init_3_ok (i := 30) 8 rfl k_bipushv_8 ?_
  obtain ⟨g168, h⟩ := gd_e h
  refine g_newaI C tb_X12_init_3_ok (i := 31) (N := 8) hz rfl acl_int (by decide) (by decide) rfl g168 (by decide) (by decide) (fun hz => ?_)
  refine g_nm (fun y169 ey169 M170 eM170 => ?_)
  have h := lt_e ey169 h
  have h := lt_e eM170 h
  rw [← ey169] at hz
  obtain ⟨k171, h⟩ := gK_e h
  obtain ⟨n172, h⟩ := gN_e h
  refine g_putF C tb_X12_init_3_ok R (i := 32) rfl ff_X12_104 ft_12_46 (Or.inr ⟨_, rfl⟩) rfl n172 k171 ?_
  refine g_nmy (fun y173 ey173 => ?_)
  have h := lt_e ey173 h
  have hz : HZ g x 24 y173 := by rw [ey173]; exact hz
  refine g_aload_n C tb_X12_init_3_ok (i := 33) rfl rfl ?_
  refine g_bipushv C tb_X12_init_3_ok (i := 34) 8 rfl k_bipushv_8 ?_
  obtain ⟨g174, h⟩ := gd_e h
  refine g_newaI C tb_X12_init_3_ok (i := 35) (N := 8) hz rfl acl_int (by decide) (by decide) rfl g174 (by decide) (by decide) (fun hz => ?_)
  refine g_nm (fun y175 ey175 M176 eM176 => ?_)
  have h := lt_e ey175 h
  have h := lt_e eM176 h
  rw [← ey175] at hz
  obtain ⟨k177, h⟩ := gK_e h
  obtain ⟨n178, h⟩ := gN_e h
  refine g_putF C tb_X12_init_3_ok R (i := 36) rfl ff_X12_107 ft_12_47 (Or.inr ⟨_, rfl⟩) rfl n178 k177 ?_
  refine g_nmy (fun y179 ey179 => ?_)
  have h := lt_e ey179 h
  have hz : HZ g x 25 y179 := by rw [ey179]; exact hz
  refine g_aload_n C tb_X12_init_3_ok (i := 37) rfl rfl ?_
  refine g_bipushv C tb_X12_init_3_ok (i := 38) 8 rfl k_bipushv_8 ?_
  obtain ⟨g180, h⟩ := gd_e h
  refine g_newaI C tb_X12_init_3_ok (i := 39) (N := 8) hz rfl acl_int (by decide) (by decide) rfl g180 (by decide) (by decide) (fun hz => ?_)
  refine g_nm (fun y181 ey181 M182 eM182 => ?_)
  have h := lt_e ey181 h
  have h := lt_e eM182 h
  rw [← ey181] at hz
  obtain ⟨k183, h⟩ := gK_e h
  obtain ⟨n184, h⟩ := gN_e h
  refine g_putF C tb_X12_init_4_ok R (i := 0) rfl ff_X12_110 ft_12_48 (Or.inr ⟨_, rfl⟩) rfl n184 k183 ?_
  refine g_nmy (fun y185 ey185 => ?_)
  have h := lt_e ey185 h
  have hz : HZ g x 26 y185 := by rw [ey185]; exact hz
  refine g_aload_n C tb_X12_init_4_ok (i := 1) rfl rfl ?_
  refine g_bipushv C tb_X12_init_4_ok (i := 2) 41 rfl k_bipushv_41 ?_
  obtain ⟨g186, h⟩ := gd_e h
  refine g_newaI C tb_X12_init_4_ok (i := 3) (N := 41) hz rfl acl_int (by decide) (by decide) rfl g186 (by decide) (by decide) (fun hz => ?_)
  refine g_nm (fun y187 ey187 M188 eM188 => ?_)
  have h := lt_e ey187 h
  have h := lt_e eM188 h
  rw [← ey187] at hz
  obtain ⟨k189, h⟩ := gK_e h
  obtain ⟨n190, h⟩ := gN_e h
  refine g_putF C tb_X12_init_4_ok R (i := 4) rfl ff_X12_113 ft_12_49 (Or.inr ⟨_, rfl⟩) rfl n190 k189 ?_
  refine g_nmy (fun y191 ey191 => ?_)
  have h := lt_e ey191 h
  have hz : HZ g x 27 y191 := by rw [ey191]; exact hz
  refine g_aload_n C tb_X12_init_4_ok (i := 5) rfl rfl ?_
  refine g_bipushv C tb_X12_init_4_ok (i := 6) 60 rfl k_bipushv_60 ?_
  obtain ⟨g192, h⟩ := gd_e h
  refine g_newaI C tb_X12_init_4_ok (i := 7) (N := 60) hz rfl acl_int (by decide) (by decide) rfl g192 (by decide) (by decide) (fun hz => ?_)
  refine g_nm (fun y193 ey193 M194 eM194 => ?_)
  have h := lt_e ey193 h
  have h := lt_e eM194 h
  rw [← ey193] at hz
  obtain ⟨k195, h⟩ := gK_e h
  obtain ⟨n196, h⟩ := gN_e h
  refine g_putF C tb_X12_init_4_ok R (i := 8) rfl ff_X12_116 ft_12_50 (Or.inr ⟨_, rfl⟩) rfl n196 k195 ?_
  refine g_nmy (fun y197 ey197 => ?_)
  have h := lt_e ey197 h
  have hz : HZ g x 28 y197 := by rw [ey197]; exact hz
  refine g_aload_n C tb_X12_init_4_ok (i := 9) rfl rfl ?_
  refine g_sipushv C tb_X12_init_4_ok (i := 10) 1800 rfl k_sipushv_1800 ?_
  obtain ⟨g198, h⟩ := gd_e h
  refine g_newaI C tb_X12_init_4_ok (i := 11) (N := 1800) hz rfl acl_int (by decide) (by decide) rfl g198 (by decide) (by decide) (fun hz => ?_)
  refine g_nm (fun y199 ey199 M200 eM200 => ?_)
  have h := lt_e ey199 h
  have h := lt_e eM200 h
  rw [← ey199] at hz
  obtain ⟨k201, h⟩ := gK_e h
  obtain ⟨n202, h⟩ := gN_e h
  refine g_putF C tb_X12_init_4_ok R (i := 12) rfl ff_X12_119 ft_12_51 (Or.inr ⟨_, rfl⟩) rfl n202 k201 ?_
  refine g_nmy (fun y203 ey203 => ?_)
  have h := lt_e ey203 h
  have hz : HZ g x 29 y203 := by rw [ey203]; exact hz
  refine g_aload_n C tb_X12_init_4_ok (i := 13) rfl rfl ?_
  refine g_bipushv C tb_X12_init_4_ok (i := 14) 8 rfl k_bipushv_8 ?_
  obtain ⟨g204, h⟩ := gd_e h
  refine g_newaI C tb_X12_init_4_ok (i := 15) (N := 8) hz rfl acl_int (by decide) (by decide) rfl g204 (by decide) (by decide) (fun hz => ?_)
  refine g_nm (fun y205 ey205 M206 eM206 => ?_)
  have h := lt_e ey205 h
  have h := lt_e eM206 h
  rw [← ey205] at hz
  obtain ⟨k207, h⟩ := gK_e h
  obtain ⟨n208, h⟩ := gN_e h
  refine g_putF C tb_X12_init_4_ok R (i := 16) rfl ff_X12_122 ft_12_53 (Or.inr ⟨_, rfl⟩) rfl n208 k207 ?_
  refine g_nmy (fun y209 ey209 => ?_)
  have h := lt_e ey209 h
  have hz : HZ g x 30 y209 := by rw [ey209]; exact hz
  refine g_aload_n C tb_X12_init_4_ok (i := 17) rfl rfl ?_
  refine g_bipushv C tb_X12_init_4_ok (i := 18) 41 rfl k_bipushv_41 ?_
  obtain ⟨g210, h⟩ := gd_e h
  refine g_newaI C tb_X12_init_4_ok (i := 19) (N := 41) hz rfl acl_int (by decide) (by decide) rfl g210 (by decide) (by decide) (fun hz => ?_)
  refine g_nm (fun y211 ey211 M212 eM212 => ?_)
  have h := lt_e ey211 h
  have h := lt_e eM212 h
  rw [← ey211] at hz
  obtain ⟨k213, h⟩ := gK_e h
  obtain ⟨n214, h⟩ := gN_e h
  refine g_putF C tb_X12_init_4_ok R (i := 20) rfl ff_X12_125 ft_12_58 (Or.inr ⟨_, rfl⟩) rfl n214 k213 ?_
  refine g_nmy (fun y215 ey215 => ?_)
  have h := lt_e ey215 h
  have hz : HZ g x 31 y215 := by rw [ey215]; exact hz
  refine g_aload_n C tb_X12_init_4_ok (i := 21) rfl rfl ?_
  refine g_sipushv C tb_X12_init_4_ok (i := 22) 1640 rfl k_sipushv_1640 ?_
  obtain ⟨g216, h⟩ := gd_e h
  refine g_newaI C tb_X12_init_4_ok (i := 23) (N := 1640) hz rfl acl_int (by decide) (by decide) rfl g216 (by decide) (by decide) (fun hz => ?_)
  refine g_nm (fun y217 ey217 M218 eM218 => ?_)
  have h := lt_e ey217 h
  have h := lt_e eM218 h
  rw [← ey217] at hz
  obtain ⟨k219, h⟩ := gK_e h
  obtain ⟨n220, h⟩ := gN_e h
  refine g_putF C tb_X12_init_4_ok R (i := 24) rfl ff_X12_128 ft_12_59 (Or.inr ⟨_, rfl⟩) rfl n220 k219 ?_
  refine g_nmy (fun y221 ey221 => ?_)
  have h := lt_e ey221 h
  have hz : HZ g x 32 y221 := by rw [ey221]; exact hz
  refine g_aload_n C tb_X12_init_4_ok (i := 25) rfl rfl ?_
  refine g_bipushv C tb_X12_init_4_ok (i := 26) 8 rfl k_bipushv_8 ?_
  obtain ⟨g222, h⟩ := gd_e h
  refine g_newaI C tb_X12_init_4_ok (i := 27) (N := 8) hz rfl acl_int (by decide) (by decide) rfl g222 (by decide) (by decide) (fun hz => ?_)
  refine g_nm (fun y223 ey223 M224 eM224 => ?_)
  have h := lt_e ey223 h
  have h := lt_e eM224 h
  rw [← ey223] at hz
  obtain ⟨k225, h⟩ := gK_e h
  obtain ⟨n226, h⟩ := gN_e h
  refine g_putF C tb_X12_init_4_ok R (i := 28) rfl ff_X12_131 ft_12_60 (Or.inr ⟨_, rfl⟩) rfl n226 k225 ?_
  refine g_nmy (fun y227 ey227 => ?_)
  have h := lt_e ey227 h
  have hz : HZ g x 33 y227 := by rw [ey227]; exact hz
  refine g_aload_n C tb_X12_init_4_ok (i := 29) rfl rfl ?_
  refine g_bipushv C tb_X12_init_4_ok (i := 30) 8 rfl k_bipushv_8 ?_
  obtain ⟨g228, h⟩ := gd_e h
  refine g_newaI C tb_X12_init_4_ok (i := 31) (N := 8) hz rfl acl_int (by decide) (by decide) rfl g228 (by decide) (by decide) (fun hz => ?_)
  refine g_nm (fun y229 ey229 M230 eM230 => ?_)
  have h := lt_e ey229 h
  have h := lt_e eM230 h
  rw [← ey229] at hz
  obtain ⟨k231, h⟩ := gK_e h
  obtain ⟨n232, h⟩ := gN_e h
  refine g_putF C tb_X12_init_4_ok R (i := 32) rfl ff_X12_134 ft_12_61 (Or.inr ⟨_, rfl⟩) rfl n232 k231 ?_
  refine g_nmy (fun y233 ey233 => ?_)
  have h := lt_e ey233 h
  have hz : HZ g x 34 y233 := by rw [ey233]; exact hz
  refine g_aload_n C tb_X12_init_4_ok (i := 33) rfl rfl ?_
  refine g_bipushv C tb_X12_init_4_ok (i := 34) 8 rfl k_bipushv_8 ?_
  obtain ⟨g234, h⟩ := gd_e h
  refine g_newaI C tb_X12_init_4_ok (i := 35) (N := 8) hz rfl acl_int (by decide) (by decide) rfl g234 (by decide) (by decide) (fun hz => ?_)
  refine g_nm (fun y235 ey235 M236 eM236 => ?_)
  have h := lt_e ey235 h
  have h := lt_e eM236 h
  rw [← ey235] at hz
  obtain ⟨k237, h⟩ := gK_e h
  obtain ⟨n238, h⟩ := gN_e h
  refine g_putF C tb_X12_init_4_ok R (i := 36) rfl ff_X12_137 ft_12_62 (Or.inr ⟨_, rfl⟩) rfl n238 k237 ?_
  refine g_nmy (fun y239 ey239 => ?_)
  have h := lt_e ey239 h
  have hz : HZ g x 35 y239 := by rw [ey239]; exact hz
  refine g_aload_n C tb_X12_init_4_ok (i := 37) rfl rfl ?_
  refine g_iconstv C tb_X12_init_4_ok (i := 38) 3 rfl k_iconstv_3 ?_
  obtain ⟨g240, h⟩ := gd_e h
  refine g_newaI C tb_X12_init_4_ok (i := 39) (N := 3) hz rfl acl_int (by decide) (by decide) rfl g240 (by decide) (by decide) (fun hz => ?_)
  refine g_nm (fun y241 ey241 M242 eM242 => ?_)
  have h := lt_e ey241 h
  have h := lt_e eM242 h
  rw [← ey241] at hz
  obtain ⟨k243, h⟩ := gK_e h
  obtain ⟨n244, h⟩ := gN_e h
  refine g_putF C tb_X12_init_5_ok R (i := 0) rfl ff_X12_140 ft_12_63 (Or.inr ⟨_, rfl⟩) rfl n244 k243 ?_
  refine g_nmy (fun y245 ey245 => ?_)
  have h := lt_e ey245 h
  have hz : HZ g x 36 y245 := by rw [ey245]; exact hz
  refine g_aload_n C tb_X12_init_5_ok (i := 1) rfl rfl ?_
  refine g_iconstv C tb_X12_init_5_ok (i := 2) 0 rfl k_iconstv_0 ?_
  obtain ⟨k246, h⟩ := gK_e h
  obtain ⟨r247, M248, er247, h⟩ := c0_e h
  refine g_callV0 C tb_X12_init_5_ok (i := 3) [.int (0 : Int32)] rfl mw_X12_begin mv_X12_begin ml_X12_143 k246 rfl rfl rfl rfl (w_X12_begin C.G y245 a0 (0 : Int32) M242) er247 rfl rfl rfl ?_
  refine g_aload_n C tb_X12_init_5_ok (i := 4) rfl rfl ?_
  refine g_bipushv C tb_X12_init_5_ok (i := 5) 20 rfl k_bipushv_20 ?_
  refine g_putI C tb_X12_init_5_ok (i := 6) rfl fl_X12_147 ft_12_32 rfl k246 ?_
  refine g_mem (fun M249 eM249 => ?_)
  have h := lt_e eM249 h
  cases h
  exact g_vretI C R hz rfl (by have h8 : x.2.2.2.2.1.heap.size + 0 = bs g + y.2.2 := hz0; have h9 : x.2.2.2.2.1.heap.size + _ = bs g + _ := hz; omega) rfl tb_X12_init_5_ok (i := 7) rfl
def f_X12_feed (y : Lay) (a0 : Nat) (a1 : Int32) (a2 : Int32) (a3 : Int32) (a4 : Int32) (a5 : Int32) (M : Mem) : Option (Int32 × Mem) := gK y a0 (0, 12) (lt (wI M a0 4 (0 : Int32)) fun (M2 : Mem) => br (((M2.1 a0 15) + (20 : Int32)) ≤ (700 : Int32)) (fixN (fun _ _ => none) (fun (s7 : Int32 → Mem → Option (Int32 × Mem)) (v5 : Int32) (M6 : Mem) => br ((20 : Int32) ≤ v5) (some ((M6.1 a0 15), M6)) (jn (fun (v11 : Int32) => gN (y.2.1 a0 14) (gd (¬ (4 : Int32) = 0) (gA y (y.2.1 a0 14) 1 (M6.1 a0 15) (lt (wI M6 (y.2.1 a0 14) (M6.1 a0 15).toNatClampNeg ((v11 >>> (((24 : Int32) - ((8 : Int32) * (v5 - v5 / (4 : Int32) * (4 : Int32)))) &&& 31)) &&& (255 : Int32))) fun (M16 : Mem) => lt (wI M16 a0 15 ((M16.1 a0 15) + (1 : Int32))) fun (M17 : Mem) => lt (v5 + (1 : Int32)) fun (v18 : Int32) => s7 v18 M17)))) fun j12 => br ((4 : Int32) ≤ v5) (br ((8 : Int32) ≤ v5) (br ((12 : Int32) ≤ v5) (br ((16 : Int32) ≤ v5) (j12 a5) (j12 a4)) (j12 a3)) (j12 a2)) (j12 a1))) FUEL (0 : Int32) M2) (some (((-1) : Int32), M2)))
theorem w_X12_feed {g : GX} {l : Launch} (hG : GF g l) (y : Lay) (a0 : Nat) (a1 : Int32) (a2 : Int32) (a3 : Int32) (a4 : Int32) (a5 : Int32) (M : Mem) : C0 g l yX12_feed cX12_feed 8 (some .int) 0 y [.ref a0, .int a1, .int a2, .int a3, .int a4, .int a5] M (f_X12_feed y a0 a1 a2 a3 a4 a5 M) := by
  refine C0_of hG (by decide) [some (.ref a0), some (.int a1), some (.int a2), some (.int a3), some (.int a4), some (.int a5), none, none] rfl rfl (fun out h x Q C R => ?_)
  unfold f_X12_feed at h
  refine g_aload_n C tb_X12_feed_0_ok (i := 0) rfl rfl ?_
  refine g_iconstv C tb_X12_feed_0_ok (i := 1) 0 rfl k_iconstv_0 ?_
  obtain ⟨k1, h⟩ := gK_e h
  refine g_putI C tb_X12_feed_0_ok (i := 2) rfl fl_X12_150 ft_12_4 rfl k1 ?_
  refine g_mem (fun M2 eM2 => ?_)
  have h := lt_e eM2 h
  refine g_aload_n C tb_X12_feed_0_ok (i := 3) rfl rfl ?_
  refine g_getI C tb_X12_feed_0_ok (i := 4) rfl fl_X12_161 rfl k1 ?_
  refine g_bipushv C tb_X12_feed_0_ok (i := 5) 20 rfl k_bipushv_20 ?_
  refine g_iadd C tb_X12_feed_0_ok (i := 6) rfl ?_
  refine g_sipushv C tb_X12_feed_0_ok (i := 7) 700 rfl k_sipushv_700 ?_
  obtain ⟨t3, f4⟩ := br_e h
  refine g_icmp_le C tb_X12_feed_0_ok (i := 8) 20 rfl rfl (fun c => ?_) (fun c => ?_)
  · have h := t3 c
    refine g_iconstv C tb_X12_feed_0_ok (i := 11) 0 rfl k_iconstv_0 ?_
    refine g_istore C tb_X12_feed_0_ok (i := 12) rfl rfl rfl ?_
    refine g_less (L' := [some (.ref a0), some (.int a1), some (.int a2), some (.int a3), some (.int a4), some (.int a5), some (.int (0 : Int32)), none]) ⟨rfl, ⟨rfl, ⟨rfl, ⟨rfl, ⟨rfl, ⟨rfl, ⟨rfl, trivial⟩⟩⟩⟩⟩⟩⟩ ?_
    refine fix_i (P := fun (f : Int32 → Mem → Option (Int32 × Mem)) => ∀ (v5 : Int32) (M6 : Mem), f v5 M6 = some out → GG g x 8 Q 0 0 y M6 23 [some (.ref a0), some (.int a1), some (.int a2), some (.int a3), some (.int a4), some (.int a5), some (.int v5), none] []) ?_ ?_ _ (0 : Int32) M2 h
    · intro v5 M6 h; exact (nn_e h).elim
    · intro s7 ih8 v5 M6 h
      refine g_iload C tb_X12_feed_0_ok (i := 13) rfl rfl ?_
      refine g_bipushv C tb_X12_feed_0_ok (i := 14) 20 rfl k_bipushv_20 ?_
      obtain ⟨t9, f10⟩ := br_e h
      refine g_icmp_ge C tb_X12_feed_0_ok (i := 15) 120 rfl rfl (fun c => ?_) (fun c => ?_)
      · have h := t9 c
        refine g_aload_n C tb_X12_feed_1_ok (i := 22) rfl rfl ?_
        refine g_getI C tb_X12_feed_1_ok (i := 23) rfl fl_X12_161 rfl k1 ?_
        cases h
        exact g_iret0 C R tb_X12_feed_1_ok (i := 24) rfl
      · have h := f10 c
        refine g_iload C tb_X12_feed_0_ok (i := 16) rfl rfl ?_
        refine g_iconstv C tb_X12_feed_0_ok (i := 17) 4 rfl k_iconstv_4 ?_
        obtain ⟨j12, ej12, h⟩ := jn_e h
        have J76 : ∀ (v11 : Int32), j12 v11 = some out → GG g x 8 Q 0 0 y M6 76 [some (.ref a0), some (.int a1), some (.int a2), some (.int a3), some (.int a4), some (.int a5), some (.int v5), none] [.int v11] := by
          intro v11 h; subst ej12
          refine g_istore C tb_X12_feed_0_ok (i := 37) rfl rfl rfl ?_
          refine g_aload_n C tb_X12_feed_0_ok (i := 38) rfl rfl ?_
          obtain ⟨n13, h⟩ := gN_e h
          refine g_getR C tb_X12_feed_0_ok (i := 39) rfl fl_X12_68 rfl k1 n13 ?_
          refine g_aload_n C tb_X12_feed_1_ok (i := 0) rfl rfl ?_
          refine g_getI C tb_X12_feed_1_ok (i := 1) rfl fl_X12_161 rfl k1 ?_
          refine g_iload C tb_X12_feed_1_ok (i := 2) rfl rfl ?_
          refine g_bipushv C tb_X12_feed_1_ok (i := 3) 24 rfl k_bipushv_24 ?_
          refine g_bipushv C tb_X12_feed_1_ok (i := 4) 8 rfl k_bipushv_8 ?_
          refine g_iload C tb_X12_feed_1_ok (i := 5) rfl rfl ?_
          refine g_iconstv C tb_X12_feed_1_ok (i := 6) 4 rfl k_iconstv_4 ?_
          obtain ⟨n14, h⟩ := gd_e h
          refine g_irem C tb_X12_feed_1_ok (i := 7) rfl n14 ?_
          refine g_imul C tb_X12_feed_1_ok (i := 8) rfl ?_
          refine g_isub C tb_X12_feed_1_ok (i := 9) rfl ?_
          refine g_ishr C tb_X12_feed_1_ok (i := 10) rfl ?_
          refine g_sipushv C tb_X12_feed_1_ok (i := 11) 255 rfl k_sipushv_255 ?_
          refine g_iand C tb_X12_feed_1_ok (i := 12) rfl ?_
          obtain ⟨b15, h⟩ := gA_e h
          refine g_iast C tb_X12_feed_1_ok (i := 13) rfl b15 ?_
          refine g_mem (fun M16 eM16 => ?_)
          have h := lt_e eM16 h
          refine g_aload_n C tb_X12_feed_1_ok (i := 14) rfl rfl ?_
          refine g_dup C tb_X12_feed_1_ok (i := 15) rfl rfl ?_
          refine g_getI C tb_X12_feed_1_ok (i := 16) rfl fl_X12_161 rfl k1 ?_
          refine g_iconstv C tb_X12_feed_1_ok (i := 17) 1 rfl k_iconstv_1 ?_
          refine g_iadd C tb_X12_feed_1_ok (i := 18) rfl ?_
          refine g_putI C tb_X12_feed_1_ok (i := 19) rfl fl_X12_161 ft_12_15 rfl k1 ?_
          refine g_mem (fun M17 eM17 => ?_)
          have h := lt_e eM17 h
          obtain ⟨v18, ev18⟩ : ∃ w : Int32, w = v5 + (1 : Int32) := ⟨_, rfl⟩
          have h := lt_e ev18 h
          refine g_iincv C tb_X12_feed_1_ok (i := 20) (1 : Int32) ev18 rfl rfl k_iconstv_1 rfl rfl ?_
          refine g_goto C tb_X12_feed_1_ok (i := 21) 23 rfl rfl ?_
          exact g_less (L' := [some (.ref a0), some (.int a1), some (.int a2), some (.int a3), some (.int a4), some (.int a5), some (.int v18), none]) ⟨rfl, ⟨rfl, ⟨rfl, ⟨rfl, ⟨rfl, ⟨rfl, ⟨rfl, trivial⟩⟩⟩⟩⟩⟩⟩ (ih8 v18 M17 h)
        obtain ⟨t19, f20⟩ := br_e h
        refine g_icmp_ge C tb_X12_feed_0_ok (i := 18) 40 rfl rfl (fun c => ?_) (fun c => ?_)
        · have h := t19 c
          refine g_iload C tb_X12_feed_0_ok (i := 21) rfl rfl ?_
          refine g_bipushv C tb_X12_feed_0_ok (i := 22) 8 rfl k_bipushv_8 ?_
          obtain ⟨t21, f22⟩ := br_e h
          refine g_icmp_ge C tb_X12_feed_0_ok (i := 23) 51 rfl rfl (fun c => ?_) (fun c => ?_)
          · have h := t21 c
            refine g_iload C tb_X12_feed_0_ok (i := 26) rfl rfl ?_
            refine g_bipushv C tb_X12_feed_0_ok (i := 27) 12 rfl k_bipushv_12 ?_
            obtain ⟨t23, f24⟩ := br_e h
            refine g_icmp_ge C tb_X12_feed_0_ok (i := 28) 62 rfl rfl (fun c => ?_) (fun c => ?_)
            · have h := t23 c
              refine g_iload C tb_X12_feed_0_ok (i := 31) rfl rfl ?_
              refine g_bipushv C tb_X12_feed_0_ok (i := 32) 16 rfl k_bipushv_16 ?_
              obtain ⟨t25, f26⟩ := br_e h
              refine g_icmp_ge C tb_X12_feed_0_ok (i := 33) 74 rfl rfl (fun c => ?_) (fun c => ?_)
              · have h := t25 c
                refine g_iload C tb_X12_feed_0_ok (i := 36) rfl rfl ?_
                exact g_less (L' := [some (.ref a0), some (.int a1), some (.int a2), some (.int a3), some (.int a4), some (.int a5), some (.int v5), none]) ⟨rfl, ⟨rfl, ⟨rfl, ⟨rfl, ⟨rfl, ⟨rfl, ⟨rfl, trivial⟩⟩⟩⟩⟩⟩⟩ (J76 a5 h)
              · have h := f26 c
                refine g_iload C tb_X12_feed_0_ok (i := 34) rfl rfl ?_
                refine g_goto C tb_X12_feed_0_ok (i := 35) 76 rfl rfl ?_
                exact g_less (L' := [some (.ref a0), some (.int a1), some (.int a2), some (.int a3), some (.int a4), some (.int a5), some (.int v5), none]) ⟨rfl, ⟨rfl, ⟨rfl, ⟨rfl, ⟨rfl, ⟨rfl, ⟨rfl, trivial⟩⟩⟩⟩⟩⟩⟩ (J76 a4 h)
            · have h := f24 c
              refine g_iload_n C tb_X12_feed_0_ok (i := 29) rfl rfl ?_
              refine g_goto C tb_X12_feed_0_ok (i := 30) 76 rfl rfl ?_
              exact g_less (L' := [some (.ref a0), some (.int a1), some (.int a2), some (.int a3), some (.int a4), some (.int a5), some (.int v5), none]) ⟨rfl, ⟨rfl, ⟨rfl, ⟨rfl, ⟨rfl, ⟨rfl, ⟨rfl, trivial⟩⟩⟩⟩⟩⟩⟩ (J76 a3 h)
          · have h := f22 c
            refine g_iload_n C tb_X12_feed_0_ok (i := 24) rfl rfl ?_
            refine g_goto C tb_X12_feed_0_ok (i := 25) 76 rfl rfl ?_
            exact g_less (L' := [some (.ref a0), some (.int a1), some (.int a2), some (.int a3), some (.int a4), some (.int a5), some (.int v5), none]) ⟨rfl, ⟨rfl, ⟨rfl, ⟨rfl, ⟨rfl, ⟨rfl, ⟨rfl, trivial⟩⟩⟩⟩⟩⟩⟩ (J76 a2 h)
        · have h := f20 c
          refine g_iload_n C tb_X12_feed_0_ok (i := 19) rfl rfl ?_
          refine g_goto C tb_X12_feed_0_ok (i := 20) 76 rfl rfl ?_
          exact g_less (L' := [some (.ref a0), some (.int a1), some (.int a2), some (.int a3), some (.int a4), some (.int a5), some (.int v5), none]) ⟨rfl, ⟨rfl, ⟨rfl, ⟨rfl, ⟨rfl, ⟨rfl, ⟨rfl, trivial⟩⟩⟩⟩⟩⟩⟩ (J76 a1 h)
  · have h := f4 c
    refine g_iconstv C tb_X12_feed_0_ok (i := 9) (-1) rfl k_iconstv_m1 ?_
    cases h
    exact g_iret0 C R tb_X12_feed_0_ok (i := 10) rfl
def f_X12_fail (y : Lay) (a0 : Nat) (a1 : Int32) (M : Mem) : Option (Int32 × Mem) := gK y a0 (0, 12) (lt (wI M a0 4 a1) fun (M2 : Mem) => some ((0 : Int32), M2))
theorem w_X12_fail {g : GX} {l : Launch} (hG : GF g l) (y : Lay) (a0 : Nat) (a1 : Int32) (M : Mem) : C0 g l yX12_fail cX12_fail 2 (some .int) 0 y [.ref a0, .int a1] M (f_X12_fail y a0 a1 M) := by
  refine C0_of hG (by decide) [some (.ref a0), some (.int a1)] rfl rfl (fun out h x Q C R => ?_)
  unfold f_X12_fail at h
  refine g_aload_n C tb_X12_fail_0_ok (i := 0) rfl rfl ?_
  refine g_iload_n C tb_X12_fail_0_ok (i := 1) rfl rfl ?_
  obtain ⟨k1, h⟩ := gK_e h
  refine g_putI C tb_X12_fail_0_ok (i := 2) rfl fl_X12_150 ft_12_4 rfl k1 ?_
  refine g_mem (fun M2 eM2 => ?_)
  have h := lt_e eM2 h
  refine g_iconstv C tb_X12_fail_0_ok (i := 3) 0 rfl k_iconstv_0 ?_
  cases h
  exact g_iret0 C R tb_X12_fail_0_ok (i := 4) rfl
def f_X12_byteAt (y : Lay) (a0 : Nat) (a1 : Int32) (M : Mem) : Option Int32 := gK y a0 (0, 12) (jn (fun (v2 : Int32) => some v2) fun j3 => br ((M.1 a0 17) ≤ a1) (j3 ((-1) : Int32)) (gN (y.2.1 a0 14) (gA y (y.2.1 a0 14) 1 a1 (j3 (M.1 (y.2.1 a0 14) a1.toNatClampNeg)))))
theorem w_X12_byteAt {g : GX} {l : Launch} (hG : GF g l) (y : Lay) (a0 : Nat) (a1 : Int32) (M : Mem) : C0 g l yX12_byteAt cX12_byteAt 2 (some .int) 0 y [.ref a0, .int a1] M (pm M (f_X12_byteAt y a0 a1 M)) := by
  refine CP_of hG (by decide) [some (.ref a0), some (.int a1)] rfl rfl (fun out h x Q C R => ?_)
  unfold f_X12_byteAt at h
  refine g_iload_n C tb_X12_byteAt_0_ok (i := 0) rfl rfl ?_
  refine g_aload_n C tb_X12_byteAt_0_ok (i := 1) rfl rfl ?_
  obtain ⟨k1, h⟩ := gK_e h
  refine g_getI C tb_X12_byteAt_0_ok (i := 2) rfl fl_X12_164 rfl k1 ?_
  obtain ⟨j3, ej3, h⟩ := jn_e h
  have J18 : ∀ (v2 : Int32), j3 v2 = some out → GG g x 2 Q 0 0 y M 18 [none, none] [.int v2] := by
    intro v2 h; subst ej3
    cases h
    exact g_iret0 C R tb_X12_byteAt_0_ok (i := 10) rfl
  obtain ⟨t4, f5⟩ := br_e h
  refine g_icmp_ge C tb_X12_byteAt_0_ok (i := 3) 17 rfl rfl (fun c => ?_) (fun c => ?_)
  · have h := t4 c
    refine g_iconstv C tb_X12_byteAt_0_ok (i := 9) (-1) rfl k_iconstv_m1 ?_
    exact g_less (L' := [none, none]) trivial (J18 ((-1) : Int32) h)
  · have h := f5 c
    refine g_aload_n C tb_X12_byteAt_0_ok (i := 4) rfl rfl ?_
    obtain ⟨n6, h⟩ := gN_e h
    refine g_getR C tb_X12_byteAt_0_ok (i := 5) rfl fl_X12_68 rfl k1 n6 ?_
    refine g_iload_n C tb_X12_byteAt_0_ok (i := 6) rfl rfl ?_
    obtain ⟨b7, h⟩ := gA_e h
    refine g_iald C tb_X12_byteAt_0_ok (i := 7) rfl b7 ?_
    refine g_goto C tb_X12_byteAt_0_ok (i := 8) 18 rfl rfl ?_
    exact g_less (L' := [none, none]) trivial (J18 (M.1 (y.2.1 a0 14) a1.toNatClampNeg) h)
def f_X12_isLetter (y : Lay) (a0 : Int32) (M : Mem) : Option Int32 := jn (fun (v1 : Int32) => gd (v1 = 0 ∨ v1 = 1) (some v1)) fun j2 => jn (fun (_u : Unit) => j2 (0 : Int32)) fun j3 => br (a0 < (97 : Int32)) (j3 ()) (br ((122 : Int32) < a0) (j3 ()) (j2 (1 : Int32)))
theorem w_X12_isLetter {g : GX} {l : Launch} (hG : GF g l) (y : Lay) (a0 : Int32) (M : Mem) : C0 g l yX12_isLetter cX12_isLetter 1 (some .boolean) 0 y [.int a0] M (pm M (f_X12_isLetter y a0 M)) := by
  refine CP_of hG (by decide) [some (.int a0)] rfl rfl (fun out h x Q C R => ?_)
  unfold f_X12_isLetter at h
  refine g_iload_n C tb_X12_isLetter_0_ok (i := 0) rfl rfl ?_
  refine g_bipushv C tb_X12_isLetter_0_ok (i := 1) 97 rfl k_bipushv_97 ?_
  obtain ⟨j2, ej2, h⟩ := jn_e h
  have J17 : ∀ (v1 : Int32), j2 v1 = some out → GG g x 1 Q 0 0 y M 17 [none] [.int v1] := by
    intro v1 h; subst ej2
    obtain ⟨hz, h⟩ := gd_e h
    cases h
    exact g_zret0 C R hz tb_X12_isLetter_0_ok (i := 9) rfl
  obtain ⟨j3, ej3, h⟩ := jn_e h
  have J16 : ∀ (_u : Unit), j3 _u = some out → GG g x 1 Q 0 0 y M 16 [none] [] := by
    intro _u h; subst ej3
    refine g_iconstv C tb_X12_isLetter_0_ok (i := 8) 0 rfl k_iconstv_0 ?_
    exact g_less (L' := [none]) trivial (J17 (0 : Int32) h)
  obtain ⟨t4, f5⟩ := br_e h
  refine g_icmp_lt C tb_X12_isLetter_0_ok (i := 2) 16 rfl rfl (fun c => ?_) (fun c => ?_)
  · have h := t4 c
    exact g_less (L' := [none]) trivial (J16 () h)
  · have h := f5 c
    refine g_iload_n C tb_X12_isLetter_0_ok (i := 3) rfl rfl ?_
    refine g_bipushv C tb_X12_isLetter_0_ok (i := 4) 122 rfl k_bipushv_122 ?_
    obtain ⟨t6, f7⟩ := br_e h
    refine g_icmp_gt C tb_X12_isLetter_0_ok (i := 5) 16 rfl rfl (fun c => ?_) (fun c => ?_)
    · have h := t6 c
      exact g_less (L' := [none]) trivial (J16 () h)
    · have h := f7 c
      refine g_iconstv C tb_X12_isLetter_0_ok (i := 6) 1 rfl k_iconstv_1 ?_
      refine g_goto C tb_X12_isLetter_0_ok (i := 7) 17 rfl rfl ?_
      exact g_less (L' := [none]) trivial (J17 (1 : Int32) h)
def f_X12_isDigit (y : Lay) (a0 : Int32) (M : Mem) : Option Int32 := jn (fun (v1 : Int32) => gd (v1 = 0 ∨ v1 = 1) (some v1)) fun j2 => jn (fun (_u : Unit) => j2 (0 : Int32)) fun j3 => br (a0 < (48 : Int32)) (j3 ()) (br ((57 : Int32) < a0) (j3 ()) (j2 (1 : Int32)))
theorem w_X12_isDigit {g : GX} {l : Launch} (hG : GF g l) (y : Lay) (a0 : Int32) (M : Mem) : C0 g l yX12_isDigit cX12_isDigit 1 (some .boolean) 0 y [.int a0] M (pm M (f_X12_isDigit y a0 M)) := by
  refine CP_of hG (by decide) [some (.int a0)] rfl rfl (fun out h x Q C R => ?_)
  unfold f_X12_isDigit at h
  refine g_iload_n C tb_X12_isDigit_0_ok (i := 0) rfl rfl ?_
  refine g_bipushv C tb_X12_isDigit_0_ok (i := 1) 48 rfl k_bipushv_48 ?_
  obtain ⟨j2, ej2, h⟩ := jn_e h
  have J17 : ∀ (v1 : Int32), j2 v1 = some out → GG g x 1 Q 0 0 y M 17 [none] [.int v1] := by
    intro v1 h; subst ej2
    obtain ⟨hz, h⟩ := gd_e h
    cases h
    exact g_zret0 C R hz tb_X12_isDigit_0_ok (i := 9) rfl
  obtain ⟨j3, ej3, h⟩ := jn_e h
  have J16 : ∀ (_u : Unit), j3 _u = some out → GG g x 1 Q 0 0 y M 16 [none] [] := by
    intro _u h; subst ej3
    refine g_iconstv C tb_X12_isDigit_0_ok (i := 8) 0 rfl k_iconstv_0 ?_
    exact g_less (L' := [none]) trivial (J17 (0 : Int32) h)
  obtain ⟨t4, f5⟩ := br_e h
  refine g_icmp_lt C tb_X12_isDigit_0_ok (i := 2) 16 rfl rfl (fun c => ?_) (fun c => ?_)
  · have h := t4 c
    exact g_less (L' := [none]) trivial (J16 () h)
  · have h := f5 c
    refine g_iload_n C tb_X12_isDigit_0_ok (i := 3) rfl rfl ?_
    refine g_bipushv C tb_X12_isDigit_0_ok (i := 4) 57 rfl k_bipushv_57 ?_
    obtain ⟨t6, f7⟩ := br_e h
    refine g_icmp_gt C tb_X12_isDigit_0_ok (i := 5) 16 rfl rfl (fun c => ?_) (fun c => ?_)
    · have h := t6 c
      exact g_less (L' := [none]) trivial (J16 () h)
    · have h := f7 c
      refine g_iconstv C tb_X12_isDigit_0_ok (i := 6) 1 rfl k_iconstv_1 ?_
      refine g_goto C tb_X12_isDigit_0_ok (i := 7) 17 rfl rfl ?_
      exact g_less (L' := [none]) trivial (J17 (1 : Int32) h)
def f_X12_isMark (y : Lay) (a0 : Int32) (M : Mem) : Option Int32 := jn (fun (v1 : Int32) => gd (v1 = 0 ∨ v1 = 1) (some v1)) fun j2 => jn (fun (_u : Unit) => j2 (1 : Int32)) fun j3 => br (a0 = (59 : Int32)) (j3 ()) (br (a0 = (40 : Int32)) (j3 ()) (br (a0 = (41 : Int32)) (j3 ()) (br (a0 = (43 : Int32)) (j3 ()) (br (a0 = (45 : Int32)) (j3 ()) (br (a0 = (42 : Int32)) (j3 ()) (br (a0 = (47 : Int32)) (j3 ()) (br (a0 = (60 : Int32)) (j3 ()) (br (a0 = (61 : Int32)) (j3 ()) (j2 (0 : Int32))))))))))
theorem w_X12_isMark {g : GX} {l : Launch} (hG : GF g l) (y : Lay) (a0 : Int32) (M : Mem) : C0 g l yX12_isMark cX12_isMark 1 (some .boolean) 0 y [.int a0] M (pm M (f_X12_isMark y a0 M)) := by
  refine CP_of hG (by decide) [some (.int a0)] rfl rfl (fun out h x Q C R => ?_)
  unfold f_X12_isMark at h
  refine g_iload_n C tb_X12_isMark_0_ok (i := 0) rfl rfl ?_
  refine g_bipushv C tb_X12_isMark_0_ok (i := 1) 59 rfl k_bipushv_59 ?_
  obtain ⟨j2, ej2, h⟩ := jn_e h
  have J59 : ∀ (v1 : Int32), j2 v1 = some out → GG g x 1 Q 0 0 y M 59 [none] [.int v1] := by
    intro v1 h; subst ej2
    obtain ⟨hz, h⟩ := gd_e h
    cases h
    exact g_zret0 C R hz tb_X12_isMark_0_ok (i := 30) rfl
  obtain ⟨j3, ej3, h⟩ := jn_e h
  have J54 : ∀ (_u : Unit), j3 _u = some out → GG g x 1 Q 0 0 y M 54 [none] [] := by
    intro _u h; subst ej3
    refine g_iconstv C tb_X12_isMark_0_ok (i := 27) 1 rfl k_iconstv_1 ?_
    refine g_goto C tb_X12_isMark_0_ok (i := 28) 59 rfl rfl ?_
    exact g_less (L' := [none]) trivial (J59 (1 : Int32) h)
  obtain ⟨t4, f5⟩ := br_e h
  refine g_icmp_eq C tb_X12_isMark_0_ok (i := 2) 54 rfl rfl (fun c => ?_) (fun c => ?_)
  · have h := t4 c
    exact g_less (L' := [none]) trivial (J54 () h)
  · have h := f5 c
    refine g_iload_n C tb_X12_isMark_0_ok (i := 3) rfl rfl ?_
    refine g_bipushv C tb_X12_isMark_0_ok (i := 4) 40 rfl k_bipushv_40 ?_
    obtain ⟨t6, f7⟩ := br_e h
    refine g_icmp_eq C tb_X12_isMark_0_ok (i := 5) 54 rfl rfl (fun c => ?_) (fun c => ?_)
    · have h := t6 c
      exact g_less (L' := [none]) trivial (J54 () h)
    · have h := f7 c
      refine g_iload_n C tb_X12_isMark_0_ok (i := 6) rfl rfl ?_
      refine g_bipushv C tb_X12_isMark_0_ok (i := 7) 41 rfl k_bipushv_41 ?_
      obtain ⟨t8, f9⟩ := br_e h
      refine g_icmp_eq C tb_X12_isMark_0_ok (i := 8) 54 rfl rfl (fun c => ?_) (fun c => ?_)
      · have h := t8 c
        exact g_less (L' := [none]) trivial (J54 () h)
      · have h := f9 c
        refine g_iload_n C tb_X12_isMark_0_ok (i := 9) rfl rfl ?_
        refine g_bipushv C tb_X12_isMark_0_ok (i := 10) 43 rfl k_bipushv_43 ?_
        obtain ⟨t10, f11⟩ := br_e h
        refine g_icmp_eq C tb_X12_isMark_0_ok (i := 11) 54 rfl rfl (fun c => ?_) (fun c => ?_)
        · have h := t10 c
          exact g_less (L' := [none]) trivial (J54 () h)
        · have h := f11 c
          refine g_iload_n C tb_X12_isMark_0_ok (i := 12) rfl rfl ?_
          refine g_bipushv C tb_X12_isMark_0_ok (i := 13) 45 rfl k_bipushv_45 ?_
          obtain ⟨t12, f13⟩ := br_e h
          refine g_icmp_eq C tb_X12_isMark_0_ok (i := 14) 54 rfl rfl (fun c => ?_) (fun c => ?_)
          · have h := t12 c
            exact g_less (L' := [none]) trivial (J54 () h)
          · have h := f13 c
            refine g_iload_n C tb_X12_isMark_0_ok (i := 15) rfl rfl ?_
            refine g_bipushv C tb_X12_isMark_0_ok (i := 16) 42 rfl k_bipushv_42 ?_
            obtain ⟨t14, f15⟩ := br_e h
            refine g_icmp_eq C tb_X12_isMark_0_ok (i := 17) 54 rfl rfl (fun c => ?_) (fun c => ?_)
            · have h := t14 c
              exact g_less (L' := [none]) trivial (J54 () h)
            · have h := f15 c
              refine g_iload_n C tb_X12_isMark_0_ok (i := 18) rfl rfl ?_
              refine g_bipushv C tb_X12_isMark_0_ok (i := 19) 47 rfl k_bipushv_47 ?_
              obtain ⟨t16, f17⟩ := br_e h
              refine g_icmp_eq C tb_X12_isMark_0_ok (i := 20) 54 rfl rfl (fun c => ?_) (fun c => ?_)
              · have h := t16 c
                exact g_less (L' := [none]) trivial (J54 () h)
              · have h := f17 c
                refine g_iload_n C tb_X12_isMark_0_ok (i := 21) rfl rfl ?_
                refine g_bipushv C tb_X12_isMark_0_ok (i := 22) 60 rfl k_bipushv_60 ?_
                obtain ⟨t18, f19⟩ := br_e h
                refine g_icmp_eq C tb_X12_isMark_0_ok (i := 23) 54 rfl rfl (fun c => ?_) (fun c => ?_)
                · have h := t18 c
                  exact g_less (L' := [none]) trivial (J54 () h)
                · have h := f19 c
                  refine g_iload_n C tb_X12_isMark_0_ok (i := 24) rfl rfl ?_
                  refine g_bipushv C tb_X12_isMark_0_ok (i := 25) 61 rfl k_bipushv_61 ?_
                  obtain ⟨t20, f21⟩ := br_e h
                  refine g_icmp_ne C tb_X12_isMark_0_ok (i := 26) 58 rfl rfl (fun c => ?_) (fun c => ?_)
                  · have h := f21 c
                    refine g_iconstv C tb_X12_isMark_0_ok (i := 29) 0 rfl k_iconstv_0 ?_
                    exact g_less (L' := [none]) trivial (J59 (0 : Int32) h)
                  · have h := t20 c
                    exact g_less (L' := [none]) trivial (J54 () h)
def f_X12_stepOn (y : Lay) (a0 : Nat) (M : Mem) : Option (Int32 × Mem) := fixN (fun _ => none) (fun (s2 : Mem → Option (Int32 × Mem)) (M1 : Mem) => gK y a0 (0, 12) (cp (f_X12_byteAt y a0 (M1.1 a0 16) M1) fun (r5 : Int32) => jn (fun (_u : Unit) => lt (wI M1 a0 16 ((M1.1 a0 16) + (1 : Int32))) fun (M7 : Mem) => s2 M7) fun j6 => br (r5 = (32 : Int32)) (j6 ()) (cp (f_X12_byteAt y a0 (M1.1 a0 16) M1) fun (r10 : Int32) => br (r10 = (10 : Int32)) (j6 ()) (lt (wI M1 a0 20 (M1.1 a0 16)) fun (M13 : Mem) => cp (f_X12_byteAt y a0 (M13.1 a0 16) M13) fun (r14 : Int32) => jn (fun (M15 : Mem) => lt (wI M15 a0 21 (M15.1 a0 16)) fun (M17 : Mem) => some (0, M17)) fun j16 => br (r14 = ((-1) : Int32)) (lt (wI M13 a0 18 (0 : Int32)) fun (M54 : Mem) => j16 M54) (cp (f_X12_isLetter y r14 M13) fun (r20 : Int32) => br (r20 = 0) (cp (f_X12_isDigit y r14 M13) fun (r23 : Int32) => br (r23 = 0) (lt (wI M13 a0 16 ((M13.1 a0 16) + (1 : Int32))) fun (M26 : Mem) => cp (f_X12_isMark y r14 M26) fun (r27 : Int32) => jn (fun (v28 : Int32) => lt (wI M26 a0 18 v28) fun (M30 : Mem) => j16 M30) fun j29 => br (r27 = 0) (j29 (4 : Int32)) (j29 (3 : Int32))) (lt (wI M13 a0 19 (0 : Int32)) fun (M33 : Mem) => fixN (fun _ => none) (fun (s35 : Mem → Option (Int32 × Mem)) (M34 : Mem) => cp (f_X12_byteAt y a0 (M34.1 a0 16) M34) fun (r37 : Int32) => cp (f_X12_isDigit y r37 M34) fun (r38 : Int32) => br (r38 = 0) (lt (wI M34 a0 18 (2 : Int32)) fun (M41 : Mem) => j16 M41) (cp (f_X12_byteAt y a0 (M34.1 a0 16) M34) fun (r42 : Int32) => lt (wI M34 a0 19 (jmin (100000 : Int32) ((((10 : Int32) * (M34.1 a0 19)) + r42) - (48 : Int32)))) fun (M43 : Mem) => lt (wI M43 a0 16 ((M43.1 a0 16) + (1 : Int32))) fun (M44 : Mem) => s35 M44)) FUEL M33)) (fixN (fun _ => none) (fun (s46 : Mem → Option (Int32 × Mem)) (M45 : Mem) => cp (f_X12_byteAt y a0 (M45.1 a0 16) M45) fun (r48 : Int32) => cp (f_X12_isLetter y r48 M45) fun (r49 : Int32) => br (r49 = 0) (lt (wI M45 a0 18 (1 : Int32)) fun (M52 : Mem) => j16 M52) (lt (wI M45 a0 16 ((M45.1 a0 16) + (1 : Int32))) fun (M53 : Mem) => s46 M53)) FUEL M13)))))) FUEL M
theorem w_X12_stepOn {g : GX} {l : Launch} (hG : GF g l) (y : Lay) (a0 : Nat) (M : Mem) : C0 g l yX12_stepOn cX12_stepOn 2 none 1 y [.ref a0] M (f_X12_stepOn y a0 M) := by
  refine C0_of hG (by decide) [some (.ref a0), none] rfl rfl (fun out h x Q C R => ?_)
  unfold f_X12_stepOn at h
  refine g_less (L' := [some (.ref a0), none]) ⟨rfl, trivial⟩ ?_
  refine fix_i (P := fun (f : Mem → Option (Int32 × Mem)) => ∀ (M1 : Mem), f M1 = some out → GG g x 2 Q 0 0 y M1 0 [some (.ref a0), none] []) ?_ ?_ _ M h
  · intro M1 h; exact (nn_e h).elim
  · intro s2 ih3 M1 h
    refine g_aload_n C tb_X12_stepOn_0_ok (i := 0) rfl rfl ?_
    refine g_aload_n C tb_X12_stepOn_0_ok (i := 1) rfl rfl ?_
    obtain ⟨k4, h⟩ := gK_e h
    refine g_getI C tb_X12_stepOn_0_ok (i := 2) rfl fl_X12_167 rfl k4 ?_
    obtain ⟨r5, er5, h⟩ := cp_e h
    refine g_callV0 C tb_X12_stepOn_0_ok (i := 3) [.int (M1.1 a0 16)] rfl mw_X12_byteAt mv_X12_byteAt ml_X12_170 k4 rfl rfl rfl rfl (w_X12_byteAt C.G y a0 (M1.1 a0 16) M1) (pm_s er5) rfl rfl rfl ?_
    refine g_bipushv C tb_X12_stepOn_0_ok (i := 4) 32 rfl k_bipushv_32 ?_
    obtain ⟨j6, ej6, h⟩ := jn_e h
    have J26 : ∀ (_u : Unit), j6 _u = some out → GG g x 2 Q 0 0 y M1 26 [some (.ref a0), none] [] := by
      intro _u h; subst ej6
      refine g_aload_n C tb_X12_stepOn_0_ok (i := 12) rfl rfl ?_
      refine g_dup C tb_X12_stepOn_0_ok (i := 13) rfl rfl ?_
      refine g_getI C tb_X12_stepOn_0_ok (i := 14) rfl fl_X12_167 rfl k4 ?_
      refine g_iconstv C tb_X12_stepOn_0_ok (i := 15) 1 rfl k_iconstv_1 ?_
      refine g_iadd C tb_X12_stepOn_0_ok (i := 16) rfl ?_
      refine g_putI C tb_X12_stepOn_0_ok (i := 17) rfl fl_X12_167 ft_12_16 rfl k4 ?_
      refine g_mem (fun M7 eM7 => ?_)
      have h := lt_e eM7 h
      refine g_goto C tb_X12_stepOn_0_ok (i := 18) 0 rfl rfl ?_
      exact g_less (L' := [some (.ref a0), none]) ⟨rfl, trivial⟩ (ih3 M7 h)
    obtain ⟨t8, f9⟩ := br_e h
    refine g_icmp_eq C tb_X12_stepOn_0_ok (i := 5) 26 rfl rfl (fun c => ?_) (fun c => ?_)
    · have h := t8 c
      exact g_less (L' := [some (.ref a0), none]) ⟨rfl, trivial⟩ (J26 () h)
    · have h := f9 c
      refine g_aload_n C tb_X12_stepOn_0_ok (i := 6) rfl rfl ?_
      refine g_aload_n C tb_X12_stepOn_0_ok (i := 7) rfl rfl ?_
      refine g_getI C tb_X12_stepOn_0_ok (i := 8) rfl fl_X12_167 rfl k4 ?_
      obtain ⟨r10, er10, h⟩ := cp_e h
      refine g_callV0 C tb_X12_stepOn_0_ok (i := 9) [.int (M1.1 a0 16)] rfl mw_X12_byteAt mv_X12_byteAt ml_X12_170 k4 rfl rfl rfl rfl (w_X12_byteAt C.G y a0 (M1.1 a0 16) M1) (pm_s er10) rfl rfl rfl ?_
      refine g_bipushv C tb_X12_stepOn_0_ok (i := 10) 10 rfl k_bipushv_10 ?_
      obtain ⟨t11, f12⟩ := br_e h
      refine g_icmp_ne C tb_X12_stepOn_0_ok (i := 11) 39 rfl rfl (fun c => ?_) (fun c => ?_)
      · have h := f12 c
        refine g_aload_n C tb_X12_stepOn_0_ok (i := 19) rfl rfl ?_
        refine g_aload_n C tb_X12_stepOn_0_ok (i := 20) rfl rfl ?_
        refine g_getI C tb_X12_stepOn_0_ok (i := 21) rfl fl_X12_167 rfl k4 ?_
        refine g_putI C tb_X12_stepOn_0_ok (i := 22) rfl fl_X12_174 ft_12_20 rfl k4 ?_
        refine g_mem (fun M13 eM13 => ?_)
        have h := lt_e eM13 h
        refine g_aload_n C tb_X12_stepOn_0_ok (i := 23) rfl rfl ?_
        refine g_aload_n C tb_X12_stepOn_0_ok (i := 24) rfl rfl ?_
        refine g_getI C tb_X12_stepOn_0_ok (i := 25) rfl fl_X12_167 rfl k4 ?_
        obtain ⟨r14, er14, h⟩ := cp_e h
        refine g_callV0 C tb_X12_stepOn_0_ok (i := 26) [.int (M13.1 a0 16)] rfl mw_X12_byteAt mv_X12_byteAt ml_X12_170 k4 rfl rfl rfl rfl (w_X12_byteAt C.G y a0 (M13.1 a0 16) M13) (pm_s er14) rfl rfl rfl ?_
        refine g_istore_n C tb_X12_stepOn_0_ok (i := 27) rfl rfl rfl ?_
        refine g_iload_n C tb_X12_stepOn_0_ok (i := 28) rfl rfl ?_
        refine g_iconstv C tb_X12_stepOn_0_ok (i := 29) (-1) rfl k_iconstv_m1 ?_
        obtain ⟨j16, ej16, h⟩ := jn_e h
        have J212 : ∀ (M15 : Mem), j16 M15 = some out → GG g x 2 Q 0 0 y M15 212 [some (.ref a0), none] [] := by
          intro M15 h; subst ej16
          refine g_aload_n C tb_X12_stepOn_2_ok (i := 27) rfl rfl ?_
          refine g_aload_n C tb_X12_stepOn_2_ok (i := 28) rfl rfl ?_
          refine g_getI C tb_X12_stepOn_2_ok (i := 29) rfl fl_X12_167 rfl k4 ?_
          refine g_putI C tb_X12_stepOn_2_ok (i := 30) rfl fl_X12_200 ft_12_21 rfl k4 ?_
          refine g_mem (fun M17 eM17 => ?_)
          have h := lt_e eM17 h
          cases h
          exact g_vret0 C R tb_X12_stepOn_2_ok (i := 31) rfl
        obtain ⟨t18, f19⟩ := br_e h
        refine g_icmp_ne C tb_X12_stepOn_0_ok (i := 30) 69 rfl rfl (fun c => ?_) (fun c => ?_)
        · have h := f19 c
          refine g_iload_n C tb_X12_stepOn_0_ok (i := 35) rfl rfl ?_
          obtain ⟨r20, er20, h⟩ := cp_e h
          refine g_callS0 C tb_X12_stepOn_0_ok (i := 36) [.int r14] rfl mw_X12_isLetter mst_X12_isLetter ml_X12_180 rfl rfl rfl rfl (w_X12_isLetter C.G y r14 M13) (pm_s er20) rfl rfl rfl ?_
          obtain ⟨t21, f22⟩ := br_e h
          refine g_if_eq C tb_X12_stepOn_0_ok (i := 37) 111 rfl rfl (fun c => ?_) (fun c => ?_)
          · have h := t21 c
            refine g_iload_n C tb_X12_stepOn_1_ok (i := 15) rfl rfl ?_
            obtain ⟨r23, er23, h⟩ := cp_e h
            refine g_callS0 C tb_X12_stepOn_1_ok (i := 16) [.int r14] rfl mw_X12_isDigit mst_X12_isDigit ml_X12_184 rfl rfl rfl rfl (w_X12_isDigit C.G y r14 M13) (pm_s er23) rfl rfl rfl ?_
            obtain ⟨t24, f25⟩ := br_e h
            refine g_if_eq C tb_X12_stepOn_1_ok (i := 17) 186 rfl rfl (fun c => ?_) (fun c => ?_)
            · have h := t24 c
              refine g_aload_n C tb_X12_stepOn_2_ok (i := 13) rfl rfl ?_
              refine g_dup C tb_X12_stepOn_2_ok (i := 14) rfl rfl ?_
              refine g_getI C tb_X12_stepOn_2_ok (i := 15) rfl fl_X12_167 rfl k4 ?_
              refine g_iconstv C tb_X12_stepOn_2_ok (i := 16) 1 rfl k_iconstv_1 ?_
              refine g_iadd C tb_X12_stepOn_2_ok (i := 17) rfl ?_
              refine g_putI C tb_X12_stepOn_2_ok (i := 18) rfl fl_X12_167 ft_12_16 rfl k4 ?_
              refine g_mem (fun M26 eM26 => ?_)
              have h := lt_e eM26 h
              refine g_aload_n C tb_X12_stepOn_2_ok (i := 19) rfl rfl ?_
              refine g_iload_n C tb_X12_stepOn_2_ok (i := 20) rfl rfl ?_
              obtain ⟨r27, er27, h⟩ := cp_e h
              refine g_callS0 C tb_X12_stepOn_2_ok (i := 21) [.int r14] rfl mw_X12_isMark mst_X12_isMark ml_X12_197 rfl rfl rfl rfl (w_X12_isMark C.G y r14 M26) (pm_s er27) rfl rfl rfl ?_
              obtain ⟨j29, ej29, h⟩ := jn_e h
              have J209 : ∀ (v28 : Int32), j29 v28 = some out → GG g x 2 Q 0 0 y M26 209 [some (.ref a0), none] [.int v28, .ref a0] := by
                intro v28 h; subst ej29
                refine g_putI C tb_X12_stepOn_2_ok (i := 26) rfl fl_X12_177 ft_12_18 rfl k4 ?_
                refine g_mem (fun M30 eM30 => ?_)
                have h := lt_e eM30 h
                exact g_less (L' := [some (.ref a0), none]) ⟨rfl, trivial⟩ (J212 M30 h)
              obtain ⟨t31, f32⟩ := br_e h
              refine g_if_eq C tb_X12_stepOn_2_ok (i := 22) 208 rfl rfl (fun c => ?_) (fun c => ?_)
              · have h := t31 c
                refine g_iconstv C tb_X12_stepOn_2_ok (i := 25) 4 rfl k_iconstv_4 ?_
                exact g_less (L' := [some (.ref a0), none]) ⟨rfl, trivial⟩ (J209 (4 : Int32) h)
              · have h := f32 c
                refine g_iconstv C tb_X12_stepOn_2_ok (i := 23) 3 rfl k_iconstv_3 ?_
                refine g_goto C tb_X12_stepOn_2_ok (i := 24) 209 rfl rfl ?_
                exact g_less (L' := [some (.ref a0), none]) ⟨rfl, trivial⟩ (J209 (3 : Int32) h)
            · have h := f25 c
              refine g_aload_n C tb_X12_stepOn_1_ok (i := 18) rfl rfl ?_
              refine g_iconstv C tb_X12_stepOn_1_ok (i := 19) 0 rfl k_iconstv_0 ?_
              refine g_putI C tb_X12_stepOn_1_ok (i := 20) rfl fl_X12_187 ft_12_19 rfl k4 ?_
              refine g_mem (fun M33 eM33 => ?_)
              have h := lt_e eM33 h
              refine g_less (L' := [some (.ref a0), none]) ⟨rfl, trivial⟩ ?_
              refine fix_i (P := fun (f : Mem → Option (Int32 × Mem)) => ∀ (M34 : Mem), f M34 = some out → GG g x 2 Q 0 0 y M34 123 [some (.ref a0), none] []) ?_ ?_ _ M33 h
              · intro M34 h; exact (nn_e h).elim
              · intro s35 ih36 M34 h
                refine g_aload_n C tb_X12_stepOn_1_ok (i := 21) rfl rfl ?_
                refine g_aload_n C tb_X12_stepOn_1_ok (i := 22) rfl rfl ?_
                refine g_getI C tb_X12_stepOn_1_ok (i := 23) rfl fl_X12_167 rfl k4 ?_
                obtain ⟨r37, er37, h⟩ := cp_e h
                refine g_callV0 C tb_X12_stepOn_1_ok (i := 24) [.int (M34.1 a0 16)] rfl mw_X12_byteAt mv_X12_byteAt ml_X12_170 k4 rfl rfl rfl rfl (w_X12_byteAt C.G y a0 (M34.1 a0 16) M34) (pm_s er37) rfl rfl rfl ?_
                obtain ⟨r38, er38, h⟩ := cp_e h
                refine g_callS0 C tb_X12_stepOn_1_ok (i := 25) [.int r37] rfl mw_X12_isDigit mst_X12_isDigit ml_X12_184 rfl rfl rfl rfl (w_X12_isDigit C.G y r37 M34) (pm_s er38) rfl rfl rfl ?_
                obtain ⟨t39, f40⟩ := br_e h
                refine g_if_eq C tb_X12_stepOn_1_ok (i := 26) 178 rfl rfl (fun c => ?_) (fun c => ?_)
                · have h := t39 c
                  refine g_aload_n C tb_X12_stepOn_2_ok (i := 9) rfl rfl ?_
                  refine g_iconstv C tb_X12_stepOn_2_ok (i := 10) 2 rfl k_iconstv_2 ?_
                  refine g_putI C tb_X12_stepOn_2_ok (i := 11) rfl fl_X12_177 ft_12_18 rfl k4 ?_
                  refine g_mem (fun M41 eM41 => ?_)
                  have h := lt_e eM41 h
                  refine g_goto C tb_X12_stepOn_2_ok (i := 12) 212 rfl rfl ?_
                  exact g_less (L' := [some (.ref a0), none]) ⟨rfl, trivial⟩ (J212 M41 h)
                · have h := f40 c
                  refine g_aload_n C tb_X12_stepOn_1_ok (i := 27) rfl rfl ?_
                  refine g_ldcI C tb_X12_stepOn_1_ok (i := 28) rfl cl_X12_190 ?_
                  refine g_bipushv C tb_X12_stepOn_1_ok (i := 29) 10 rfl k_bipushv_10 ?_
                  refine g_aload_n C tb_X12_stepOn_1_ok (i := 30) rfl rfl ?_
                  refine g_getI C tb_X12_stepOn_1_ok (i := 31) rfl fl_X12_187 rfl k4 ?_
                  refine g_imul C tb_X12_stepOn_1_ok (i := 32) rfl ?_
                  refine g_aload_n C tb_X12_stepOn_1_ok (i := 33) rfl rfl ?_
                  refine g_aload_n C tb_X12_stepOn_1_ok (i := 34) rfl rfl ?_
                  refine g_getI C tb_X12_stepOn_1_ok (i := 35) rfl fl_X12_167 rfl k4 ?_
                  obtain ⟨r42, er42, h⟩ := cp_e h
                  refine g_callV0 C tb_X12_stepOn_1_ok (i := 36) [.int (M34.1 a0 16)] rfl mw_X12_byteAt mv_X12_byteAt ml_X12_170 k4 rfl rfl rfl rfl (w_X12_byteAt C.G y a0 (M34.1 a0 16) M34) (pm_s er42) rfl rfl rfl ?_
                  refine g_iadd C tb_X12_stepOn_1_ok (i := 37) rfl ?_
                  refine g_bipushv C tb_X12_stepOn_1_ok (i := 38) 48 rfl k_bipushv_48 ?_
                  refine g_isub C tb_X12_stepOn_1_ok (i := 39) rfl ?_
                  refine g_min C tb_X12_stepOn_2_ok (i := 0) rfl mt_X12_191 rfl rfl rfl ?_
                  refine g_putI C tb_X12_stepOn_2_ok (i := 1) rfl fl_X12_187 ft_12_19 rfl k4 ?_
                  refine g_mem (fun M43 eM43 => ?_)
                  have h := lt_e eM43 h
                  refine g_aload_n C tb_X12_stepOn_2_ok (i := 2) rfl rfl ?_
                  refine g_dup C tb_X12_stepOn_2_ok (i := 3) rfl rfl ?_
                  refine g_getI C tb_X12_stepOn_2_ok (i := 4) rfl fl_X12_167 rfl k4 ?_
                  refine g_iconstv C tb_X12_stepOn_2_ok (i := 5) 1 rfl k_iconstv_1 ?_
                  refine g_iadd C tb_X12_stepOn_2_ok (i := 6) rfl ?_
                  refine g_putI C tb_X12_stepOn_2_ok (i := 7) rfl fl_X12_167 ft_12_16 rfl k4 ?_
                  refine g_mem (fun M44 eM44 => ?_)
                  have h := lt_e eM44 h
                  refine g_goto C tb_X12_stepOn_2_ok (i := 8) 123 rfl rfl ?_
                  exact g_less (L' := [some (.ref a0), none]) ⟨rfl, trivial⟩ (ih36 M44 h)
          · have h := f22 c
            refine g_less (L' := [some (.ref a0), none]) ⟨rfl, trivial⟩ ?_
            refine fix_i (P := fun (f : Mem → Option (Int32 × Mem)) => ∀ (M45 : Mem), f M45 = some out → GG g x 2 Q 0 0 y M45 76 [some (.ref a0), none] []) ?_ ?_ _ M13 h
            · intro M45 h; exact (nn_e h).elim
            · intro s46 ih47 M45 h
              refine g_aload_n C tb_X12_stepOn_0_ok (i := 38) rfl rfl ?_
              refine g_aload_n C tb_X12_stepOn_0_ok (i := 39) rfl rfl ?_
              refine g_getI C tb_X12_stepOn_1_ok (i := 0) rfl fl_X12_167 rfl k4 ?_
              obtain ⟨r48, er48, h⟩ := cp_e h
              refine g_callV0 C tb_X12_stepOn_1_ok (i := 1) [.int (M45.1 a0 16)] rfl mw_X12_byteAt mv_X12_byteAt ml_X12_170 k4 rfl rfl rfl rfl (w_X12_byteAt C.G y a0 (M45.1 a0 16) M45) (pm_s er48) rfl rfl rfl ?_
              obtain ⟨r49, er49, h⟩ := cp_e h
              refine g_callS0 C tb_X12_stepOn_1_ok (i := 2) [.int r48] rfl mw_X12_isLetter mst_X12_isLetter ml_X12_180 rfl rfl rfl rfl (w_X12_isLetter C.G y r48 M45) (pm_s er49) rfl rfl rfl ?_
              obtain ⟨t50, f51⟩ := br_e h
              refine g_if_eq C tb_X12_stepOn_1_ok (i := 3) 103 rfl rfl (fun c => ?_) (fun c => ?_)
              · have h := t50 c
                refine g_aload_n C tb_X12_stepOn_1_ok (i := 11) rfl rfl ?_
                refine g_iconstv C tb_X12_stepOn_1_ok (i := 12) 1 rfl k_iconstv_1 ?_
                refine g_putI C tb_X12_stepOn_1_ok (i := 13) rfl fl_X12_177 ft_12_18 rfl k4 ?_
                refine g_mem (fun M52 eM52 => ?_)
                have h := lt_e eM52 h
                refine g_goto C tb_X12_stepOn_1_ok (i := 14) 212 rfl rfl ?_
                exact g_less (L' := [some (.ref a0), none]) ⟨rfl, trivial⟩ (J212 M52 h)
              · have h := f51 c
                refine g_aload_n C tb_X12_stepOn_1_ok (i := 4) rfl rfl ?_
                refine g_dup C tb_X12_stepOn_1_ok (i := 5) rfl rfl ?_
                refine g_getI C tb_X12_stepOn_1_ok (i := 6) rfl fl_X12_167 rfl k4 ?_
                refine g_iconstv C tb_X12_stepOn_1_ok (i := 7) 1 rfl k_iconstv_1 ?_
                refine g_iadd C tb_X12_stepOn_1_ok (i := 8) rfl ?_
                refine g_putI C tb_X12_stepOn_1_ok (i := 9) rfl fl_X12_167 ft_12_16 rfl k4 ?_
                refine g_mem (fun M53 eM53 => ?_)
                have h := lt_e eM53 h
                refine g_goto C tb_X12_stepOn_1_ok (i := 10) 76 rfl rfl ?_
                exact g_less (L' := [some (.ref a0), none]) ⟨rfl, trivial⟩ (ih47 M53 h)
        · have h := t18 c
          refine g_aload_n C tb_X12_stepOn_0_ok (i := 31) rfl rfl ?_
          refine g_iconstv C tb_X12_stepOn_0_ok (i := 32) 0 rfl k_iconstv_0 ?_
          refine g_putI C tb_X12_stepOn_0_ok (i := 33) rfl fl_X12_177 ft_12_18 rfl k4 ?_
          refine g_mem (fun M54 eM54 => ?_)
          have h := lt_e eM54 h
          refine g_goto C tb_X12_stepOn_0_ok (i := 34) 212 rfl rfl ?_
          exact g_less (L' := [some (.ref a0), none]) ⟨rfl, trivial⟩ (J212 M54 h)
      · have h := t11 c
        exact g_less (L' := [some (.ref a0), none]) ⟨rfl, trivial⟩ (J26 () h)
def f_X12_is (y : Lay) (a0 : Nat) (a1 : Nat) (M : Mem) : Option Int32 := gK y a0 (0, 12) (jn (fun (v2 : Int32) => fixN (fun _ _ => none) (fun (s6 : Int32 → Int32 → Option Int32) (v4 : Int32) (v5 : Int32) => jn (fun (_u : Unit) => gd (v4 = 0 ∨ v4 = 1) (some v4)) fun j8 => br (v4 = 0) (j8 ()) (gd (1000 ≤ a1 ∧ a1 < 1037) (br ((Int32.ofNat (strB (a1 - 1000)).length) ≤ v5) (j8 ()) (gd (1000 ≤ a1 ∧ a1 < 1037) (gd (¬ (v5 < 0 ∨ (strB (a1 - 1000)).length ≤ v5.toNatClampNeg)) (gN (y.2.1 a0 14) (gA y (y.2.1 a0 14) 1 ((M.1 a0 20) + v5) (jn (fun (v18 : Int32) => lt (v5 + (1 : Int32)) fun (v20 : Int32) => s6 v18 v20) fun j19 => br (((strB (a1 - 1000)).getD v5.toNatClampNeg 0) = (M.1 (y.2.1 a0 14) ((M.1 a0 20) + v5).toNatClampNeg)) (j19 (1 : Int32)) (j19 (0 : Int32)))))))))) FUEL v2 (0 : Int32)) fun j3 => jn (fun (_u : Unit) => j3 (0 : Int32)) fun j23 => br ((M.1 a0 22) = 0) (br ((M.1 a0 18) = (1 : Int32)) (gd (1000 ≤ a1 ∧ a1 < 1037) (br ((Int32.ofNat (strB (a1 - 1000)).length) = ((M.1 a0 21) - (M.1 a0 20))) (j3 (1 : Int32)) (j23 ()))) (j23 ())) (j23 ()))
theorem w_X12_is {g : GX} {l : Launch} (hG : GF g l) (y : Lay) (a0 : Nat) (a1 : Nat) (M : Mem) : C0 g l yX12_is cX12_is 4 (some .boolean) 4 y [.ref a0, .ref a1] M (pm M (f_X12_is y a0 a1 M)) := by
  refine CP_of hG (by decide) [some (.ref a0), some (.ref a1), none, none] rfl rfl (fun out h x Q C R => ?_)
  unfold f_X12_is at h
  refine g_aload_n C tb_X12_is_0_ok (i := 0) rfl rfl ?_
  obtain ⟨k1, h⟩ := gK_e h
  refine g_getI C tb_X12_is_0_ok (i := 1) rfl fl_X12_203 rfl k1 ?_
  obtain ⟨j3, ej3, h⟩ := jn_e h
  have J36 : ∀ (v2 : Int32), j3 v2 = some out → GG g x 4 Q 0 0 y M 36 [some (.ref a0), some (.ref a1), none, none] [.int v2] := by
    intro v2 h; subst ej3
    refine g_istore_n C tb_X12_is_0_ok (i := 18) rfl rfl rfl ?_
    refine g_iconstv C tb_X12_is_0_ok (i := 19) 0 rfl k_iconstv_0 ?_
    refine g_istore_n C tb_X12_is_0_ok (i := 20) rfl rfl rfl ?_
    refine g_less (L' := [some (.ref a0), some (.ref a1), some (.int v2), some (.int (0 : Int32))]) ⟨rfl, ⟨rfl, ⟨rfl, ⟨rfl, trivial⟩⟩⟩⟩ ?_
    refine fix_i (P := fun (f : Int32 → Int32 → Option Int32) => ∀ (v4 : Int32) (v5 : Int32), f v4 v5 = some out → GG g x 4 Q 0 0 y M 39 [some (.ref a0), some (.ref a1), some (.int v4), some (.int v5)] []) ?_ ?_ _ v2 (0 : Int32) h
    · intro v4 v5 h; exact (nn_e h).elim
    · intro s6 ih7 v4 v5 h
      refine g_iload_n C tb_X12_is_0_ok (i := 21) rfl rfl ?_
      obtain ⟨j8, ej8, h⟩ := jn_e h
      have J82 : ∀ (_u : Unit), j8 _u = some out → GG g x 4 Q 0 0 y M 82 [none, none, some (.int v4), none] [] := by
        intro _u h; subst ej8
        refine g_iload_n C tb_X12_is_1_ok (i := 4) rfl rfl ?_
        obtain ⟨hz, h⟩ := gd_e h
        cases h
        exact g_zret0 C R hz tb_X12_is_1_ok (i := 5) rfl
      obtain ⟨t9, f10⟩ := br_e h
      refine g_if_eq C tb_X12_is_0_ok (i := 22) 82 rfl rfl (fun c => ?_) (fun c => ?_)
      · have h := t9 c
        exact g_less (L' := [none, none, some (.int v4), none]) ⟨rfl, trivial⟩ (J82 () h)
      · have h := f10 c
        refine g_iload_n C tb_X12_is_0_ok (i := 23) rfl rfl ?_
        refine g_aload_n C tb_X12_is_0_ok (i := 24) rfl rfl ?_
        obtain ⟨g11, h⟩ := gd_e h
        refine g_strLen C tb_X12_is_0_ok (i := 25) rfl sl_X12_209 rfl rfl rfl rfl g11 ?_
        obtain ⟨t12, f13⟩ := br_e h
        refine g_icmp_ge C tb_X12_is_0_ok (i := 26) 82 rfl rfl (fun c => ?_) (fun c => ?_)
        · have h := t12 c
          exact g_less (L' := [none, none, some (.int v4), none]) ⟨rfl, trivial⟩ (J82 () h)
        · have h := f13 c
          refine g_aload_n C tb_X12_is_0_ok (i := 27) rfl rfl ?_
          refine g_iload_n C tb_X12_is_0_ok (i := 28) rfl rfl ?_
          obtain ⟨g14, h⟩ := gd_e h
          obtain ⟨g15, h⟩ := gd_e h
          refine g_strCh C tb_X12_is_0_ok (i := 29) rfl sl_X12_212 rfl rfl rfl rfl g14 g15 ?_
          refine g_aload_n C tb_X12_is_0_ok (i := 30) rfl rfl ?_
          obtain ⟨n16, h⟩ := gN_e h
          refine g_getR C tb_X12_is_0_ok (i := 31) rfl fl_X12_68 rfl k1 n16 ?_
          refine g_aload_n C tb_X12_is_0_ok (i := 32) rfl rfl ?_
          refine g_getI C tb_X12_is_0_ok (i := 33) rfl fl_X12_174 rfl k1 ?_
          refine g_iload_n C tb_X12_is_0_ok (i := 34) rfl rfl ?_
          refine g_iadd C tb_X12_is_0_ok (i := 35) rfl ?_
          obtain ⟨b17, h⟩ := gA_e h
          refine g_iald C tb_X12_is_0_ok (i := 36) rfl b17 ?_
          obtain ⟨j19, ej19, h⟩ := jn_e h
          have J75 : ∀ (v18 : Int32), j19 v18 = some out → GG g x 4 Q 0 0 y M 75 [some (.ref a0), some (.ref a1), none, some (.int v5)] [.int v18] := by
            intro v18 h; subst ej19
            refine g_istore_n C tb_X12_is_1_ok (i := 1) rfl rfl rfl ?_
            obtain ⟨v20, ev20⟩ : ∃ w : Int32, w = v5 + (1 : Int32) := ⟨_, rfl⟩
            have h := lt_e ev20 h
            refine g_iincv C tb_X12_is_1_ok (i := 2) (1 : Int32) ev20 rfl rfl k_iconstv_1 rfl rfl ?_
            refine g_goto C tb_X12_is_1_ok (i := 3) 39 rfl rfl ?_
            exact g_less (L' := [some (.ref a0), some (.ref a1), some (.int v18), some (.int v20)]) ⟨rfl, ⟨rfl, ⟨rfl, ⟨rfl, trivial⟩⟩⟩⟩ (ih7 v18 v20 h)
          obtain ⟨t21, f22⟩ := br_e h
          refine g_icmp_ne C tb_X12_is_0_ok (i := 37) 74 rfl rfl (fun c => ?_) (fun c => ?_)
          · have h := f22 c
            refine g_iconstv C tb_X12_is_1_ok (i := 0) 0 rfl k_iconstv_0 ?_
            exact g_less (L' := [some (.ref a0), some (.ref a1), none, some (.int v5)]) ⟨rfl, ⟨rfl, ⟨rfl, trivial⟩⟩⟩ (J75 (0 : Int32) h)
          · have h := t21 c
            refine g_iconstv C tb_X12_is_0_ok (i := 38) 1 rfl k_iconstv_1 ?_
            refine g_goto C tb_X12_is_0_ok (i := 39) 75 rfl rfl ?_
            exact g_less (L' := [some (.ref a0), some (.ref a1), none, some (.int v5)]) ⟨rfl, ⟨rfl, ⟨rfl, trivial⟩⟩⟩ (J75 (1 : Int32) h)
  obtain ⟨j23, ej23, h⟩ := jn_e h
  have J35 : ∀ (_u : Unit), j23 _u = some out → GG g x 4 Q 0 0 y M 35 [some (.ref a0), some (.ref a1), none, none] [] := by
    intro _u h; subst ej23
    refine g_iconstv C tb_X12_is_0_ok (i := 17) 0 rfl k_iconstv_0 ?_
    exact g_less (L' := [some (.ref a0), some (.ref a1), none, none]) ⟨rfl, ⟨rfl, trivial⟩⟩ (J36 (0 : Int32) h)
  obtain ⟨t24, f25⟩ := br_e h
  refine g_if_ne C tb_X12_is_0_ok (i := 2) 35 rfl rfl (fun c => ?_) (fun c => ?_)
  · have h := f25 c
    exact g_less (L' := [some (.ref a0), some (.ref a1), none, none]) ⟨rfl, ⟨rfl, trivial⟩⟩ (J35 () h)
  · have h := t24 c
    refine g_aload_n C tb_X12_is_0_ok (i := 3) rfl rfl ?_
    refine g_getI C tb_X12_is_0_ok (i := 4) rfl fl_X12_177 rfl k1 ?_
    refine g_iconstv C tb_X12_is_0_ok (i := 5) 1 rfl k_iconstv_1 ?_
    obtain ⟨t26, f27⟩ := br_e h
    refine g_icmp_ne C tb_X12_is_0_ok (i := 6) 35 rfl rfl (fun c => ?_) (fun c => ?_)
    · have h := f27 c
      exact g_less (L' := [some (.ref a0), some (.ref a1), none, none]) ⟨rfl, ⟨rfl, trivial⟩⟩ (J35 () h)
    · have h := t26 c
      refine g_aload_n C tb_X12_is_0_ok (i := 7) rfl rfl ?_
      obtain ⟨g28, h⟩ := gd_e h
      refine g_strLen C tb_X12_is_0_ok (i := 8) rfl sl_X12_209 rfl rfl rfl rfl g28 ?_
      refine g_aload_n C tb_X12_is_0_ok (i := 9) rfl rfl ?_
      refine g_getI C tb_X12_is_0_ok (i := 10) rfl fl_X12_200 rfl k1 ?_
      refine g_aload_n C tb_X12_is_0_ok (i := 11) rfl rfl ?_
      refine g_getI C tb_X12_is_0_ok (i := 12) rfl fl_X12_174 rfl k1 ?_
      refine g_isub C tb_X12_is_0_ok (i := 13) rfl ?_
      obtain ⟨t29, f30⟩ := br_e h
      refine g_icmp_ne C tb_X12_is_0_ok (i := 14) 35 rfl rfl (fun c => ?_) (fun c => ?_)
      · have h := f30 c
        exact g_less (L' := [some (.ref a0), some (.ref a1), none, none]) ⟨rfl, ⟨rfl, trivial⟩⟩ (J35 () h)
      · have h := t29 c
        refine g_iconstv C tb_X12_is_0_ok (i := 15) 1 rfl k_iconstv_1 ?_
        refine g_goto C tb_X12_is_0_ok (i := 16) 36 rfl rfl ?_
        exact g_less (L' := [some (.ref a0), some (.ref a1), none, none]) ⟨rfl, ⟨rfl, trivial⟩⟩ (J36 (1 : Int32) h)
def f_X12_which (y : Lay) (a0 : Nat) (a1 : Nat) (M : Mem) : Option Int32 := fixN (fun _ => none) (fun (s2 : Int32 → Option Int32) (v1 : Int32) => gT y a1 4 (br ((Int32.ofNat (kd y a1).2) ≤ v1) (some ((-1) : Int32)) (gA y a1 4 v1 (gN (y.2.1 a1 v1.toNatClampNeg) (gK y a0 (0, 12) (cp (f_X12_is y a0 (y.2.1 a1 v1.toNatClampNeg) M) fun (r10 : Int32) => br (r10 = 0) (lt (v1 + (1 : Int32)) fun (v13 : Int32) => s2 v13) (some v1))))))) FUEL (0 : Int32)
theorem w_X12_which {g : GX} {l : Launch} (hG : GF g l) (y : Lay) (a0 : Nat) (a1 : Nat) (M : Mem) : C0 g l yX12_which cX12_which 3 (some .int) 5 y [.ref a0, .ref a1] M (pm M (f_X12_which y a0 a1 M)) := by
  refine CP_of hG (by decide) [some (.ref a0), some (.ref a1), none] rfl rfl (fun out h x Q C R => ?_)
  unfold f_X12_which at h
  refine g_iconstv C tb_X12_which_0_ok (i := 0) 0 rfl k_iconstv_0 ?_
  refine g_istore_n C tb_X12_which_0_ok (i := 1) rfl rfl rfl ?_
  refine g_less (L' := [some (.ref a0), some (.ref a1), some (.int (0 : Int32))]) ⟨rfl, ⟨rfl, ⟨rfl, trivial⟩⟩⟩ ?_
  refine fix_i (P := fun (f : Int32 → Option Int32) => ∀ (v1 : Int32), f v1 = some out → GG g x 3 Q 0 0 y M 2 [some (.ref a0), some (.ref a1), some (.int v1)] []) ?_ ?_ _ (0 : Int32) h
  · intro v1 h; exact (nn_e h).elim
  · intro s2 ih3 v1 h
    refine g_iload_n C tb_X12_which_0_ok (i := 2) rfl rfl ?_
    refine g_aload_n C tb_X12_which_0_ok (i := 3) rfl rfl ?_
    obtain ⟨b4, h⟩ := gT_e h
    refine g_alen C tb_X12_which_0_ok (i := 4) rfl b4 (by decide) ?_
    obtain ⟨t5, f6⟩ := br_e h
    refine g_icmp_ge C tb_X12_which_0_ok (i := 5) 26 rfl rfl (fun c => ?_) (fun c => ?_)
    · have h := t5 c
      refine g_iconstv C tb_X12_which_0_ok (i := 16) (-1) rfl k_iconstv_m1 ?_
      cases h
      exact g_iret0 C R tb_X12_which_0_ok (i := 17) rfl
    · have h := f6 c
      refine g_aload_n C tb_X12_which_0_ok (i := 6) rfl rfl ?_
      refine g_aload_n C tb_X12_which_0_ok (i := 7) rfl rfl ?_
      refine g_iload_n C tb_X12_which_0_ok (i := 8) rfl rfl ?_
      obtain ⟨b7, h⟩ := gA_e h
      obtain ⟨n8, h⟩ := gN_e h
      refine g_aald C tb_X12_which_0_ok (i := 9) rfl b7 n8 ?_
      obtain ⟨k9, h⟩ := gK_e h
      obtain ⟨r10, er10, h⟩ := cp_e h
      refine g_callV0 C tb_X12_which_0_ok (i := 10) [.ref (y.2.1 a1 v1.toNatClampNeg)] rfl mw_X12_is mv_X12_is ml_X12_216 k9 rfl rfl rfl rfl (w_X12_is C.G y a0 (y.2.1 a1 v1.toNatClampNeg) M) (pm_s er10) rfl rfl rfl ?_
      obtain ⟨t11, f12⟩ := br_e h
      refine g_if_eq C tb_X12_which_0_ok (i := 11) 20 rfl rfl (fun c => ?_) (fun c => ?_)
      · have h := t11 c
        obtain ⟨v13, ev13⟩ : ∃ w : Int32, w = v1 + (1 : Int32) := ⟨_, rfl⟩
        have h := lt_e ev13 h
        refine g_iincv C tb_X12_which_0_ok (i := 14) (1 : Int32) ev13 rfl rfl k_iconstv_1 rfl rfl ?_
        refine g_goto C tb_X12_which_0_ok (i := 15) 2 rfl rfl ?_
        exact g_less (L' := [some (.ref a0), some (.ref a1), some (.int v13)]) ⟨rfl, ⟨rfl, ⟨rfl, trivial⟩⟩⟩ (ih3 v13 h)
      · have h := f12 c
        refine g_iload_n C tb_X12_which_0_ok (i := 12) rfl rfl ?_
        cases h
        exact g_iret0 C R tb_X12_which_0_ok (i := 13) rfl
def f_X12_wrong (y : Lay) (a0 : Nat) (a1 : Int32) (M : Mem) : Option (Int32 × Mem) := gK y a0 (0, 12) (br ((M.1 a0 22) = 0) (lt (wI M a0 22 a1) fun (M4 : Mem) => lt (wI M4 a0 23 (M4.1 a0 20)) fun (M5 : Mem) => some (0, M5)) (some (0, M)))
theorem w_X12_wrong {g : GX} {l : Launch} (hG : GF g l) (y : Lay) (a0 : Nat) (a1 : Int32) (M : Mem) : C0 g l yX12_wrong cX12_wrong 2 none 0 y [.ref a0, .int a1] M (f_X12_wrong y a0 a1 M) := by
  refine C0_of hG (by decide) [some (.ref a0), some (.int a1)] rfl rfl (fun out h x Q C R => ?_)
  unfold f_X12_wrong at h
  refine g_aload_n C tb_X12_wrong_0_ok (i := 0) rfl rfl ?_
  obtain ⟨k1, h⟩ := gK_e h
  refine g_getI C tb_X12_wrong_0_ok (i := 1) rfl fl_X12_203 rfl k1 ?_
  obtain ⟨t2, f3⟩ := br_e h
  refine g_if_eq C tb_X12_wrong_0_ok (i := 2) 8 rfl rfl (fun c => ?_) (fun c => ?_)
  · have h := t2 c
    refine g_aload_n C tb_X12_wrong_0_ok (i := 4) rfl rfl ?_
    refine g_iload_n C tb_X12_wrong_0_ok (i := 5) rfl rfl ?_
    refine g_putI C tb_X12_wrong_0_ok (i := 6) rfl fl_X12_203 ft_12_22 rfl k1 ?_
    refine g_mem (fun M4 eM4 => ?_)
    have h := lt_e eM4 h
    refine g_aload_n C tb_X12_wrong_0_ok (i := 7) rfl rfl ?_
    refine g_aload_n C tb_X12_wrong_0_ok (i := 8) rfl rfl ?_
    refine g_getI C tb_X12_wrong_0_ok (i := 9) rfl fl_X12_174 rfl k1 ?_
    refine g_putI C tb_X12_wrong_0_ok (i := 10) rfl fl_X12_206 ft_12_23 rfl k1 ?_
    refine g_mem (fun M5 eM5 => ?_)
    have h := lt_e eM5 h
    cases h
    exact g_vret0 C R tb_X12_wrong_0_ok (i := 11) rfl
  · have h := f3 c
    cases h
    exact g_vret0 C R tb_X12_wrong_0_ok (i := 3) rfl
def f_X12_numberNow (y : Lay) (a0 : Nat) (a1 : Int32) (a2 : Int32) (M : Mem) : Option (Int32 × Mem) := gK y a0 (0, 12) (br ((M.1 a0 22) = 0) (jn (fun (M4 : Mem) => jn (fun (v6 : Int32) => some (v6, M4)) fun j7 => br ((M4.1 a0 22) = 0) (j7 (M4.1 a0 19)) (j7 (0 : Int32))) fun j5 => br ((M.1 a0 18) = (2 : Int32)) (jn (fun (_u : Unit) => c0 (f_X12_wrong y a0 (2 : Int32) M) fun (r13 : Int32) (M14 : Mem) => j5 M14) fun j12 => br ((4 : Int32) < ((M.1 a0 21) - (M.1 a0 20))) (j12 ()) (br ((M.1 a0 19) < a1) (j12 ()) (br ((M.1 a0 19) ≤ a2) (j5 M) (j12 ())))) (c0 (f_X12_wrong y a0 (1 : Int32) M) fun (r21 : Int32) (M22 : Mem) => j5 M22)) (some ((0 : Int32), M)))
theorem w_X12_numberNow {g : GX} {l : Launch} (hG : GF g l) (y : Lay) (a0 : Nat) (a1 : Int32) (a2 : Int32) (M : Mem) : C0 g l yX12_numberNow cX12_numberNow 3 (some .int) 1 y [.ref a0, .int a1, .int a2] M (f_X12_numberNow y a0 a1 a2 M) := by
  refine C0_of hG (by decide) [some (.ref a0), some (.int a1), some (.int a2)] rfl rfl (fun out h x Q C R => ?_)
  unfold f_X12_numberNow at h
  refine g_aload_n C tb_X12_numberNow_0_ok (i := 0) rfl rfl ?_
  obtain ⟨k1, h⟩ := gK_e h
  refine g_getI C tb_X12_numberNow_0_ok (i := 1) rfl fl_X12_203 rfl k1 ?_
  obtain ⟨t2, f3⟩ := br_e h
  refine g_if_eq C tb_X12_numberNow_0_ok (i := 2) 9 rfl rfl (fun c => ?_) (fun c => ?_)
  · have h := t2 c
    refine g_aload_n C tb_X12_numberNow_0_ok (i := 5) rfl rfl ?_
    refine g_getI C tb_X12_numberNow_0_ok (i := 6) rfl fl_X12_177 rfl k1 ?_
    refine g_iconstv C tb_X12_numberNow_0_ok (i := 7) 2 rfl k_iconstv_2 ?_
    obtain ⟨j5, ej5, h⟩ := jn_e h
    have J59 : ∀ (M4 : Mem), j5 M4 = some out → GG g x 3 Q 0 0 y M4 59 [some (.ref a0), none, none] [] := by
      intro M4 h; subst ej5
      refine g_aload_n C tb_X12_numberNow_0_ok (i := 31) rfl rfl ?_
      refine g_getI C tb_X12_numberNow_0_ok (i := 32) rfl fl_X12_203 rfl k1 ?_
      obtain ⟨j7, ej7, h⟩ := jn_e h
      have J74 : ∀ (v6 : Int32), j7 v6 = some out → GG g x 3 Q 0 0 y M4 74 [none, none, none] [.int v6] := by
        intro v6 h; subst ej7
        cases h
        exact g_iret0 C R tb_X12_numberNow_0_ok (i := 38) rfl
      obtain ⟨t8, f9⟩ := br_e h
      refine g_if_ne C tb_X12_numberNow_0_ok (i := 33) 73 rfl rfl (fun c => ?_) (fun c => ?_)
      · have h := f9 c
        refine g_iconstv C tb_X12_numberNow_0_ok (i := 37) 0 rfl k_iconstv_0 ?_
        exact g_less (L' := [none, none, none]) trivial (J74 (0 : Int32) h)
      · have h := t8 c
        refine g_aload_n C tb_X12_numberNow_0_ok (i := 34) rfl rfl ?_
        refine g_getI C tb_X12_numberNow_0_ok (i := 35) rfl fl_X12_187 rfl k1 ?_
        refine g_goto C tb_X12_numberNow_0_ok (i := 36) 74 rfl rfl ?_
        exact g_less (L' := [none, none, none]) trivial (J74 (M4.1 a0 19) h)
    obtain ⟨t10, f11⟩ := br_e h
    refine g_icmp_eq C tb_X12_numberNow_0_ok (i := 8) 25 rfl rfl (fun c => ?_) (fun c => ?_)
    · have h := t10 c
      refine g_aload_n C tb_X12_numberNow_0_ok (i := 13) rfl rfl ?_
      refine g_getI C tb_X12_numberNow_0_ok (i := 14) rfl fl_X12_200 rfl k1 ?_
      refine g_aload_n C tb_X12_numberNow_0_ok (i := 15) rfl rfl ?_
      refine g_getI C tb_X12_numberNow_0_ok (i := 16) rfl fl_X12_174 rfl k1 ?_
      refine g_isub C tb_X12_numberNow_0_ok (i := 17) rfl ?_
      refine g_iconstv C tb_X12_numberNow_0_ok (i := 18) 4 rfl k_iconstv_4 ?_
      obtain ⟨j12, ej12, h⟩ := jn_e h
      have J54 : ∀ (_u : Unit), j12 _u = some out → GG g x 3 Q 0 0 y M 54 [some (.ref a0), none, none] [] := by
        intro _u h; subst ej12
        refine g_aload_n C tb_X12_numberNow_0_ok (i := 28) rfl rfl ?_
        refine g_iconstv C tb_X12_numberNow_0_ok (i := 29) 2 rfl k_iconstv_2 ?_
        obtain ⟨r13, M14, er13, h⟩ := c0_e h
        refine g_callV0 C tb_X12_numberNow_0_ok (i := 30) [.int (2 : Int32)] rfl mw_X12_wrong mv_X12_wrong ml_X12_223 k1 rfl rfl rfl rfl (w_X12_wrong C.G y a0 (2 : Int32) M) er13 rfl rfl rfl ?_
        exact g_less (L' := [some (.ref a0), none, none]) ⟨rfl, trivial⟩ (J59 M14 h)
      obtain ⟨t15, f16⟩ := br_e h
      refine g_icmp_gt C tb_X12_numberNow_0_ok (i := 19) 54 rfl rfl (fun c => ?_) (fun c => ?_)
      · have h := t15 c
        exact g_less (L' := [some (.ref a0), none, none]) ⟨rfl, trivial⟩ (J54 () h)
      · have h := f16 c
        refine g_aload_n C tb_X12_numberNow_0_ok (i := 20) rfl rfl ?_
        refine g_getI C tb_X12_numberNow_0_ok (i := 21) rfl fl_X12_187 rfl k1 ?_
        refine g_iload_n C tb_X12_numberNow_0_ok (i := 22) rfl rfl ?_
        obtain ⟨t17, f18⟩ := br_e h
        refine g_icmp_lt C tb_X12_numberNow_0_ok (i := 23) 54 rfl rfl (fun c => ?_) (fun c => ?_)
        · have h := t17 c
          exact g_less (L' := [some (.ref a0), none, none]) ⟨rfl, trivial⟩ (J54 () h)
        · have h := f18 c
          refine g_aload_n C tb_X12_numberNow_0_ok (i := 24) rfl rfl ?_
          refine g_getI C tb_X12_numberNow_0_ok (i := 25) rfl fl_X12_187 rfl k1 ?_
          refine g_iload_n C tb_X12_numberNow_0_ok (i := 26) rfl rfl ?_
          obtain ⟨t19, f20⟩ := br_e h
          refine g_icmp_le C tb_X12_numberNow_0_ok (i := 27) 59 rfl rfl (fun c => ?_) (fun c => ?_)
          · have h := t19 c
            exact g_less (L' := [some (.ref a0), none, none]) ⟨rfl, trivial⟩ (J59 M h)
          · have h := f20 c
            exact g_less (L' := [some (.ref a0), none, none]) ⟨rfl, trivial⟩ (J54 () h)
    · have h := f11 c
      refine g_aload_n C tb_X12_numberNow_0_ok (i := 9) rfl rfl ?_
      refine g_iconstv C tb_X12_numberNow_0_ok (i := 10) 1 rfl k_iconstv_1 ?_
      obtain ⟨r21, M22, er21, h⟩ := c0_e h
      refine g_callV0 C tb_X12_numberNow_0_ok (i := 11) [.int (1 : Int32)] rfl mw_X12_wrong mv_X12_wrong ml_X12_223 k1 rfl rfl rfl rfl (w_X12_wrong C.G y a0 (1 : Int32) M) er21 rfl rfl rfl ?_
      refine g_goto C tb_X12_numberNow_0_ok (i := 12) 59 rfl rfl ?_
      exact g_less (L' := [some (.ref a0), none, none]) ⟨rfl, trivial⟩ (J59 M22 h)
  · have h := f3 c
    refine g_iconstv C tb_X12_numberNow_0_ok (i := 3) 0 rfl k_iconstv_0 ?_
    cases h
    exact g_iret0 C R tb_X12_numberNow_0_ok (i := 4) rfl
def f_X12_readNumber (y : Lay) (a0 : Nat) (a1 : Int32) (a2 : Int32) (M : Mem) : Option (Int32 × Mem) := gK y a0 (0, 12) (c0 (f_X12_numberNow y a0 a1 a2 M) fun (r2 : Int32) (M3 : Mem) => jn (fun (M4 : Mem) => some (r2, M4)) fun j5 => br ((M3.1 a0 22) = 0) (c0 (f_X12_stepOn y a0 M3) fun (r8 : Int32) (M9 : Mem) => j5 M9) (j5 M3))
theorem w_X12_readNumber {g : GX} {l : Launch} (hG : GF g l) (y : Lay) (a0 : Nat) (a1 : Int32) (a2 : Int32) (M : Mem) : C0 g l yX12_readNumber cX12_readNumber 4 (some .int) 2 y [.ref a0, .int a1, .int a2] M (f_X12_readNumber y a0 a1 a2 M) := by
  refine C0_of hG (by decide) [some (.ref a0), some (.int a1), some (.int a2), none] rfl rfl (fun out h x Q C R => ?_)
  unfold f_X12_readNumber at h
  refine g_aload_n C tb_X12_readNumber_0_ok (i := 0) rfl rfl ?_
  refine g_iload_n C tb_X12_readNumber_0_ok (i := 1) rfl rfl ?_
  refine g_iload_n C tb_X12_readNumber_0_ok (i := 2) rfl rfl ?_
  obtain ⟨k1, h⟩ := gK_e h
  obtain ⟨r2, M3, er2, h⟩ := c0_e h
  refine g_callV0 C tb_X12_readNumber_0_ok (i := 3) [.int a1, .int a2] rfl mw_X12_numberNow mv_X12_numberNow ml_X12_229 k1 rfl rfl rfl rfl (w_X12_numberNow C.G y a0 a1 a2 M) er2 rfl rfl rfl ?_
  refine g_istore_n C tb_X12_readNumber_0_ok (i := 4) rfl rfl rfl ?_
  refine g_aload_n C tb_X12_readNumber_0_ok (i := 5) rfl rfl ?_
  refine g_getI C tb_X12_readNumber_0_ok (i := 6) rfl fl_X12_203 rfl k1 ?_
  obtain ⟨j5, ej5, h⟩ := jn_e h
  have J18 : ∀ (M4 : Mem), j5 M4 = some out → GG g x 4 Q 0 0 y M4 18 [none, none, none, some (.int r2)] [] := by
    intro M4 h; subst ej5
    refine g_iload_n C tb_X12_readNumber_0_ok (i := 10) rfl rfl ?_
    cases h
    exact g_iret0 C R tb_X12_readNumber_0_ok (i := 11) rfl
  obtain ⟨t6, f7⟩ := br_e h
  refine g_if_ne C tb_X12_readNumber_0_ok (i := 7) 18 rfl rfl (fun c => ?_) (fun c => ?_)
  · have h := f7 c
    exact g_less (L' := [none, none, none, some (.int r2)]) ⟨rfl, trivial⟩ (J18 M3 h)
  · have h := t6 c
    refine g_aload_n C tb_X12_readNumber_0_ok (i := 8) rfl rfl ?_
    obtain ⟨r8, M9, er8, h⟩ := c0_e h
    refine g_callV0 C tb_X12_readNumber_0_ok (i := 9) [] rfl mw_X12_stepOn mv_X12_stepOn ml_X12_226 k1 rfl rfl rfl rfl (w_X12_stepOn C.G y a0 M3) er8 rfl rfl rfl ?_
    exact g_less (L' := [none, none, none, some (.int r2)]) ⟨rfl, trivial⟩ (J18 M9 h)
def f_X12_saySky (y : Lay) (a0 : Nat) (M : Mem) : Option (Int32 × Mem) := gK y a0 (0, 12) (c0 (f_X12_stepOn y a0 M) fun (r2 : Int32) (M3 : Mem) => gN (y.2.1 a0 5) (c0 (f_X12_readNumber y a0 (1 : Int32) (6 : Int32) M3) fun (r5 : Int32) (M6 : Mem) => gA y (y.2.1 a0 5) 1 (9 : Int32) (lt (wI M6 (y.2.1 a0 5) (9 : Int32).toNatClampNeg r5) fun (M8 : Mem) => c0 (f_X12_readNumber y a0 (1 : Int32) (5 : Int32) M8) fun (r9 : Int32) (M10 : Mem) => gA y (y.2.1 a0 5) 1 (10 : Int32) (lt (wI M10 (y.2.1 a0 5) (10 : Int32).toNatClampNeg r9) fun (M12 : Mem) => some (0, M12)))))
theorem w_X12_saySky {g : GX} {l : Launch} (hG : GF g l) (y : Lay) (a0 : Nat) (M : Mem) : C0 g l yX12_saySky cX12_saySky 1 none 3 y [.ref a0] M (f_X12_saySky y a0 M) := by
  refine C0_of hG (by decide) [some (.ref a0)] rfl rfl (fun out h x Q C R => ?_)
  unfold f_X12_saySky at h
  refine g_aload_n C tb_X12_saySky_0_ok (i := 0) rfl rfl ?_
  obtain ⟨k1, h⟩ := gK_e h
  obtain ⟨r2, M3, er2, h⟩ := c0_e h
  refine g_callV0 C tb_X12_saySky_0_ok (i := 1) [] rfl mw_X12_stepOn mv_X12_stepOn ml_X12_226 k1 rfl rfl rfl rfl (w_X12_stepOn C.G y a0 M) er2 rfl rfl rfl ?_
  refine g_aload_n C tb_X12_saySky_0_ok (i := 2) rfl rfl ?_
  obtain ⟨n4, h⟩ := gN_e h
  refine g_getR C tb_X12_saySky_0_ok (i := 3) rfl fl_X12_40 rfl k1 n4 ?_
  refine g_bipushv C tb_X12_saySky_0_ok (i := 4) 9 rfl k_bipushv_9 ?_
  refine g_aload_n C tb_X12_saySky_0_ok (i := 5) rfl rfl ?_
  refine g_iconstv C tb_X12_saySky_0_ok (i := 6) 1 rfl k_iconstv_1 ?_
  refine g_bipushv C tb_X12_saySky_0_ok (i := 7) 6 rfl k_bipushv_6 ?_
  obtain ⟨r5, M6, er5, h⟩ := c0_e h
  refine g_callV0 C tb_X12_saySky_0_ok (i := 8) [.int (1 : Int32), .int (6 : Int32)] rfl mw_X12_readNumber mv_X12_readNumber ml_X12_243 k1 rfl rfl rfl rfl (w_X12_readNumber C.G y a0 (1 : Int32) (6 : Int32) M3) er5 rfl rfl rfl ?_
  obtain ⟨b7, h⟩ := gA_e h
  refine g_iast C tb_X12_saySky_0_ok (i := 9) rfl b7 ?_
  refine g_mem (fun M8 eM8 => ?_)
  have h := lt_e eM8 h
  refine g_aload_n C tb_X12_saySky_0_ok (i := 10) rfl rfl ?_
  refine g_getR C tb_X12_saySky_0_ok (i := 11) rfl fl_X12_40 rfl k1 n4 ?_
  refine g_bipushv C tb_X12_saySky_0_ok (i := 12) 10 rfl k_bipushv_10 ?_
  refine g_aload_n C tb_X12_saySky_0_ok (i := 13) rfl rfl ?_
  refine g_iconstv C tb_X12_saySky_0_ok (i := 14) 1 rfl k_iconstv_1 ?_
  refine g_iconstv C tb_X12_saySky_0_ok (i := 15) 5 rfl k_iconstv_5 ?_
  obtain ⟨r9, M10, er9, h⟩ := c0_e h
  refine g_callV0 C tb_X12_saySky_0_ok (i := 16) [.int (1 : Int32), .int (5 : Int32)] rfl mw_X12_readNumber mv_X12_readNumber ml_X12_243 k1 rfl rfl rfl rfl (w_X12_readNumber C.G y a0 (1 : Int32) (5 : Int32) M8) er9 rfl rfl rfl ?_
  obtain ⟨b11, h⟩ := gA_e h
  refine g_iast C tb_X12_saySky_0_ok (i := 17) rfl b11 ?_
  refine g_mem (fun M12 eM12 => ?_)
  have h := lt_e eM12 h
  cases h
  exact g_vret0 C R tb_X12_saySky_0_ok (i := 18) rfl
def f_X12_isMarked (y : Lay) (a0 : Nat) (a1 : Int32) (M : Mem) : Option Int32 := gK y a0 (0, 12) (jn (fun (v2 : Int32) => gd (v2 = 0 ∨ v2 = 1) (some v2)) fun j3 => jn (fun (_u : Unit) => j3 (0 : Int32)) fun j4 => br ((M.1 a0 22) = 0) (br ((M.1 a0 18) = (3 : Int32)) (gN (y.2.1 a0 14) (gA y (y.2.1 a0 14) 1 (M.1 a0 20) (br ((M.1 (y.2.1 a0 14) (M.1 a0 20).toNatClampNeg) = a1) (j3 (1 : Int32)) (j4 ())))) (j4 ())) (j4 ()))
theorem w_X12_isMarked {g : GX} {l : Launch} (hG : GF g l) (y : Lay) (a0 : Nat) (a1 : Int32) (M : Mem) : C0 g l yX12_isMarked cX12_isMarked 2 (some .boolean) 0 y [.ref a0, .int a1] M (pm M (f_X12_isMarked y a0 a1 M)) := by
  refine CP_of hG (by decide) [some (.ref a0), some (.int a1)] rfl rfl (fun out h x Q C R => ?_)
  unfold f_X12_isMarked at h
  refine g_aload_n C tb_X12_isMarked_0_ok (i := 0) rfl rfl ?_
  obtain ⟨k1, h⟩ := gK_e h
  refine g_getI C tb_X12_isMarked_0_ok (i := 1) rfl fl_X12_203 rfl k1 ?_
  obtain ⟨j3, ej3, h⟩ := jn_e h
  have J33 : ∀ (v2 : Int32), j3 v2 = some out → GG g x 2 Q 0 0 y M 33 [none, none] [.int v2] := by
    intro v2 h; subst ej3
    obtain ⟨hz, h⟩ := gd_e h
    cases h
    exact g_zret0 C R hz tb_X12_isMarked_0_ok (i := 17) rfl
  obtain ⟨j4, ej4, h⟩ := jn_e h
  have J32 : ∀ (_u : Unit), j4 _u = some out → GG g x 2 Q 0 0 y M 32 [none, none] [] := by
    intro _u h; subst ej4
    refine g_iconstv C tb_X12_isMarked_0_ok (i := 16) 0 rfl k_iconstv_0 ?_
    exact g_less (L' := [none, none]) trivial (J33 (0 : Int32) h)
  obtain ⟨t5, f6⟩ := br_e h
  refine g_if_ne C tb_X12_isMarked_0_ok (i := 2) 32 rfl rfl (fun c => ?_) (fun c => ?_)
  · have h := f6 c
    exact g_less (L' := [none, none]) trivial (J32 () h)
  · have h := t5 c
    refine g_aload_n C tb_X12_isMarked_0_ok (i := 3) rfl rfl ?_
    refine g_getI C tb_X12_isMarked_0_ok (i := 4) rfl fl_X12_177 rfl k1 ?_
    refine g_iconstv C tb_X12_isMarked_0_ok (i := 5) 3 rfl k_iconstv_3 ?_
    obtain ⟨t7, f8⟩ := br_e h
    refine g_icmp_ne C tb_X12_isMarked_0_ok (i := 6) 32 rfl rfl (fun c => ?_) (fun c => ?_)
    · have h := f8 c
      exact g_less (L' := [none, none]) trivial (J32 () h)
    · have h := t7 c
      refine g_aload_n C tb_X12_isMarked_0_ok (i := 7) rfl rfl ?_
      obtain ⟨n9, h⟩ := gN_e h
      refine g_getR C tb_X12_isMarked_0_ok (i := 8) rfl fl_X12_68 rfl k1 n9 ?_
      refine g_aload_n C tb_X12_isMarked_0_ok (i := 9) rfl rfl ?_
      refine g_getI C tb_X12_isMarked_0_ok (i := 10) rfl fl_X12_174 rfl k1 ?_
      obtain ⟨b10, h⟩ := gA_e h
      refine g_iald C tb_X12_isMarked_0_ok (i := 11) rfl b10 ?_
      refine g_iload_n C tb_X12_isMarked_0_ok (i := 12) rfl rfl ?_
      obtain ⟨t11, f12⟩ := br_e h
      refine g_icmp_ne C tb_X12_isMarked_0_ok (i := 13) 32 rfl rfl (fun c => ?_) (fun c => ?_)
      · have h := f12 c
        exact g_less (L' := [none, none]) trivial (J32 () h)
      · have h := t11 c
        refine g_iconstv C tb_X12_isMarked_0_ok (i := 14) 1 rfl k_iconstv_1 ?_
        refine g_goto C tb_X12_isMarked_0_ok (i := 15) 33 rfl rfl ?_
        exact g_less (L' := [none, none]) trivial (J33 (1 : Int32) h)
def f_X12_lay (y : Lay) (a0 : Nat) (a1 : Int32) (M : Mem) : Option (Int32 × Mem) := gK y a0 (0, 12) (br ((M.1 a0 22) = 0) (jn (fun (v4 : Int32) => lt ((9 : Int32) + v4) fun (v6 : Int32) => jn (fun (v7 : Nat) => gN (y.2.1 a0 5) (gA y (y.2.1 a0 5) 1 v6 (gA y v7 1 ((700 : Int32) + (M.1 (y.2.1 a0 5) v6.toNatClampNeg)) (lt (wI M v7 ((700 : Int32) + (M.1 (y.2.1 a0 5) v6.toNatClampNeg)).toNatClampNeg a1) fun (M12 : Mem) => gA y (y.2.1 a0 5) 1 v6 (gA y (y.2.1 a0 5) 1 v6 (lt (wI M12 (y.2.1 a0 5) v6.toNatClampNeg ((M12.1 (y.2.1 a0 5) v6.toNatClampNeg) + (1 : Int32))) fun (M15 : Mem) => some (0, M15))))))) fun j8 => br ((M.1 a0 27) = 0) (gN (y.2.1 a0 10) (j8 (y.2.1 a0 10))) (gN (y.2.1 a0 11) (j8 (y.2.1 a0 11)))) fun j5 => br ((M.1 a0 27) = 0) (j5 (6 : Int32)) (j5 (7 : Int32))) (some (0, M)))
theorem w_X12_lay {g : GX} {l : Launch} (hG : GF g l) (y : Lay) (a0 : Nat) (a1 : Int32) (M : Mem) : C0 g l yX12_lay cX12_lay 4 none 0 y [.ref a0, .int a1] M (f_X12_lay y a0 a1 M) := by
  refine C0_of hG (by decide) [some (.ref a0), some (.int a1), none, none] rfl rfl (fun out h x Q C R => ?_)
  unfold f_X12_lay at h
  refine g_aload_n C tb_X12_lay_0_ok (i := 0) rfl rfl ?_
  obtain ⟨k1, h⟩ := gK_e h
  refine g_getI C tb_X12_lay_0_ok (i := 1) rfl fl_X12_203 rfl k1 ?_
  obtain ⟨t2, f3⟩ := br_e h
  refine g_if_eq C tb_X12_lay_0_ok (i := 2) 8 rfl rfl (fun c => ?_) (fun c => ?_)
  · have h := t2 c
    refine g_bipushv C tb_X12_lay_0_ok (i := 4) 9 rfl k_bipushv_9 ?_
    refine g_aload_n C tb_X12_lay_0_ok (i := 5) rfl rfl ?_
    refine g_getI C tb_X12_lay_0_ok (i := 6) rfl fl_X12_240 rfl k1 ?_
    obtain ⟨j5, ej5, h⟩ := jn_e h
    have J24 : ∀ (v4 : Int32), j5 v4 = some out → GG g x 4 Q 0 0 y M 24 [some (.ref a0), some (.int a1), none, none] [.int v4, .int (9 : Int32)] := by
      intro v4 h; subst ej5
      refine g_iadd C tb_X12_lay_0_ok (i := 11) rfl ?_
      refine g_topi (fun v6 ev6 => ?_)
      have h := lt_e ev6 h
      refine g_istore_n C tb_X12_lay_0_ok (i := 12) rfl rfl rfl ?_
      refine g_aload_n C tb_X12_lay_0_ok (i := 13) rfl rfl ?_
      refine g_getI C tb_X12_lay_0_ok (i := 14) rfl fl_X12_240 rfl k1 ?_
      obtain ⟨j8, ej8, h⟩ := jn_e h
      have J44 : ∀ (v7 : Nat), j8 v7 = some out → GG g x 4 Q 0 0 y M 44 [some (.ref a0), some (.int a1), some (.int v6), none] [.ref v7] := by
        intro v7 h; subst ej8
        refine g_astore_n C tb_X12_lay_0_ok (i := 21) rfl rfl rfl ?_
        refine g_aload_n C tb_X12_lay_0_ok (i := 22) rfl rfl ?_
        refine g_sipushv C tb_X12_lay_0_ok (i := 23) 700 rfl k_sipushv_700 ?_
        refine g_aload_n C tb_X12_lay_0_ok (i := 24) rfl rfl ?_
        obtain ⟨n9, h⟩ := gN_e h
        refine g_getR C tb_X12_lay_0_ok (i := 25) rfl fl_X12_40 rfl k1 n9 ?_
        refine g_iload_n C tb_X12_lay_0_ok (i := 26) rfl rfl ?_
        obtain ⟨b10, h⟩ := gA_e h
        refine g_iald C tb_X12_lay_0_ok (i := 27) rfl b10 ?_
        refine g_iadd C tb_X12_lay_0_ok (i := 28) rfl ?_
        refine g_iload_n C tb_X12_lay_0_ok (i := 29) rfl rfl ?_
        obtain ⟨b11, h⟩ := gA_e h
        refine g_iast C tb_X12_lay_0_ok (i := 30) rfl b11 ?_
        refine g_mem (fun M12 eM12 => ?_)
        have h := lt_e eM12 h
        refine g_aload_n C tb_X12_lay_0_ok (i := 31) rfl rfl ?_
        refine g_getR C tb_X12_lay_0_ok (i := 32) rfl fl_X12_40 rfl k1 n9 ?_
        refine g_iload_n C tb_X12_lay_0_ok (i := 33) rfl rfl ?_
        refine g_dup2 C tb_X12_lay_0_ok (i := 34) rfl rfl rfl ?_
        obtain ⟨b13, h⟩ := gA_e h
        refine g_iald C tb_X12_lay_0_ok (i := 35) rfl b13 ?_
        refine g_iconstv C tb_X12_lay_0_ok (i := 36) 1 rfl k_iconstv_1 ?_
        refine g_iadd C tb_X12_lay_0_ok (i := 37) rfl ?_
        obtain ⟨b14, h⟩ := gA_e h
        refine g_iast C tb_X12_lay_0_ok (i := 38) rfl b14 ?_
        refine g_mem (fun M15 eM15 => ?_)
        have h := lt_e eM15 h
        cases h
        exact g_vret0 C R tb_X12_lay_0_ok (i := 39) rfl
      obtain ⟨t16, f17⟩ := br_e h
      refine g_if_eq C tb_X12_lay_0_ok (i := 15) 40 rfl rfl (fun c => ?_) (fun c => ?_)
      · have h := t16 c
        refine g_aload_n C tb_X12_lay_0_ok (i := 19) rfl rfl ?_
        obtain ⟨n18, h⟩ := gN_e h
        refine g_getR C tb_X12_lay_0_ok (i := 20) rfl fl_X12_56 rfl k1 n18 ?_
        exact g_less (L' := [some (.ref a0), some (.int a1), some (.int v6), none]) ⟨rfl, ⟨rfl, ⟨rfl, trivial⟩⟩⟩ (J44 (y.2.1 a0 10) h)
      · have h := f17 c
        refine g_aload_n C tb_X12_lay_0_ok (i := 16) rfl rfl ?_
        obtain ⟨n19, h⟩ := gN_e h
        refine g_getR C tb_X12_lay_0_ok (i := 17) rfl fl_X12_59 rfl k1 n19 ?_
        refine g_goto C tb_X12_lay_0_ok (i := 18) 44 rfl rfl ?_
        exact g_less (L' := [some (.ref a0), some (.int a1), some (.int v6), none]) ⟨rfl, ⟨rfl, ⟨rfl, trivial⟩⟩⟩ (J44 (y.2.1 a0 11) h)
    obtain ⟨t20, f21⟩ := br_e h
    refine g_if_eq C tb_X12_lay_0_ok (i := 7) 22 rfl rfl (fun c => ?_) (fun c => ?_)
    · have h := t20 c
      refine g_bipushv C tb_X12_lay_0_ok (i := 10) 6 rfl k_bipushv_6 ?_
      exact g_less (L' := [some (.ref a0), some (.int a1), none, none]) ⟨rfl, ⟨rfl, trivial⟩⟩ (J24 (6 : Int32) h)
    · have h := f21 c
      refine g_bipushv C tb_X12_lay_0_ok (i := 8) 7 rfl k_bipushv_7 ?_
      refine g_goto C tb_X12_lay_0_ok (i := 9) 24 rfl rfl ?_
      exact g_less (L' := [some (.ref a0), some (.int a1), none, none]) ⟨rfl, ⟨rfl, trivial⟩⟩ (J24 (7 : Int32) h)
  · have h := f3 c
    cases h
    exact g_vret0 C R tb_X12_lay_0_ok (i := 3) rfl
def f_X12_mark (y : Lay) (a0 : Nat) (a1 : Int32) (M : Mem) : Option (Int32 × Mem) := gK y a0 (0, 12) (jn (fun (M2 : Mem) => jn (fun (M4 : Mem) => some (0, M4)) fun j5 => br ((M2.1 a0 22) = 0) (c0 (f_X12_stepOn y a0 M2) fun (r8 : Int32) (M9 : Mem) => j5 M9) (j5 M2)) fun j3 => br ((M.1 a0 22) = 0) (cp (f_X12_isMarked y a0 a1 M) fun (r12 : Int32) => br (r12 = 0) (c0 (f_X12_wrong y a0 (1 : Int32) M) fun (r15 : Int32) (M16 : Mem) => j3 M16) (j3 M)) (j3 M))
theorem w_X12_mark {g : GX} {l : Launch} (hG : GF g l) (y : Lay) (a0 : Nat) (a1 : Int32) (M : Mem) : C0 g l yX12_mark cX12_mark 2 none 2 y [.ref a0, .int a1] M (f_X12_mark y a0 a1 M) := by
  refine C0_of hG (by decide) [some (.ref a0), some (.int a1)] rfl rfl (fun out h x Q C R => ?_)
  unfold f_X12_mark at h
  refine g_aload_n C tb_X12_mark_0_ok (i := 0) rfl rfl ?_
  obtain ⟨k1, h⟩ := gK_e h
  refine g_getI C tb_X12_mark_0_ok (i := 1) rfl fl_X12_203 rfl k1 ?_
  obtain ⟨j3, ej3, h⟩ := jn_e h
  have J20 : ∀ (M2 : Mem), j3 M2 = some out → GG g x 2 Q 0 0 y M2 20 [some (.ref a0), none] [] := by
    intro M2 h; subst ej3
    refine g_aload_n C tb_X12_mark_0_ok (i := 10) rfl rfl ?_
    refine g_getI C tb_X12_mark_0_ok (i := 11) rfl fl_X12_203 rfl k1 ?_
    obtain ⟨j5, ej5, h⟩ := jn_e h
    have J31 : ∀ (M4 : Mem), j5 M4 = some out → GG g x 2 Q 0 0 y M4 31 [none, none] [] := by
      intro M4 h; subst ej5
      cases h
      exact g_vret0 C R tb_X12_mark_0_ok (i := 15) rfl
    obtain ⟨t6, f7⟩ := br_e h
    refine g_if_ne C tb_X12_mark_0_ok (i := 12) 31 rfl rfl (fun c => ?_) (fun c => ?_)
    · have h := f7 c
      exact g_less (L' := [none, none]) trivial (J31 M2 h)
    · have h := t6 c
      refine g_aload_n C tb_X12_mark_0_ok (i := 13) rfl rfl ?_
      obtain ⟨r8, M9, er8, h⟩ := c0_e h
      refine g_callV0 C tb_X12_mark_0_ok (i := 14) [] rfl mw_X12_stepOn mv_X12_stepOn ml_X12_226 k1 rfl rfl rfl rfl (w_X12_stepOn C.G y a0 M2) er8 rfl rfl rfl ?_
      exact g_less (L' := [none, none]) trivial (J31 M9 h)
  obtain ⟨t10, f11⟩ := br_e h
  refine g_if_ne C tb_X12_mark_0_ok (i := 2) 20 rfl rfl (fun c => ?_) (fun c => ?_)
  · have h := f11 c
    exact g_less (L' := [some (.ref a0), none]) ⟨rfl, trivial⟩ (J20 M h)
  · have h := t10 c
    refine g_aload_n C tb_X12_mark_0_ok (i := 3) rfl rfl ?_
    refine g_iload_n C tb_X12_mark_0_ok (i := 4) rfl rfl ?_
    obtain ⟨r12, er12, h⟩ := cp_e h
    refine g_callV0 C tb_X12_mark_0_ok (i := 5) [.int a1] rfl mw_X12_isMarked mv_X12_isMarked ml_X12_220 k1 rfl rfl rfl rfl (w_X12_isMarked C.G y a0 a1 M) (pm_s er12) rfl rfl rfl ?_
    obtain ⟨t13, f14⟩ := br_e h
    refine g_if_ne C tb_X12_mark_0_ok (i := 6) 20 rfl rfl (fun c => ?_) (fun c => ?_)
    · have h := f14 c
      exact g_less (L' := [some (.ref a0), none]) ⟨rfl, trivial⟩ (J20 M h)
    · have h := t13 c
      refine g_aload_n C tb_X12_mark_0_ok (i := 7) rfl rfl ?_
      refine g_iconstv C tb_X12_mark_0_ok (i := 8) 1 rfl k_iconstv_1 ?_
      obtain ⟨r15, M16, er15, h⟩ := c0_e h
      refine g_callV0 C tb_X12_mark_0_ok (i := 9) [.int (1 : Int32)] rfl mw_X12_wrong mv_X12_wrong ml_X12_223 k1 rfl rfl rfl rfl (w_X12_wrong C.G y a0 (1 : Int32) M) er15 rfl rfl rfl ?_
      exact g_less (L' := [some (.ref a0), none]) ⟨rfl, trivial⟩ (J20 M16 h)
def f_X12_readPart (R : Lay → Nat → Int32 → Mem → Option (Int32 × Mem)) (y : Lay) (a0 : Nat) (a1 : Int32) (M : Mem) : Option (Int32 × Mem) := gK y a0 (0, 12) (br ((M.1 a0 22) = 0) (br ((M.1 a0 18) = (2 : Int32)) (c0 (f_X12_readNumber y a0 (0 : Int32) (9999 : Int32) M) fun (r30 : Int32) (M31 : Mem) => c0 (f_X12_lay y a0 r30 M31) fun (r32 : Int32) (M33 : Mem) => some (0, M33)) (br ((M.1 a0 18) = (1 : Int32)) (gN (M.2.2 a0 3) (cp (f_X12_which y a0 (M.2.2 a0 3) M) fun (r15 : Int32) => jn (fun (M16 : Mem) => c0 (f_X12_lay y a0 (((-1) : Int32) - r15) M16) fun (r18 : Int32) (M19 : Mem) => jn (fun (M20 : Mem) => some (0, M20)) fun j21 => br ((M19.1 a0 22) = 0) (c0 (f_X12_stepOn y a0 M19) fun (r24 : Int32) (M25 : Mem) => j21 M25) (j21 M19)) fun j17 => br (r15 = ((-1) : Int32)) (c0 (f_X12_wrong y a0 (3 : Int32) M) fun (r28 : Int32) (M29 : Mem) => j17 M29) (j17 M))) (c0 (f_X12_mark y a0 (40 : Int32) M) fun (r8 : Int32) (M9 : Mem) => c0 (R y a0 (a1 + (1 : Int32)) M9) fun (r10 : Int32) (M11 : Mem) => c0 (f_X12_mark y a0 (41 : Int32) M11) fun (r12 : Int32) (M13 : Mem) => some (0, M13)))) (some (0, M)))
theorem w_X12_readPart {g : GX} {n : Nat} {R : Lay → Nat → Int32 → Mem → Option (Int32 × Mem)} (hR : ∀ l : Launch, GF g l → ∀ (y : Lay) (a0 : Nat) (a1 : Int32) (M : Mem), C0 g l yX12_readExpression cX12_readExpression 3 none (6 + 6 * n) y [.ref a0, .int a1] M (R y a0 a1 M)) {l : Launch} (hG : GF g l) (y : Lay) (a0 : Nat) (a1 : Int32) (M : Mem) : C0 g l yX12_readPart cX12_readPart 3 none (6 + 6 * n + 1) y [.ref a0, .int a1] M (f_X12_readPart R y a0 a1 M) := by
  refine C0_of hG (by decide) [some (.ref a0), some (.int a1), none] rfl rfl (fun out h x Q C R0 => ?_)
  unfold f_X12_readPart at h
  refine g_aload_n C tb_X12_readPart_0_ok (i := 0) rfl rfl ?_
  obtain ⟨k1, h⟩ := gK_e h
  refine g_getI C tb_X12_readPart_0_ok (i := 1) rfl fl_X12_203 rfl k1 ?_
  obtain ⟨t2, f3⟩ := br_e h
  refine g_if_eq C tb_X12_readPart_0_ok (i := 2) 8 rfl rfl (fun c => ?_) (fun c => ?_)
  · have h := t2 c
    refine g_aload_n C tb_X12_readPart_0_ok (i := 4) rfl rfl ?_
    refine g_getI C tb_X12_readPart_0_ok (i := 5) rfl fl_X12_177 rfl k1 ?_
    refine g_iconstv C tb_X12_readPart_0_ok (i := 6) 2 rfl k_iconstv_2 ?_
    obtain ⟨t4, f5⟩ := br_e h
    refine g_icmp_ne C tb_X12_readPart_0_ok (i := 7) 29 rfl rfl (fun c => ?_) (fun c => ?_)
    · have h := f5 c
      refine g_aload_n C tb_X12_readPart_0_ok (i := 15) rfl rfl ?_
      refine g_getI C tb_X12_readPart_0_ok (i := 16) rfl fl_X12_177 rfl k1 ?_
      refine g_iconstv C tb_X12_readPart_0_ok (i := 17) 1 rfl k_iconstv_1 ?_
      obtain ⟨t6, f7⟩ := br_e h
      refine g_icmp_ne C tb_X12_readPart_0_ok (i := 18) 75 rfl rfl (fun c => ?_) (fun c => ?_)
      · have h := f7 c
        refine g_aload_n C tb_X12_readPart_1_ok (i := 1) rfl rfl ?_
        refine g_bipushv C tb_X12_readPart_1_ok (i := 2) 40 rfl k_bipushv_40 ?_
        obtain ⟨r8, M9, er8, h⟩ := c0_e h
        refine g_callV0 C tb_X12_readPart_1_ok (i := 3) [.int (40 : Int32)] rfl mw_X12_mark mv_X12_mark ml_X12_253 k1 (bl (by omega)) rfl rfl rfl (w_X12_mark C.G y a0 (40 : Int32) M) er8 rfl rfl rfl ?_
        refine g_aload_n C tb_X12_readPart_1_ok (i := 4) rfl rfl ?_
        refine g_iload_n C tb_X12_readPart_1_ok (i := 5) rfl rfl ?_
        refine g_iconstv C tb_X12_readPart_1_ok (i := 6) 1 rfl k_iconstv_1 ?_
        refine g_iadd C tb_X12_readPart_1_ok (i := 7) rfl ?_
        obtain ⟨r10, M11, er10, h⟩ := c0_e h
        refine g_callV0 C tb_X12_readPart_1_ok (i := 8) [.int (a1 + (1 : Int32))] rfl mw_X12_readExpression mv_X12_readExpression ml_X12_256 k1 (bl (by omega)) rfl rfl rfl (hR _ C.G y a0 (a1 + (1 : Int32)) M9) er10 rfl rfl rfl ?_
        refine g_aload_n C tb_X12_readPart_1_ok (i := 9) rfl rfl ?_
        refine g_bipushv C tb_X12_readPart_1_ok (i := 10) 41 rfl k_bipushv_41 ?_
        obtain ⟨r12, M13, er12, h⟩ := c0_e h
        refine g_callV0 C tb_X12_readPart_1_ok (i := 11) [.int (41 : Int32)] rfl mw_X12_mark mv_X12_mark ml_X12_253 k1 (bl (by omega)) rfl rfl rfl (w_X12_mark C.G y a0 (41 : Int32) M11) er12 rfl rfl rfl ?_
        cases h
        exact g_vret0 C R0 tb_X12_readPart_1_ok (i := 12) rfl
      · have h := t6 c
        refine g_aload_n C tb_X12_readPart_0_ok (i := 19) rfl rfl ?_
        refine g_aload_n C tb_X12_readPart_0_ok (i := 20) rfl rfl ?_
        obtain ⟨n14, h⟩ := gN_e h
        refine g_getM C tb_X12_readPart_0_ok (i := 21) rfl fl_X12_37 rfl k1 n14 ?_
        obtain ⟨r15, er15, h⟩ := cp_e h
        refine g_callV0 C tb_X12_readPart_0_ok (i := 22) [.ref (M.2.2 a0 3)] rfl mw_X12_which mv_X12_which ml_X12_249 k1 (bl (by omega)) rfl rfl rfl (w_X12_which C.G y a0 (M.2.2 a0 3) M) (pm_s er15) rfl rfl rfl ?_
        refine g_istore_n C tb_X12_readPart_0_ok (i := 23) rfl rfl rfl ?_
        refine g_iload_n C tb_X12_readPart_0_ok (i := 24) rfl rfl ?_
        refine g_iconstv C tb_X12_readPart_0_ok (i := 25) (-1) rfl k_iconstv_m1 ?_
        obtain ⟨j17, ej17, h⟩ := jn_e h
        have J56 : ∀ (M16 : Mem), j17 M16 = some out → GG g x 3 Q 0 0 y M16 56 [some (.ref a0), none, some (.int r15)] [] := by
          intro M16 h; subst ej17
          refine g_aload_n C tb_X12_readPart_0_ok (i := 30) rfl rfl ?_
          refine g_iconstv C tb_X12_readPart_0_ok (i := 31) (-1) rfl k_iconstv_m1 ?_
          refine g_iload_n C tb_X12_readPart_0_ok (i := 32) rfl rfl ?_
          refine g_isub C tb_X12_readPart_0_ok (i := 33) rfl ?_
          obtain ⟨r18, M19, er18, h⟩ := c0_e h
          refine g_callV0 C tb_X12_readPart_0_ok (i := 34) [.int (((-1) : Int32) - r15)] rfl mw_X12_lay mv_X12_lay ml_X12_246 k1 (bl (by omega)) rfl rfl rfl (w_X12_lay C.G y a0 (((-1) : Int32) - r15) M16) er18 rfl rfl rfl ?_
          refine g_aload_n C tb_X12_readPart_0_ok (i := 35) rfl rfl ?_
          refine g_getI C tb_X12_readPart_0_ok (i := 36) rfl fl_X12_203 rfl k1 ?_
          obtain ⟨j21, ej21, h⟩ := jn_e h
          have J74 : ∀ (M20 : Mem), j21 M20 = some out → GG g x 3 Q 0 0 y M20 74 [none, none, none] [] := by
            intro M20 h; subst ej21
            cases h
            exact g_vret0 C R0 tb_X12_readPart_1_ok (i := 0) rfl
          obtain ⟨t22, f23⟩ := br_e h
          refine g_if_ne C tb_X12_readPart_0_ok (i := 37) 74 rfl rfl (fun c => ?_) (fun c => ?_)
          · have h := f23 c
            exact g_less (L' := [none, none, none]) trivial (J74 M19 h)
          · have h := t22 c
            refine g_aload_n C tb_X12_readPart_0_ok (i := 38) rfl rfl ?_
            obtain ⟨r24, M25, er24, h⟩ := c0_e h
            refine g_callV0 C tb_X12_readPart_0_ok (i := 39) [] rfl mw_X12_stepOn mv_X12_stepOn ml_X12_226 k1 (bl (by omega)) rfl rfl rfl (w_X12_stepOn C.G y a0 M19) er24 rfl rfl rfl ?_
            exact g_less (L' := [none, none, none]) trivial (J74 M25 h)
        obtain ⟨t26, f27⟩ := br_e h
        refine g_icmp_ne C tb_X12_readPart_0_ok (i := 26) 56 rfl rfl (fun c => ?_) (fun c => ?_)
        · have h := f27 c
          exact g_less (L' := [some (.ref a0), none, some (.int r15)]) ⟨rfl, ⟨rfl, trivial⟩⟩ (J56 M h)
        · have h := t26 c
          refine g_aload_n C tb_X12_readPart_0_ok (i := 27) rfl rfl ?_
          refine g_iconstv C tb_X12_readPart_0_ok (i := 28) 3 rfl k_iconstv_3 ?_
          obtain ⟨r28, M29, er28, h⟩ := c0_e h
          refine g_callV0 C tb_X12_readPart_0_ok (i := 29) [.int (3 : Int32)] rfl mw_X12_wrong mv_X12_wrong ml_X12_223 k1 (bl (by omega)) rfl rfl rfl (w_X12_wrong C.G y a0 (3 : Int32) M) er28 rfl rfl rfl ?_
          exact g_less (L' := [some (.ref a0), none, some (.int r15)]) ⟨rfl, ⟨rfl, trivial⟩⟩ (J56 M29 h)
    · have h := t4 c
      refine g_aload_n C tb_X12_readPart_0_ok (i := 8) rfl rfl ?_
      refine g_aload_n C tb_X12_readPart_0_ok (i := 9) rfl rfl ?_
      refine g_iconstv C tb_X12_readPart_0_ok (i := 10) 0 rfl k_iconstv_0 ?_
      refine g_sipushv C tb_X12_readPart_0_ok (i := 11) 9999 rfl k_sipushv_9999 ?_
      obtain ⟨r30, M31, er30, h⟩ := c0_e h
      refine g_callV0 C tb_X12_readPart_0_ok (i := 12) [.int (0 : Int32), .int (9999 : Int32)] rfl mw_X12_readNumber mv_X12_readNumber ml_X12_243 k1 (bl (by omega)) rfl rfl rfl (w_X12_readNumber C.G y a0 (0 : Int32) (9999 : Int32) M) er30 rfl rfl rfl ?_
      obtain ⟨r32, M33, er32, h⟩ := c0_e h
      refine g_callV0 C tb_X12_readPart_0_ok (i := 13) [.int r30] rfl mw_X12_lay mv_X12_lay ml_X12_246 k1 (bl (by omega)) rfl rfl rfl (w_X12_lay C.G y a0 r30 M31) er32 rfl rfl rfl ?_
      cases h
      exact g_vret0 C R0 tb_X12_readPart_0_ok (i := 14) rfl
  · have h := f3 c
    cases h
    exact g_vret0 C R0 tb_X12_readPart_0_ok (i := 3) rfl
def f_X12_readProduct (R : Lay → Nat → Int32 → Mem → Option (Int32 × Mem)) (y : Lay) (a0 : Nat) (a1 : Int32) (M : Mem) : Option (Int32 × Mem) := gK y a0 (0, 12) (c0 (f_X12_readPart R y a0 a1 M) fun (r2 : Int32) (M3 : Mem) => fixN (fun _ => none) (fun (s5 : Mem → Option (Int32 × Mem)) (M4 : Mem) => cp (f_X12_isMarked y a0 (42 : Int32) M4) fun (r7 : Int32) => jn (fun (_u : Unit) => cp (f_X12_isMarked y a0 (42 : Int32) M4) fun (r9 : Int32) => jn (fun (v10 : Int32) => c0 (f_X12_stepOn y a0 M4) fun (r12 : Int32) (M13 : Mem) => c0 (f_X12_readPart R y a0 a1 M13) fun (r14 : Int32) (M15 : Mem) => c0 (f_X12_lay y a0 v10 M15) fun (r16 : Int32) (M17 : Mem) => s5 M17) fun j11 => br (r9 = 0) (j11 ((-23) : Int32)) (j11 ((-22) : Int32))) fun j8 => br (r7 = 0) (cp (f_X12_isMarked y a0 (47 : Int32) M4) fun (r22 : Int32) => br (r22 = 0) (some (0, M4)) (j8 ())) (j8 ())) FUEL M3)
theorem w_X12_readProduct {g : GX} {n : Nat} {R : Lay → Nat → Int32 → Mem → Option (Int32 × Mem)} (hR : ∀ l : Launch, GF g l → ∀ (y : Lay) (a0 : Nat) (a1 : Int32) (M : Mem), C0 g l yX12_readExpression cX12_readExpression 3 none (6 + 6 * n) y [.ref a0, .int a1] M (R y a0 a1 M)) {l : Launch} (hG : GF g l) (y : Lay) (a0 : Nat) (a1 : Int32) (M : Mem) : C0 g l yX12_readProduct cX12_readProduct 3 none (6 + 6 * n + 2) y [.ref a0, .int a1] M (f_X12_readProduct R y a0 a1 M) := by
  refine C0_of hG (by decide) [some (.ref a0), some (.int a1), none] rfl rfl (fun out h x Q C R0 => ?_)
  unfold f_X12_readProduct at h
  refine g_aload_n C tb_X12_readProduct_0_ok (i := 0) rfl rfl ?_
  refine g_iload_n C tb_X12_readProduct_0_ok (i := 1) rfl rfl ?_
  obtain ⟨k1, h⟩ := gK_e h
  obtain ⟨r2, M3, er2, h⟩ := c0_e h
  refine g_callV0 C tb_X12_readProduct_0_ok (i := 2) [.int a1] rfl mw_X12_readPart mv_X12_readPart ml_X12_259 k1 (bl (by omega)) rfl rfl rfl (w_X12_readPart (n := n) hR C.G y a0 a1 M) er2 rfl rfl rfl ?_
  refine g_less (L' := [some (.ref a0), some (.int a1), none]) ⟨rfl, ⟨rfl, trivial⟩⟩ ?_
  refine fix_i (P := fun (f : Mem → Option (Int32 × Mem)) => ∀ (M4 : Mem), f M4 = some out → GG g x 3 Q 0 0 y M4 5 [some (.ref a0), some (.int a1), none] []) ?_ ?_ _ M3 h
  · intro M4 h; exact (nn_e h).elim
  · intro s5 ih6 M4 h
    refine g_aload_n C tb_X12_readProduct_0_ok (i := 3) rfl rfl ?_
    refine g_bipushv C tb_X12_readProduct_0_ok (i := 4) 42 rfl k_bipushv_42 ?_
    obtain ⟨r7, er7, h⟩ := cp_e h
    refine g_callV0 C tb_X12_readProduct_0_ok (i := 5) [.int (42 : Int32)] rfl mw_X12_isMarked mv_X12_isMarked ml_X12_220 k1 (bl (by omega)) rfl rfl rfl (w_X12_isMarked C.G y a0 (42 : Int32) M4) (pm_s er7) rfl rfl rfl ?_
    obtain ⟨j8, ej8, h⟩ := jn_e h
    have J23 : ∀ (_u : Unit), j8 _u = some out → GG g x 3 Q 0 0 y M4 23 [some (.ref a0), some (.int a1), none] [] := by
      intro _u h; subst ej8
      refine g_aload_n C tb_X12_readProduct_0_ok (i := 11) rfl rfl ?_
      refine g_bipushv C tb_X12_readProduct_0_ok (i := 12) 42 rfl k_bipushv_42 ?_
      obtain ⟨r9, er9, h⟩ := cp_e h
      refine g_callV0 C tb_X12_readProduct_0_ok (i := 13) [.int (42 : Int32)] rfl mw_X12_isMarked mv_X12_isMarked ml_X12_220 k1 (bl (by omega)) rfl rfl rfl (w_X12_isMarked C.G y a0 (42 : Int32) M4) (pm_s er9) rfl rfl rfl ?_
      obtain ⟨j11, ej11, h⟩ := jn_e h
      have J39 : ∀ (v10 : Int32), j11 v10 = some out → GG g x 3 Q 0 0 y M4 39 [some (.ref a0), some (.int a1), none] [.int v10] := by
        intro v10 h; subst ej11
        refine g_istore_n C tb_X12_readProduct_0_ok (i := 18) rfl rfl rfl ?_
        refine g_aload_n C tb_X12_readProduct_0_ok (i := 19) rfl rfl ?_
        obtain ⟨r12, M13, er12, h⟩ := c0_e h
        refine g_callV0 C tb_X12_readProduct_0_ok (i := 20) [] rfl mw_X12_stepOn mv_X12_stepOn ml_X12_226 k1 (bl (by omega)) rfl rfl rfl (w_X12_stepOn C.G y a0 M4) er12 rfl rfl rfl ?_
        refine g_aload_n C tb_X12_readProduct_0_ok (i := 21) rfl rfl ?_
        refine g_iload_n C tb_X12_readProduct_0_ok (i := 22) rfl rfl ?_
        obtain ⟨r14, M15, er14, h⟩ := c0_e h
        refine g_callV0 C tb_X12_readProduct_0_ok (i := 23) [.int a1] rfl mw_X12_readPart mv_X12_readPart ml_X12_259 k1 (bl (by omega)) rfl rfl rfl (w_X12_readPart (n := n) hR C.G y a0 a1 M13) er14 rfl rfl rfl ?_
        refine g_aload_n C tb_X12_readProduct_0_ok (i := 24) rfl rfl ?_
        refine g_iload_n C tb_X12_readProduct_0_ok (i := 25) rfl rfl ?_
        obtain ⟨r16, M17, er16, h⟩ := c0_e h
        refine g_callV0 C tb_X12_readProduct_0_ok (i := 26) [.int v10] rfl mw_X12_lay mv_X12_lay ml_X12_246 k1 (bl (by omega)) rfl rfl rfl (w_X12_lay C.G y a0 v10 M15) er16 rfl rfl rfl ?_
        refine g_goto C tb_X12_readProduct_0_ok (i := 27) 5 rfl rfl ?_
        exact g_less (L' := [some (.ref a0), some (.int a1), none]) ⟨rfl, ⟨rfl, trivial⟩⟩ (ih6 M17 h)
      obtain ⟨t18, f19⟩ := br_e h
      refine g_if_eq C tb_X12_readProduct_0_ok (i := 14) 37 rfl rfl (fun c => ?_) (fun c => ?_)
      · have h := t18 c
        refine g_bipushv C tb_X12_readProduct_0_ok (i := 17) (-23) rfl k_bipushv_m23 ?_
        exact g_less (L' := [some (.ref a0), some (.int a1), none]) ⟨rfl, ⟨rfl, trivial⟩⟩ (J39 ((-23) : Int32) h)
      · have h := f19 c
        refine g_bipushv C tb_X12_readProduct_0_ok (i := 15) (-22) rfl k_bipushv_m22 ?_
        refine g_goto C tb_X12_readProduct_0_ok (i := 16) 39 rfl rfl ?_
        exact g_less (L' := [some (.ref a0), some (.int a1), none]) ⟨rfl, ⟨rfl, trivial⟩⟩ (J39 ((-22) : Int32) h)
    obtain ⟨t20, f21⟩ := br_e h
    refine g_if_ne C tb_X12_readProduct_0_ok (i := 6) 23 rfl rfl (fun c => ?_) (fun c => ?_)
    · have h := f21 c
      exact g_less (L' := [some (.ref a0), some (.int a1), none]) ⟨rfl, ⟨rfl, trivial⟩⟩ (J23 () h)
    · have h := t20 c
      refine g_aload_n C tb_X12_readProduct_0_ok (i := 7) rfl rfl ?_
      refine g_bipushv C tb_X12_readProduct_0_ok (i := 8) 47 rfl k_bipushv_47 ?_
      obtain ⟨r22, er22, h⟩ := cp_e h
      refine g_callV0 C tb_X12_readProduct_0_ok (i := 9) [.int (47 : Int32)] rfl mw_X12_isMarked mv_X12_isMarked ml_X12_220 k1 (bl (by omega)) rfl rfl rfl (w_X12_isMarked C.G y a0 (47 : Int32) M4) (pm_s er22) rfl rfl rfl ?_
      obtain ⟨t23, f24⟩ := br_e h
      refine g_if_eq C tb_X12_readProduct_0_ok (i := 10) 57 rfl rfl (fun c => ?_) (fun c => ?_)
      · have h := t23 c
        cases h
        exact g_vret0 C R0 tb_X12_readProduct_0_ok (i := 28) rfl
      · have h := f24 c
        exact g_less (L' := [some (.ref a0), some (.int a1), none]) ⟨rfl, ⟨rfl, trivial⟩⟩ (J23 () h)
def f_X12_readSum (R : Lay → Nat → Int32 → Mem → Option (Int32 × Mem)) (y : Lay) (a0 : Nat) (a1 : Int32) (M : Mem) : Option (Int32 × Mem) := gK y a0 (0, 12) (c0 (f_X12_readProduct R y a0 a1 M) fun (r2 : Int32) (M3 : Mem) => fixN (fun _ => none) (fun (s5 : Mem → Option (Int32 × Mem)) (M4 : Mem) => cp (f_X12_isMarked y a0 (43 : Int32) M4) fun (r7 : Int32) => jn (fun (_u : Unit) => cp (f_X12_isMarked y a0 (43 : Int32) M4) fun (r9 : Int32) => jn (fun (v10 : Int32) => c0 (f_X12_stepOn y a0 M4) fun (r12 : Int32) (M13 : Mem) => c0 (f_X12_readProduct R y a0 a1 M13) fun (r14 : Int32) (M15 : Mem) => c0 (f_X12_lay y a0 v10 M15) fun (r16 : Int32) (M17 : Mem) => s5 M17) fun j11 => br (r9 = 0) (j11 ((-21) : Int32)) (j11 ((-20) : Int32))) fun j8 => br (r7 = 0) (cp (f_X12_isMarked y a0 (45 : Int32) M4) fun (r22 : Int32) => br (r22 = 0) (some (0, M4)) (j8 ())) (j8 ())) FUEL M3)
theorem w_X12_readSum {g : GX} {n : Nat} {R : Lay → Nat → Int32 → Mem → Option (Int32 × Mem)} (hR : ∀ l : Launch, GF g l → ∀ (y : Lay) (a0 : Nat) (a1 : Int32) (M : Mem), C0 g l yX12_readExpression cX12_readExpression 3 none (6 + 6 * n) y [.ref a0, .int a1] M (R y a0 a1 M)) {l : Launch} (hG : GF g l) (y : Lay) (a0 : Nat) (a1 : Int32) (M : Mem) : C0 g l yX12_readSum cX12_readSum 3 none (6 + 6 * n + 3) y [.ref a0, .int a1] M (f_X12_readSum R y a0 a1 M) := by
  refine C0_of hG (by decide) [some (.ref a0), some (.int a1), none] rfl rfl (fun out h x Q C R0 => ?_)
  unfold f_X12_readSum at h
  refine g_aload_n C tb_X12_readSum_0_ok (i := 0) rfl rfl ?_
  refine g_iload_n C tb_X12_readSum_0_ok (i := 1) rfl rfl ?_
  obtain ⟨k1, h⟩ := gK_e h
  obtain ⟨r2, M3, er2, h⟩ := c0_e h
  refine g_callV0 C tb_X12_readSum_0_ok (i := 2) [.int a1] rfl mw_X12_readProduct mv_X12_readProduct ml_X12_262 k1 (bl (by omega)) rfl rfl rfl (w_X12_readProduct (n := n) hR C.G y a0 a1 M) er2 rfl rfl rfl ?_
  refine g_less (L' := [some (.ref a0), some (.int a1), none]) ⟨rfl, ⟨rfl, trivial⟩⟩ ?_
  refine fix_i (P := fun (f : Mem → Option (Int32 × Mem)) => ∀ (M4 : Mem), f M4 = some out → GG g x 3 Q 0 0 y M4 5 [some (.ref a0), some (.int a1), none] []) ?_ ?_ _ M3 h
  · intro M4 h; exact (nn_e h).elim
  · intro s5 ih6 M4 h
    refine g_aload_n C tb_X12_readSum_0_ok (i := 3) rfl rfl ?_
    refine g_bipushv C tb_X12_readSum_0_ok (i := 4) 43 rfl k_bipushv_43 ?_
    obtain ⟨r7, er7, h⟩ := cp_e h
    refine g_callV0 C tb_X12_readSum_0_ok (i := 5) [.int (43 : Int32)] rfl mw_X12_isMarked mv_X12_isMarked ml_X12_220 k1 (bl (by omega)) rfl rfl rfl (w_X12_isMarked C.G y a0 (43 : Int32) M4) (pm_s er7) rfl rfl rfl ?_
    obtain ⟨j8, ej8, h⟩ := jn_e h
    have J23 : ∀ (_u : Unit), j8 _u = some out → GG g x 3 Q 0 0 y M4 23 [some (.ref a0), some (.int a1), none] [] := by
      intro _u h; subst ej8
      refine g_aload_n C tb_X12_readSum_0_ok (i := 11) rfl rfl ?_
      refine g_bipushv C tb_X12_readSum_0_ok (i := 12) 43 rfl k_bipushv_43 ?_
      obtain ⟨r9, er9, h⟩ := cp_e h
      refine g_callV0 C tb_X12_readSum_0_ok (i := 13) [.int (43 : Int32)] rfl mw_X12_isMarked mv_X12_isMarked ml_X12_220 k1 (bl (by omega)) rfl rfl rfl (w_X12_isMarked C.G y a0 (43 : Int32) M4) (pm_s er9) rfl rfl rfl ?_
      obtain ⟨j11, ej11, h⟩ := jn_e h
      have J39 : ∀ (v10 : Int32), j11 v10 = some out → GG g x 3 Q 0 0 y M4 39 [some (.ref a0), some (.int a1), none] [.int v10] := by
        intro v10 h; subst ej11
        refine g_istore_n C tb_X12_readSum_0_ok (i := 18) rfl rfl rfl ?_
        refine g_aload_n C tb_X12_readSum_0_ok (i := 19) rfl rfl ?_
        obtain ⟨r12, M13, er12, h⟩ := c0_e h
        refine g_callV0 C tb_X12_readSum_0_ok (i := 20) [] rfl mw_X12_stepOn mv_X12_stepOn ml_X12_226 k1 (bl (by omega)) rfl rfl rfl (w_X12_stepOn C.G y a0 M4) er12 rfl rfl rfl ?_
        refine g_aload_n C tb_X12_readSum_0_ok (i := 21) rfl rfl ?_
        refine g_iload_n C tb_X12_readSum_0_ok (i := 22) rfl rfl ?_
        obtain ⟨r14, M15, er14, h⟩ := c0_e h
        refine g_callV0 C tb_X12_readSum_0_ok (i := 23) [.int a1] rfl mw_X12_readProduct mv_X12_readProduct ml_X12_262 k1 (bl (by omega)) rfl rfl rfl (w_X12_readProduct (n := n) hR C.G y a0 a1 M13) er14 rfl rfl rfl ?_
        refine g_aload_n C tb_X12_readSum_0_ok (i := 24) rfl rfl ?_
        refine g_iload_n C tb_X12_readSum_0_ok (i := 25) rfl rfl ?_
        obtain ⟨r16, M17, er16, h⟩ := c0_e h
        refine g_callV0 C tb_X12_readSum_0_ok (i := 26) [.int v10] rfl mw_X12_lay mv_X12_lay ml_X12_246 k1 (bl (by omega)) rfl rfl rfl (w_X12_lay C.G y a0 v10 M15) er16 rfl rfl rfl ?_
        refine g_goto C tb_X12_readSum_0_ok (i := 27) 5 rfl rfl ?_
        exact g_less (L' := [some (.ref a0), some (.int a1), none]) ⟨rfl, ⟨rfl, trivial⟩⟩ (ih6 M17 h)
      obtain ⟨t18, f19⟩ := br_e h
      refine g_if_eq C tb_X12_readSum_0_ok (i := 14) 37 rfl rfl (fun c => ?_) (fun c => ?_)
      · have h := t18 c
        refine g_bipushv C tb_X12_readSum_0_ok (i := 17) (-21) rfl k_bipushv_m21 ?_
        exact g_less (L' := [some (.ref a0), some (.int a1), none]) ⟨rfl, ⟨rfl, trivial⟩⟩ (J39 ((-21) : Int32) h)
      · have h := f19 c
        refine g_bipushv C tb_X12_readSum_0_ok (i := 15) (-20) rfl k_bipushv_m20 ?_
        refine g_goto C tb_X12_readSum_0_ok (i := 16) 39 rfl rfl ?_
        exact g_less (L' := [some (.ref a0), some (.int a1), none]) ⟨rfl, ⟨rfl, trivial⟩⟩ (J39 ((-20) : Int32) h)
    obtain ⟨t20, f21⟩ := br_e h
    refine g_if_ne C tb_X12_readSum_0_ok (i := 6) 23 rfl rfl (fun c => ?_) (fun c => ?_)
    · have h := f21 c
      exact g_less (L' := [some (.ref a0), some (.int a1), none]) ⟨rfl, ⟨rfl, trivial⟩⟩ (J23 () h)
    · have h := t20 c
      refine g_aload_n C tb_X12_readSum_0_ok (i := 7) rfl rfl ?_
      refine g_bipushv C tb_X12_readSum_0_ok (i := 8) 45 rfl k_bipushv_45 ?_
      obtain ⟨r22, er22, h⟩ := cp_e h
      refine g_callV0 C tb_X12_readSum_0_ok (i := 9) [.int (45 : Int32)] rfl mw_X12_isMarked mv_X12_isMarked ml_X12_220 k1 (bl (by omega)) rfl rfl rfl (w_X12_isMarked C.G y a0 (45 : Int32) M4) (pm_s er22) rfl rfl rfl ?_
      obtain ⟨t23, f24⟩ := br_e h
      refine g_if_eq C tb_X12_readSum_0_ok (i := 10) 57 rfl rfl (fun c => ?_) (fun c => ?_)
      · have h := t23 c
        cases h
        exact g_vret0 C R0 tb_X12_readSum_0_ok (i := 28) rfl
      · have h := f24 c
        exact g_less (L' := [some (.ref a0), some (.int a1), none]) ⟨rfl, ⟨rfl, trivial⟩⟩ (J23 () h)
def f_X12_readNot (R : Lay → Nat → Int32 → Mem → Option (Int32 × Mem)) (y : Lay) (a0 : Nat) (a1 : Int32) (M : Mem) : Option (Int32 × Mem) := fixN (fun _ _ => none) (fun (s3 : Int32 → Mem → Option (Int32 × Mem)) (v1 : Int32) (M2 : Mem) => gK y a0 (0, 12) (cp (f_X12_is y a0 1033 M2) fun (r6 : Int32) => br (r6 = 0) (c0 (f_X12_readSum R y a0 a1 M2) fun (r9 : Int32) (M10 : Mem) => cp (f_X12_isMarked y a0 (60 : Int32) M10) fun (r11 : Int32) => jn (fun (M12 : Mem) => fixN (fun _ _ => none) (fun (s16 : Int32 → Mem → Option (Int32 × Mem)) (v14 : Int32) (M15 : Mem) => br (v1 ≤ v14) (some (0, M15)) (c0 (f_X12_lay y a0 ((-28) : Int32) M15) fun (r20 : Int32) (M21 : Mem) => lt (v14 + (1 : Int32)) fun (v22 : Int32) => s16 v22 M21)) FUEL (0 : Int32) M12) fun j13 => jn (fun (_u : Unit) => cp (f_X12_isMarked y a0 (60 : Int32) M10) fun (r24 : Int32) => jn (fun (v25 : Int32) => c0 (f_X12_stepOn y a0 M10) fun (r27 : Int32) (M28 : Mem) => c0 (f_X12_readSum R y a0 a1 M28) fun (r29 : Int32) (M30 : Mem) => c0 (f_X12_lay y a0 v25 M30) fun (r31 : Int32) (M32 : Mem) => j13 M32) fun j26 => br (r24 = 0) (j26 ((-25) : Int32)) (j26 ((-24) : Int32))) fun j23 => br (r11 = 0) (cp (f_X12_isMarked y a0 (61 : Int32) M10) fun (r37 : Int32) => br (r37 = 0) (j13 M10) (j23 ())) (j23 ())) (jn (fun (M40 : Mem) => lt (v1 + (1 : Int32)) fun (v42 : Int32) => br ((M40.1 a0 22) = 0) (c0 (f_X12_stepOn y a0 M40) fun (r45 : Int32) (M46 : Mem) => s3 v42 M46) (s3 v42 M40)) fun j41 => br (v1 = (6 : Int32)) (c0 (f_X12_wrong y a0 (2 : Int32) M2) fun (r49 : Int32) (M50 : Mem) => j41 M50) (j41 M2)))) FUEL (0 : Int32) M
theorem w_X12_readNot {g : GX} {n : Nat} {R : Lay → Nat → Int32 → Mem → Option (Int32 × Mem)} (hR : ∀ l : Launch, GF g l → ∀ (y : Lay) (a0 : Nat) (a1 : Int32) (M : Mem), C0 g l yX12_readExpression cX12_readExpression 3 none (6 + 6 * n) y [.ref a0, .int a1] M (R y a0 a1 M)) {l : Launch} (hG : GF g l) (y : Lay) (a0 : Nat) (a1 : Int32) (M : Mem) : C0 g l yX12_readNot cX12_readNot 4 none (6 + 6 * n + 4) y [.ref a0, .int a1] M (f_X12_readNot R y a0 a1 M) := by
  refine C0_of hG (by decide) [some (.ref a0), some (.int a1), none, none] rfl rfl (fun out h x Q C R0 => ?_)
  unfold f_X12_readNot at h
  refine g_iconstv C tb_X12_readNot_0_ok (i := 0) 0 rfl k_iconstv_0 ?_
  refine g_istore_n C tb_X12_readNot_0_ok (i := 1) rfl rfl rfl ?_
  refine g_less (L' := [some (.ref a0), some (.int a1), some (.int (0 : Int32)), none]) ⟨rfl, ⟨rfl, ⟨rfl, trivial⟩⟩⟩ ?_
  refine fix_i (P := fun (f : Int32 → Mem → Option (Int32 × Mem)) => ∀ (v1 : Int32) (M2 : Mem), f v1 M2 = some out → GG g x 4 Q 0 0 y M2 2 [some (.ref a0), some (.int a1), some (.int v1), none] []) ?_ ?_ _ (0 : Int32) M h
  · intro v1 M2 h; exact (nn_e h).elim
  · intro s3 ih4 v1 M2 h
    refine g_aload_n C tb_X12_readNot_0_ok (i := 2) rfl rfl ?_
    refine g_ldcSw C tb_X12_readNot_0_ok (i := 3) (k := 33) (v := 1033) rfl rfl rfl (by decide) rfl ?_
    obtain ⟨k5, h⟩ := gK_e h
    obtain ⟨r6, er6, h⟩ := cp_e h
    refine g_callV0 C tb_X12_readNot_0_ok (i := 4) [.ref 1033] rfl mw_X12_is mv_X12_is ml_X12_216 k5 (bl (by omega)) rfl rfl rfl (w_X12_is C.G y a0 1033 M2) (pm_s er6) rfl rfl rfl ?_
    obtain ⟨t7, f8⟩ := br_e h
    refine g_if_eq C tb_X12_readNot_0_ok (i := 5) 40 rfl rfl (fun c => ?_) (fun c => ?_)
    · have h := t7 c
      refine g_aload_n C tb_X12_readNot_0_ok (i := 19) rfl rfl ?_
      refine g_iload_n C tb_X12_readNot_0_ok (i := 20) rfl rfl ?_
      obtain ⟨r9, M10, er9, h⟩ := c0_e h
      refine g_callV0 C tb_X12_readNot_0_ok (i := 21) [.int a1] rfl mw_X12_readSum mv_X12_readSum ml_X12_267 k5 (bl (by omega)) rfl rfl rfl (w_X12_readSum (n := n) hR C.G y a0 a1 M2) er9 rfl rfl rfl ?_
      refine g_aload_n C tb_X12_readNot_0_ok (i := 22) rfl rfl ?_
      refine g_bipushv C tb_X12_readNot_0_ok (i := 23) 60 rfl k_bipushv_60 ?_
      obtain ⟨r11, er11, h⟩ := cp_e h
      refine g_callV0 C tb_X12_readNot_0_ok (i := 24) [.int (60 : Int32)] rfl mw_X12_isMarked mv_X12_isMarked ml_X12_220 k5 (bl (by omega)) rfl rfl rfl (w_X12_isMarked C.G y a0 (60 : Int32) M10) (pm_s er11) rfl rfl rfl ?_
      obtain ⟨j13, ej13, h⟩ := jn_e h
      have J94 : ∀ (M12 : Mem), j13 M12 = some out → GG g x 4 Q 0 0 y M12 94 [some (.ref a0), none, some (.int v1), none] [] := by
        intro M12 h; subst ej13
        refine g_iconstv C tb_X12_readNot_1_ok (i := 6) 0 rfl k_iconstv_0 ?_
        refine g_istore_n C tb_X12_readNot_1_ok (i := 7) rfl rfl rfl ?_
        refine g_less (L' := [some (.ref a0), none, some (.int v1), some (.int (0 : Int32))]) ⟨rfl, ⟨rfl, ⟨rfl, trivial⟩⟩⟩ ?_
        refine fix_i (P := fun (f : Int32 → Mem → Option (Int32 × Mem)) => ∀ (v14 : Int32) (M15 : Mem), f v14 M15 = some out → GG g x 4 Q 0 0 y M15 96 [some (.ref a0), none, some (.int v1), some (.int v14)] []) ?_ ?_ _ (0 : Int32) M12 h
        · intro v14 M15 h; exact (nn_e h).elim
        · intro s16 ih17 v14 M15 h
          refine g_iload_n C tb_X12_readNot_1_ok (i := 8) rfl rfl ?_
          refine g_iload_n C tb_X12_readNot_1_ok (i := 9) rfl rfl ?_
          obtain ⟨t18, f19⟩ := br_e h
          refine g_icmp_ge C tb_X12_readNot_1_ok (i := 10) 113 rfl rfl (fun c => ?_) (fun c => ?_)
          · have h := t18 c
            cases h
            exact g_vret0 C R0 tb_X12_readNot_1_ok (i := 16) rfl
          · have h := f19 c
            refine g_aload_n C tb_X12_readNot_1_ok (i := 11) rfl rfl ?_
            refine g_bipushv C tb_X12_readNot_1_ok (i := 12) (-28) rfl k_bipushv_m28 ?_
            obtain ⟨r20, M21, er20, h⟩ := c0_e h
            refine g_callV0 C tb_X12_readNot_1_ok (i := 13) [.int ((-28) : Int32)] rfl mw_X12_lay mv_X12_lay ml_X12_246 k5 (bl (by omega)) rfl rfl rfl (w_X12_lay C.G y a0 ((-28) : Int32) M15) er20 rfl rfl rfl ?_
            obtain ⟨v22, ev22⟩ : ∃ w : Int32, w = v14 + (1 : Int32) := ⟨_, rfl⟩
            have h := lt_e ev22 h
            refine g_iincv C tb_X12_readNot_1_ok (i := 14) (1 : Int32) ev22 rfl rfl k_iconstv_1 rfl rfl ?_
            refine g_goto C tb_X12_readNot_1_ok (i := 15) 96 rfl rfl ?_
            exact g_less (L' := [some (.ref a0), none, some (.int v1), some (.int v22)]) ⟨rfl, ⟨rfl, ⟨rfl, trivial⟩⟩⟩ (ih17 v22 M21 h)
      obtain ⟨j23, ej23, h⟩ := jn_e h
      have J63 : ∀ (_u : Unit), j23 _u = some out → GG g x 4 Q 0 0 y M10 63 [some (.ref a0), some (.int a1), some (.int v1), none] [] := by
        intro _u h; subst ej23
        refine g_aload_n C tb_X12_readNot_0_ok (i := 30) rfl rfl ?_
        refine g_bipushv C tb_X12_readNot_0_ok (i := 31) 60 rfl k_bipushv_60 ?_
        obtain ⟨r24, er24, h⟩ := cp_e h
        refine g_callV0 C tb_X12_readNot_0_ok (i := 32) [.int (60 : Int32)] rfl mw_X12_isMarked mv_X12_isMarked ml_X12_220 k5 (bl (by omega)) rfl rfl rfl (w_X12_isMarked C.G y a0 (60 : Int32) M10) (pm_s er24) rfl rfl rfl ?_
        obtain ⟨j26, ej26, h⟩ := jn_e h
        have J79 : ∀ (v25 : Int32), j26 v25 = some out → GG g x 4 Q 0 0 y M10 79 [some (.ref a0), some (.int a1), some (.int v1), none] [.int v25] := by
          intro v25 h; subst ej26
          refine g_istore_n C tb_X12_readNot_0_ok (i := 37) rfl rfl rfl ?_
          refine g_aload_n C tb_X12_readNot_0_ok (i := 38) rfl rfl ?_
          obtain ⟨r27, M28, er27, h⟩ := c0_e h
          refine g_callV0 C tb_X12_readNot_0_ok (i := 39) [] rfl mw_X12_stepOn mv_X12_stepOn ml_X12_226 k5 (bl (by omega)) rfl rfl rfl (w_X12_stepOn C.G y a0 M10) er27 rfl rfl rfl ?_
          refine g_aload_n C tb_X12_readNot_1_ok (i := 0) rfl rfl ?_
          refine g_iload_n C tb_X12_readNot_1_ok (i := 1) rfl rfl ?_
          obtain ⟨r29, M30, er29, h⟩ := c0_e h
          refine g_callV0 C tb_X12_readNot_1_ok (i := 2) [.int a1] rfl mw_X12_readSum mv_X12_readSum ml_X12_267 k5 (bl (by omega)) rfl rfl rfl (w_X12_readSum (n := n) hR C.G y a0 a1 M28) er29 rfl rfl rfl ?_
          refine g_aload_n C tb_X12_readNot_1_ok (i := 3) rfl rfl ?_
          refine g_iload_n C tb_X12_readNot_1_ok (i := 4) rfl rfl ?_
          obtain ⟨r31, M32, er31, h⟩ := c0_e h
          refine g_callV0 C tb_X12_readNot_1_ok (i := 5) [.int v25] rfl mw_X12_lay mv_X12_lay ml_X12_246 k5 (bl (by omega)) rfl rfl rfl (w_X12_lay C.G y a0 v25 M30) er31 rfl rfl rfl ?_
          exact g_less (L' := [some (.ref a0), none, some (.int v1), none]) ⟨rfl, ⟨rfl, trivial⟩⟩ (J94 M32 h)
        obtain ⟨t33, f34⟩ := br_e h
        refine g_if_eq C tb_X12_readNot_0_ok (i := 33) 77 rfl rfl (fun c => ?_) (fun c => ?_)
        · have h := t33 c
          refine g_bipushv C tb_X12_readNot_0_ok (i := 36) (-25) rfl k_bipushv_m25 ?_
          exact g_less (L' := [some (.ref a0), some (.int a1), some (.int v1), none]) ⟨rfl, ⟨rfl, ⟨rfl, trivial⟩⟩⟩ (J79 ((-25) : Int32) h)
        · have h := f34 c
          refine g_bipushv C tb_X12_readNot_0_ok (i := 34) (-24) rfl k_bipushv_m24 ?_
          refine g_goto C tb_X12_readNot_0_ok (i := 35) 79 rfl rfl ?_
          exact g_less (L' := [some (.ref a0), some (.int a1), some (.int v1), none]) ⟨rfl, ⟨rfl, ⟨rfl, trivial⟩⟩⟩ (J79 ((-24) : Int32) h)
      obtain ⟨t35, f36⟩ := br_e h
      refine g_if_ne C tb_X12_readNot_0_ok (i := 25) 63 rfl rfl (fun c => ?_) (fun c => ?_)
      · have h := f36 c
        exact g_less (L' := [some (.ref a0), some (.int a1), some (.int v1), none]) ⟨rfl, ⟨rfl, ⟨rfl, trivial⟩⟩⟩ (J63 () h)
      · have h := t35 c
        refine g_aload_n C tb_X12_readNot_0_ok (i := 26) rfl rfl ?_
        refine g_bipushv C tb_X12_readNot_0_ok (i := 27) 61 rfl k_bipushv_61 ?_
        obtain ⟨r37, er37, h⟩ := cp_e h
        refine g_callV0 C tb_X12_readNot_0_ok (i := 28) [.int (61 : Int32)] rfl mw_X12_isMarked mv_X12_isMarked ml_X12_220 k5 (bl (by omega)) rfl rfl rfl (w_X12_isMarked C.G y a0 (61 : Int32) M10) (pm_s er37) rfl rfl rfl ?_
        obtain ⟨t38, f39⟩ := br_e h
        refine g_if_eq C tb_X12_readNot_0_ok (i := 29) 94 rfl rfl (fun c => ?_) (fun c => ?_)
        · have h := t38 c
          exact g_less (L' := [some (.ref a0), none, some (.int v1), none]) ⟨rfl, ⟨rfl, trivial⟩⟩ (J94 M10 h)
        · have h := f39 c
          exact g_less (L' := [some (.ref a0), some (.int a1), some (.int v1), none]) ⟨rfl, ⟨rfl, ⟨rfl, trivial⟩⟩⟩ (J63 () h)
    · have h := f8 c
      refine g_iload_n C tb_X12_readNot_0_ok (i := 6) rfl rfl ?_
      refine g_bipushv C tb_X12_readNot_0_ok (i := 7) 6 rfl k_bipushv_6 ?_
      obtain ⟨j41, ej41, h⟩ := jn_e h
      have J23 : ∀ (M40 : Mem), j41 M40 = some out → GG g x 4 Q 0 0 y M40 23 [some (.ref a0), some (.int a1), some (.int v1), none] [] := by
        intro M40 h; subst ej41
        obtain ⟨v42, ev42⟩ : ∃ w : Int32, w = v1 + (1 : Int32) := ⟨_, rfl⟩
        have h := lt_e ev42 h
        refine g_iincv C tb_X12_readNot_0_ok (i := 12) (1 : Int32) ev42 rfl rfl k_iconstv_1 rfl rfl ?_
        refine g_aload_n C tb_X12_readNot_0_ok (i := 13) rfl rfl ?_
        refine g_getI C tb_X12_readNot_0_ok (i := 14) rfl fl_X12_203 rfl k5 ?_
        obtain ⟨t43, f44⟩ := br_e h
        refine g_if_ne C tb_X12_readNot_0_ok (i := 15) 2 rfl rfl (fun c => ?_) (fun c => ?_)
        · have h := f44 c
          exact g_less (L' := [some (.ref a0), some (.int a1), some (.int v42), none]) ⟨rfl, ⟨rfl, ⟨rfl, trivial⟩⟩⟩ (ih4 v42 M40 h)
        · have h := t43 c
          refine g_aload_n C tb_X12_readNot_0_ok (i := 16) rfl rfl ?_
          obtain ⟨r45, M46, er45, h⟩ := c0_e h
          refine g_callV0 C tb_X12_readNot_0_ok (i := 17) [] rfl mw_X12_stepOn mv_X12_stepOn ml_X12_226 k5 (bl (by omega)) rfl rfl rfl (w_X12_stepOn C.G y a0 M40) er45 rfl rfl rfl ?_
          refine g_goto C tb_X12_readNot_0_ok (i := 18) 2 rfl rfl ?_
          exact g_less (L' := [some (.ref a0), some (.int a1), some (.int v42), none]) ⟨rfl, ⟨rfl, ⟨rfl, trivial⟩⟩⟩ (ih4 v42 M46 h)
      obtain ⟨t47, f48⟩ := br_e h
      refine g_icmp_ne C tb_X12_readNot_0_ok (i := 8) 23 rfl rfl (fun c => ?_) (fun c => ?_)
      · have h := f48 c
        exact g_less (L' := [some (.ref a0), some (.int a1), some (.int v1), none]) ⟨rfl, ⟨rfl, ⟨rfl, trivial⟩⟩⟩ (J23 M2 h)
      · have h := t47 c
        refine g_aload_n C tb_X12_readNot_0_ok (i := 9) rfl rfl ?_
        refine g_iconstv C tb_X12_readNot_0_ok (i := 10) 2 rfl k_iconstv_2 ?_
        obtain ⟨r49, M50, er49, h⟩ := c0_e h
        refine g_callV0 C tb_X12_readNot_0_ok (i := 11) [.int (2 : Int32)] rfl mw_X12_wrong mv_X12_wrong ml_X12_223 k5 (bl (by omega)) rfl rfl rfl (w_X12_wrong C.G y a0 (2 : Int32) M2) er49 rfl rfl rfl ?_
        exact g_less (L' := [some (.ref a0), some (.int a1), some (.int v1), none]) ⟨rfl, ⟨rfl, ⟨rfl, trivial⟩⟩⟩ (J23 M50 h)
def f_X12_readAnd (R : Lay → Nat → Int32 → Mem → Option (Int32 × Mem)) (y : Lay) (a0 : Nat) (a1 : Int32) (M : Mem) : Option (Int32 × Mem) := gK y a0 (0, 12) (c0 (f_X12_readNot R y a0 a1 M) fun (r2 : Int32) (M3 : Mem) => fixN (fun _ => none) (fun (s5 : Mem → Option (Int32 × Mem)) (M4 : Mem) => cp (f_X12_is y a0 1034 M4) fun (r7 : Int32) => br (r7 = 0) (some (0, M4)) (c0 (f_X12_stepOn y a0 M4) fun (r10 : Int32) (M11 : Mem) => c0 (f_X12_readNot R y a0 a1 M11) fun (r12 : Int32) (M13 : Mem) => c0 (f_X12_lay y a0 ((-26) : Int32) M13) fun (r14 : Int32) (M15 : Mem) => s5 M15)) FUEL M3)
theorem w_X12_readAnd {g : GX} {n : Nat} {R : Lay → Nat → Int32 → Mem → Option (Int32 × Mem)} (hR : ∀ l : Launch, GF g l → ∀ (y : Lay) (a0 : Nat) (a1 : Int32) (M : Mem), C0 g l yX12_readExpression cX12_readExpression 3 none (6 + 6 * n) y [.ref a0, .int a1] M (R y a0 a1 M)) {l : Launch} (hG : GF g l) (y : Lay) (a0 : Nat) (a1 : Int32) (M : Mem) : C0 g l yX12_readAnd cX12_readAnd 2 none (6 + 6 * n + 5) y [.ref a0, .int a1] M (f_X12_readAnd R y a0 a1 M) := by
  refine C0_of hG (by decide) [some (.ref a0), some (.int a1)] rfl rfl (fun out h x Q C R0 => ?_)
  unfold f_X12_readAnd at h
  refine g_aload_n C tb_X12_readAnd_0_ok (i := 0) rfl rfl ?_
  refine g_iload_n C tb_X12_readAnd_0_ok (i := 1) rfl rfl ?_
  obtain ⟨k1, h⟩ := gK_e h
  obtain ⟨r2, M3, er2, h⟩ := c0_e h
  refine g_callV0 C tb_X12_readAnd_0_ok (i := 2) [.int a1] rfl mw_X12_readNot mv_X12_readNot ml_X12_270 k1 (bl (by omega)) rfl rfl rfl (w_X12_readNot (n := n) hR C.G y a0 a1 M) er2 rfl rfl rfl ?_
  refine g_less (L' := [some (.ref a0), some (.int a1)]) ⟨rfl, ⟨rfl, trivial⟩⟩ ?_
  refine fix_i (P := fun (f : Mem → Option (Int32 × Mem)) => ∀ (M4 : Mem), f M4 = some out → GG g x 2 Q 0 0 y M4 5 [some (.ref a0), some (.int a1)] []) ?_ ?_ _ M3 h
  · intro M4 h; exact (nn_e h).elim
  · intro s5 ih6 M4 h
    refine g_aload_n C tb_X12_readAnd_0_ok (i := 3) rfl rfl ?_
    refine g_ldcSw C tb_X12_readAnd_0_ok (i := 4) (k := 34) (v := 1034) rfl rfl rfl (by decide) rfl ?_
    obtain ⟨r7, er7, h⟩ := cp_e h
    refine g_callV0 C tb_X12_readAnd_0_ok (i := 5) [.ref 1034] rfl mw_X12_is mv_X12_is ml_X12_216 k1 (bl (by omega)) rfl rfl rfl (w_X12_is C.G y a0 1034 M4) (pm_s er7) rfl rfl rfl ?_
    obtain ⟨t8, f9⟩ := br_e h
    refine g_if_eq C tb_X12_readAnd_0_ok (i := 6) 33 rfl rfl (fun c => ?_) (fun c => ?_)
    · have h := t8 c
      cases h
      exact g_vret0 C R0 tb_X12_readAnd_0_ok (i := 16) rfl
    · have h := f9 c
      refine g_aload_n C tb_X12_readAnd_0_ok (i := 7) rfl rfl ?_
      obtain ⟨r10, M11, er10, h⟩ := c0_e h
      refine g_callV0 C tb_X12_readAnd_0_ok (i := 8) [] rfl mw_X12_stepOn mv_X12_stepOn ml_X12_226 k1 (bl (by omega)) rfl rfl rfl (w_X12_stepOn C.G y a0 M4) er10 rfl rfl rfl ?_
      refine g_aload_n C tb_X12_readAnd_0_ok (i := 9) rfl rfl ?_
      refine g_iload_n C tb_X12_readAnd_0_ok (i := 10) rfl rfl ?_
      obtain ⟨r12, M13, er12, h⟩ := c0_e h
      refine g_callV0 C tb_X12_readAnd_0_ok (i := 11) [.int a1] rfl mw_X12_readNot mv_X12_readNot ml_X12_270 k1 (bl (by omega)) rfl rfl rfl (w_X12_readNot (n := n) hR C.G y a0 a1 M11) er12 rfl rfl rfl ?_
      refine g_aload_n C tb_X12_readAnd_0_ok (i := 12) rfl rfl ?_
      refine g_bipushv C tb_X12_readAnd_0_ok (i := 13) (-26) rfl k_bipushv_m26 ?_
      obtain ⟨r14, M15, er14, h⟩ := c0_e h
      refine g_callV0 C tb_X12_readAnd_0_ok (i := 14) [.int ((-26) : Int32)] rfl mw_X12_lay mv_X12_lay ml_X12_246 k1 (bl (by omega)) rfl rfl rfl (w_X12_lay C.G y a0 ((-26) : Int32) M13) er14 rfl rfl rfl ?_
      refine g_goto C tb_X12_readAnd_0_ok (i := 15) 5 rfl rfl ?_
      exact g_less (L' := [some (.ref a0), some (.int a1)]) ⟨rfl, ⟨rfl, trivial⟩⟩ (ih6 M15 h)
def f_X12_readExpressionB (R : Lay → Nat → Int32 → Mem → Option (Int32 × Mem)) (y : Lay) (a0 : Nat) (a1 : Int32) (M : Mem) : Option (Int32 × Mem) := gK y a0 (0, 12) (br ((M.1 a0 22) = 0) (jn (fun (v4 : Int32) => jn (fun (M6 : Mem) => c0 (f_X12_readAnd R y a0 a1 M6) fun (r8 : Int32) (M9 : Mem) => fixN (fun _ => none) (fun (s11 : Mem → Option (Int32 × Mem)) (M10 : Mem) => cp (f_X12_is y a0 1035 M10) fun (r13 : Int32) => br (r13 = 0) (some (0, M10)) (c0 (f_X12_stepOn y a0 M10) fun (r16 : Int32) (M17 : Mem) => c0 (f_X12_readAnd R y a0 a1 M17) fun (r18 : Int32) (M19 : Mem) => c0 (f_X12_lay y a0 ((-27) : Int32) M19) fun (r20 : Int32) (M21 : Mem) => s11 M21)) FUEL M9) fun j7 => br (v4 = 0) (c0 (f_X12_wrong y a0 (1 : Int32) M) fun (r28 : Int32) (M29 : Mem) => j7 M29) (br (a1 = (6 : Int32)) (c0 (f_X12_wrong y a0 (2 : Int32) M) fun (r26 : Int32) (M27 : Mem) => j7 M27) (j7 M))) fun j5 => jn (fun (_u : Unit) => j5 (1 : Int32)) fun j30 => br ((M.1 a0 18) = (2 : Int32)) (j30 ()) (br ((M.1 a0 18) = (1 : Int32)) (j30 ()) (cp (f_X12_isMarked y a0 (40 : Int32) M) fun (r35 : Int32) => br (r35 = 0) (j5 (0 : Int32)) (j30 ())))) (some (0, M)))
theorem w_X12_readExpressionB {g : GX} {n : Nat} {R : Lay → Nat → Int32 → Mem → Option (Int32 × Mem)} (hR : ∀ l : Launch, GF g l → ∀ (y : Lay) (a0 : Nat) (a1 : Int32) (M : Mem), C0 g l yX12_readExpression cX12_readExpression 3 none (6 + 6 * n) y [.ref a0, .int a1] M (R y a0 a1 M)) {l : Launch} (hG : GF g l) (y : Lay) (a0 : Nat) (a1 : Int32) (M : Mem) : C0 g l yX12_readExpression cX12_readExpression 3 none (6 + 6 * n + 6) y [.ref a0, .int a1] M (f_X12_readExpressionB R y a0 a1 M) := by
  refine C0_of hG (by decide) [some (.ref a0), some (.int a1), none] rfl rfl (fun out h x Q C R0 => ?_)
  unfold f_X12_readExpressionB at h
  refine g_aload_n C tb_X12_readExpression_0_ok (i := 0) rfl rfl ?_
  obtain ⟨k1, h⟩ := gK_e h
  refine g_getI C tb_X12_readExpression_0_ok (i := 1) rfl fl_X12_203 rfl k1 ?_
  obtain ⟨t2, f3⟩ := br_e h
  refine g_if_eq C tb_X12_readExpression_0_ok (i := 2) 8 rfl rfl (fun c => ?_) (fun c => ?_)
  · have h := t2 c
    refine g_aload_n C tb_X12_readExpression_0_ok (i := 4) rfl rfl ?_
    refine g_getI C tb_X12_readExpression_0_ok (i := 5) rfl fl_X12_177 rfl k1 ?_
    refine g_iconstv C tb_X12_readExpression_0_ok (i := 6) 2 rfl k_iconstv_2 ?_
    obtain ⟨j5, ej5, h⟩ := jn_e h
    have J38 : ∀ (v4 : Int32), j5 v4 = some out → GG g x 3 Q 0 0 y M 38 [some (.ref a0), some (.int a1), none] [.int v4] := by
      intro v4 h; subst ej5
      refine g_istore_n C tb_X12_readExpression_0_ok (i := 19) rfl rfl rfl ?_
      refine g_iload_n C tb_X12_readExpression_0_ok (i := 20) rfl rfl ?_
      obtain ⟨j7, ej7, h⟩ := jn_e h
      have J62 : ∀ (M6 : Mem), j7 M6 = some out → GG g x 3 Q 0 0 y M6 62 [some (.ref a0), some (.int a1), none] [] := by
        intro M6 h; subst ej7
        refine g_aload_n C tb_X12_readExpression_0_ok (i := 32) rfl rfl ?_
        refine g_iload_n C tb_X12_readExpression_0_ok (i := 33) rfl rfl ?_
        obtain ⟨r8, M9, er8, h⟩ := c0_e h
        refine g_callV0 C tb_X12_readExpression_0_ok (i := 34) [.int a1] rfl mw_X12_readAnd mv_X12_readAnd ml_X12_275 k1 (bl (by omega)) rfl rfl rfl (w_X12_readAnd (n := n) hR C.G y a0 a1 M6) er8 rfl rfl rfl ?_
        refine g_less (L' := [some (.ref a0), some (.int a1), none]) ⟨rfl, ⟨rfl, trivial⟩⟩ ?_
        refine fix_i (P := fun (f : Mem → Option (Int32 × Mem)) => ∀ (M10 : Mem), f M10 = some out → GG g x 3 Q 0 0 y M10 67 [some (.ref a0), some (.int a1), none] []) ?_ ?_ _ M9 h
        · intro M10 h; exact (nn_e h).elim
        · intro s11 ih12 M10 h
          refine g_aload_n C tb_X12_readExpression_0_ok (i := 35) rfl rfl ?_
          refine g_ldcSw C tb_X12_readExpression_0_ok (i := 36) (k := 35) (v := 1035) rfl rfl rfl (by decide) rfl ?_
          obtain ⟨r13, er13, h⟩ := cp_e h
          refine g_callV0 C tb_X12_readExpression_0_ok (i := 37) [.ref 1035] rfl mw_X12_is mv_X12_is ml_X12_216 k1 (bl (by omega)) rfl rfl rfl (w_X12_is C.G y a0 1035 M10) (pm_s er13) rfl rfl rfl ?_
          obtain ⟨t14, f15⟩ := br_e h
          refine g_if_eq C tb_X12_readExpression_0_ok (i := 38) 95 rfl rfl (fun c => ?_) (fun c => ?_)
          · have h := t14 c
            cases h
            exact g_vret0 C R0 tb_X12_readExpression_1_ok (i := 8) rfl
          · have h := f15 c
            refine g_aload_n C tb_X12_readExpression_0_ok (i := 39) rfl rfl ?_
            obtain ⟨r16, M17, er16, h⟩ := c0_e h
            refine g_callV0 C tb_X12_readExpression_1_ok (i := 0) [] rfl mw_X12_stepOn mv_X12_stepOn ml_X12_226 k1 (bl (by omega)) rfl rfl rfl (w_X12_stepOn C.G y a0 M10) er16 rfl rfl rfl ?_
            refine g_aload_n C tb_X12_readExpression_1_ok (i := 1) rfl rfl ?_
            refine g_iload_n C tb_X12_readExpression_1_ok (i := 2) rfl rfl ?_
            obtain ⟨r18, M19, er18, h⟩ := c0_e h
            refine g_callV0 C tb_X12_readExpression_1_ok (i := 3) [.int a1] rfl mw_X12_readAnd mv_X12_readAnd ml_X12_275 k1 (bl (by omega)) rfl rfl rfl (w_X12_readAnd (n := n) hR C.G y a0 a1 M17) er18 rfl rfl rfl ?_
            refine g_aload_n C tb_X12_readExpression_1_ok (i := 4) rfl rfl ?_
            refine g_bipushv C tb_X12_readExpression_1_ok (i := 5) (-27) rfl k_bipushv_m27 ?_
            obtain ⟨r20, M21, er20, h⟩ := c0_e h
            refine g_callV0 C tb_X12_readExpression_1_ok (i := 6) [.int ((-27) : Int32)] rfl mw_X12_lay mv_X12_lay ml_X12_246 k1 (bl (by omega)) rfl rfl rfl (w_X12_lay C.G y a0 ((-27) : Int32) M19) er20 rfl rfl rfl ?_
            refine g_goto C tb_X12_readExpression_1_ok (i := 7) 67 rfl rfl ?_
            exact g_less (L' := [some (.ref a0), some (.int a1), none]) ⟨rfl, ⟨rfl, trivial⟩⟩ (ih12 M21 h)
      obtain ⟨t22, f23⟩ := br_e h
      refine g_if_ne C tb_X12_readExpression_0_ok (i := 21) 51 rfl rfl (fun c => ?_) (fun c => ?_)
      · have h := f23 c
        refine g_iload_n C tb_X12_readExpression_0_ok (i := 26) rfl rfl ?_
        refine g_bipushv C tb_X12_readExpression_0_ok (i := 27) 6 rfl k_bipushv_6 ?_
        obtain ⟨t24, f25⟩ := br_e h
        refine g_icmp_ne C tb_X12_readExpression_0_ok (i := 28) 62 rfl rfl (fun c => ?_) (fun c => ?_)
        · have h := f25 c
          exact g_less (L' := [some (.ref a0), some (.int a1), none]) ⟨rfl, ⟨rfl, trivial⟩⟩ (J62 M h)
        · have h := t24 c
          refine g_aload_n C tb_X12_readExpression_0_ok (i := 29) rfl rfl ?_
          refine g_iconstv C tb_X12_readExpression_0_ok (i := 30) 2 rfl k_iconstv_2 ?_
          obtain ⟨r26, M27, er26, h⟩ := c0_e h
          refine g_callV0 C tb_X12_readExpression_0_ok (i := 31) [.int (2 : Int32)] rfl mw_X12_wrong mv_X12_wrong ml_X12_223 k1 (bl (by omega)) rfl rfl rfl (w_X12_wrong C.G y a0 (2 : Int32) M) er26 rfl rfl rfl ?_
          exact g_less (L' := [some (.ref a0), some (.int a1), none]) ⟨rfl, ⟨rfl, trivial⟩⟩ (J62 M27 h)
      · have h := t22 c
        refine g_aload_n C tb_X12_readExpression_0_ok (i := 22) rfl rfl ?_
        refine g_iconstv C tb_X12_readExpression_0_ok (i := 23) 1 rfl k_iconstv_1 ?_
        obtain ⟨r28, M29, er28, h⟩ := c0_e h
        refine g_callV0 C tb_X12_readExpression_0_ok (i := 24) [.int (1 : Int32)] rfl mw_X12_wrong mv_X12_wrong ml_X12_223 k1 (bl (by omega)) rfl rfl rfl (w_X12_wrong C.G y a0 (1 : Int32) M) er28 rfl rfl rfl ?_
        refine g_goto C tb_X12_readExpression_0_ok (i := 25) 62 rfl rfl ?_
        exact g_less (L' := [some (.ref a0), some (.int a1), none]) ⟨rfl, ⟨rfl, trivial⟩⟩ (J62 M29 h)
    obtain ⟨j30, ej30, h⟩ := jn_e h
    have J33 : ∀ (_u : Unit), j30 _u = some out → GG g x 3 Q 0 0 y M 33 [some (.ref a0), some (.int a1), none] [] := by
      intro _u h; subst ej30
      refine g_iconstv C tb_X12_readExpression_0_ok (i := 16) 1 rfl k_iconstv_1 ?_
      refine g_goto C tb_X12_readExpression_0_ok (i := 17) 38 rfl rfl ?_
      exact g_less (L' := [some (.ref a0), some (.int a1), none]) ⟨rfl, ⟨rfl, trivial⟩⟩ (J38 (1 : Int32) h)
    obtain ⟨t31, f32⟩ := br_e h
    refine g_icmp_eq C tb_X12_readExpression_0_ok (i := 7) 33 rfl rfl (fun c => ?_) (fun c => ?_)
    · have h := t31 c
      exact g_less (L' := [some (.ref a0), some (.int a1), none]) ⟨rfl, ⟨rfl, trivial⟩⟩ (J33 () h)
    · have h := f32 c
      refine g_aload_n C tb_X12_readExpression_0_ok (i := 8) rfl rfl ?_
      refine g_getI C tb_X12_readExpression_0_ok (i := 9) rfl fl_X12_177 rfl k1 ?_
      refine g_iconstv C tb_X12_readExpression_0_ok (i := 10) 1 rfl k_iconstv_1 ?_
      obtain ⟨t33, f34⟩ := br_e h
      refine g_icmp_eq C tb_X12_readExpression_0_ok (i := 11) 33 rfl rfl (fun c => ?_) (fun c => ?_)
      · have h := t33 c
        exact g_less (L' := [some (.ref a0), some (.int a1), none]) ⟨rfl, ⟨rfl, trivial⟩⟩ (J33 () h)
      · have h := f34 c
        refine g_aload_n C tb_X12_readExpression_0_ok (i := 12) rfl rfl ?_
        refine g_bipushv C tb_X12_readExpression_0_ok (i := 13) 40 rfl k_bipushv_40 ?_
        obtain ⟨r35, er35, h⟩ := cp_e h
        refine g_callV0 C tb_X12_readExpression_0_ok (i := 14) [.int (40 : Int32)] rfl mw_X12_isMarked mv_X12_isMarked ml_X12_220 k1 (bl (by omega)) rfl rfl rfl (w_X12_isMarked C.G y a0 (40 : Int32) M) (pm_s er35) rfl rfl rfl ?_
        obtain ⟨t36, f37⟩ := br_e h
        refine g_if_eq C tb_X12_readExpression_0_ok (i := 15) 37 rfl rfl (fun c => ?_) (fun c => ?_)
        · have h := t36 c
          refine g_iconstv C tb_X12_readExpression_0_ok (i := 18) 0 rfl k_iconstv_0 ?_
          exact g_less (L' := [some (.ref a0), some (.int a1), none]) ⟨rfl, ⟨rfl, trivial⟩⟩ (J38 (0 : Int32) h)
        · have h := f37 c
          exact g_less (L' := [some (.ref a0), some (.int a1), none]) ⟨rfl, ⟨rfl, trivial⟩⟩ (J33 () h)
  · have h := f3 c
    cases h
    exact g_vret0 C R0 tb_X12_readExpression_0_ok (i := 3) rfl
def f_X12_readExpression (y : Lay) (a0 : Nat) (a1 : Int32) (M : Mem) : Option (Int32 × Mem) := fixN (fun _ _ _ _ => none) (fun R => f_X12_readExpressionB R) 12 y a0 a1 M
theorem w_X12_readExpression {g : GX} {l : Launch} (hG : GF g l) (y : Lay) (a0 : Nat) (a1 : Int32) (M : Mem) : C0 g l yX12_readExpression cX12_readExpression 3 none 78 y [.ref a0, .int a1] M (f_X12_readExpression y a0 a1 M) := by
  have key : ∀ n : Nat, ∀ l : Launch, GF g l → ∀ (y : Lay) (a0 : Nat) (a1 : Int32) (M : Mem), C0 g l yX12_readExpression cX12_readExpression 3 none (6 + 6 * n) y [.ref a0, .int a1] M (fixN (fun _ _ _ _ => none) (fun R => f_X12_readExpressionB R) n y a0 a1 M) := by
    intro n
    induction n with
    | zero => intro l hG y a0 a1 M out h; exact (nn_e h).elim
    | succ n ih =>
      intro l hG y a0 a1 M
      rw [show 6 + 6 * (n + 1) = 6 + 6 * n + 6 by omega]
      exact w_X12_readExpressionB ih hG y a0 a1 M
  exact key 12 l hG y a0 a1 M
def f_X12_sayRule (y : Lay) (a0 : Nat) (a1 : Int32) (M : Mem) : Option (Int32 × Mem) := gK y a0 (0, 12) (c0 (f_X12_stepOn y a0 M) fun (r2 : Int32) (M3 : Mem) => gd (a1 = 0 ∨ a1 = 1) (lt (wI M3 a0 27 a1) fun (M5 : Mem) => jn (fun (v6 : Nat) => gN v6 (lt (wR M5 a0 3 v6) fun (M9 : Mem) => c0 (f_X12_readExpression y a0 (0 : Int32) M9) fun (r10 : Int32) (M11 : Mem) => some (0, M11))) fun j7 => br (a1 = 0) (gN (y.2.1 a0 1) (j7 (y.2.1 a0 1))) (gN (y.2.1 a0 2) (j7 (y.2.1 a0 2)))))
theorem w_X12_sayRule {g : GX} {l : Launch} (hG : GF g l) (y : Lay) (a0 : Nat) (a1 : Int32) (M : Mem) : C0 g l yX12_sayRule cX12_sayRule 2 none 79 y [.ref a0, .int a1] M (f_X12_sayRule y a0 a1 M) := by
  refine C0_of hG (by decide) [some (.ref a0), some (.int a1)] rfl rfl (fun out h x Q C R => ?_)
  unfold f_X12_sayRule at h
  refine g_aload_n C tb_X12_sayRule_0_ok (i := 0) rfl rfl ?_
  obtain ⟨k1, h⟩ := gK_e h
  obtain ⟨r2, M3, er2, h⟩ := c0_e h
  refine g_callV0 C tb_X12_sayRule_0_ok (i := 1) [] rfl mw_X12_stepOn mv_X12_stepOn ml_X12_226 k1 rfl rfl rfl rfl (w_X12_stepOn C.G y a0 M) er2 rfl rfl rfl ?_
  refine g_aload_n C tb_X12_sayRule_0_ok (i := 2) rfl rfl ?_
  refine g_iload_n C tb_X12_sayRule_0_ok (i := 3) rfl rfl ?_
  obtain ⟨z4, h⟩ := gd_e h
  refine g_putZ C tb_X12_sayRule_0_ok (i := 4) rfl fl_X12_240 ft_12_27 rfl z4 k1 ?_
  refine g_mem (fun M5 eM5 => ?_)
  have h := lt_e eM5 h
  refine g_aload_n C tb_X12_sayRule_0_ok (i := 5) rfl rfl ?_
  refine g_iload_n C tb_X12_sayRule_0_ok (i := 6) rfl rfl ?_
  obtain ⟨j7, ej7, h⟩ := jn_e h
  have J25 : ∀ (v6 : Nat), j7 v6 = some out → GG g x 2 Q 0 0 y M5 25 [some (.ref a0), none] [.ref v6, .ref a0] := by
    intro v6 h; subst ej7
    obtain ⟨n8, h⟩ := gN_e h
    refine g_putM C tb_X12_sayRule_0_ok (i := 13) rfl fl_X12_37 ft_12_3 (Or.inr ⟨_, rfl⟩) rfl n8 k1 ?_
    refine g_mem (fun M9 eM9 => ?_)
    have h := lt_e eM9 h
    refine g_aload_n C tb_X12_sayRule_0_ok (i := 14) rfl rfl ?_
    refine g_iconstv C tb_X12_sayRule_0_ok (i := 15) 0 rfl k_iconstv_0 ?_
    obtain ⟨r10, M11, er10, h⟩ := c0_e h
    refine g_callV0 C tb_X12_sayRule_0_ok (i := 16) [.int (0 : Int32)] rfl mw_X12_readExpression mv_X12_readExpression ml_X12_256 k1 rfl rfl rfl rfl (w_X12_readExpression C.G y a0 (0 : Int32) M9) er10 rfl rfl rfl ?_
    cases h
    exact g_vret0 C R tb_X12_sayRule_0_ok (i := 17) rfl
  obtain ⟨t12, f13⟩ := br_e h
  refine g_if_eq C tb_X12_sayRule_0_ok (i := 7) 21 rfl rfl (fun c => ?_) (fun c => ?_)
  · have h := t12 c
    refine g_aload_n C tb_X12_sayRule_0_ok (i := 11) rfl rfl ?_
    obtain ⟨n14, h⟩ := gN_e h
    refine g_getR C tb_X12_sayRule_0_ok (i := 12) rfl fl_X12_31 rfl k1 n14 ?_
    exact g_less (L' := [some (.ref a0), none]) ⟨rfl, trivial⟩ (J25 (y.2.1 a0 1) h)
  · have h := f13 c
    refine g_aload_n C tb_X12_sayRule_0_ok (i := 8) rfl rfl ?_
    obtain ⟨n15, h⟩ := gN_e h
    refine g_getR C tb_X12_sayRule_0_ok (i := 9) rfl fl_X12_34 rfl k1 n15 ?_
    refine g_goto C tb_X12_sayRule_0_ok (i := 10) 25 rfl rfl ?_
    exact g_less (L' := [some (.ref a0), none]) ⟨rfl, trivial⟩ (J25 (y.2.1 a0 2) h)
def f_X12_sayOnce (y : Lay) (a0 : Nat) (a1 : Int32) (M : Mem) : Option (Int32 × Mem) := br (a1 = (1 : Int32)) (gK y a0 (0, 12) (c0 (f_X12_saySky y a0 M) fun (r43 : Int32) (M44 : Mem) => some (0, M44))) (br (a1 ≤ (8 : Int32)) (gK y a0 (0, 12) (c0 (f_X12_stepOn y a0 M) fun (r6 : Int32) (M7 : Mem) => jn (fun (M8 : Mem) => jn (fun (M10 : Mem) => jn (fun (M12 : Mem) => some (0, M12)) fun j13 => br (a1 = (8 : Int32)) (gN (y.2.1 a0 5) (c0 (f_X12_readNumber y a0 (1 : Int32) (99 : Int32) M10) fun (r17 : Int32) (M18 : Mem) => gA y (y.2.1 a0 5) 1 (14 : Int32) (lt (wI M18 (y.2.1 a0 5) (14 : Int32).toNatClampNeg r17) fun (M20 : Mem) => j13 M20))) (j13 M10)) fun j11 => br (a1 = (4 : Int32)) (gN (y.2.1 a0 5) (c0 (f_X12_readNumber y a0 (0 : Int32) (20 : Int32) M8) fun (r24 : Int32) (M25 : Mem) => gA y (y.2.1 a0 5) 1 (13 : Int32) (lt (wI M25 (y.2.1 a0 5) (13 : Int32).toNatClampNeg r24) fun (M27 : Mem) => j11 M27))) (j11 M8)) fun j9 => br (a1 = (2 : Int32)) (gN (y.2.1 a0 5) (c0 (f_X12_readNumber y a0 (0 : Int32) (99 : Int32) M7) fun (r31 : Int32) (M32 : Mem) => gA y (y.2.1 a0 5) 1 (12 : Int32) (lt (wI M32 (y.2.1 a0 5) (12 : Int32).toNatClampNeg r31) fun (M34 : Mem) => j9 M34))) (j9 M7))) (jn (fun (v35 : Int32) => gK y a0 (0, 12) (c0 (f_X12_sayRule y a0 v35 M) fun (r38 : Int32) (M39 : Mem) => some (0, M39))) fun j36 => br (a1 = (32 : Int32)) (j36 (1 : Int32)) (j36 (0 : Int32))))
theorem w_X12_sayOnce {g : GX} {l : Launch} (hG : GF g l) (y : Lay) (a0 : Nat) (a1 : Int32) (M : Mem) : C0 g l yX12_sayOnce cX12_sayOnce 2 none 80 y [.ref a0, .int a1] M (f_X12_sayOnce y a0 a1 M) := by
  refine C0_of hG (by decide) [some (.ref a0), some (.int a1)] rfl rfl (fun out h x Q C R => ?_)
  unfold f_X12_sayOnce at h
  refine g_iload_n C tb_X12_sayOnce_0_ok (i := 0) rfl rfl ?_
  refine g_iconstv C tb_X12_sayOnce_0_ok (i := 1) 1 rfl k_iconstv_1 ?_
  obtain ⟨t1, f2⟩ := br_e h
  refine g_icmp_ne C tb_X12_sayOnce_0_ok (i := 2) 10 rfl rfl (fun c => ?_) (fun c => ?_)
  · have h := f2 c
    refine g_iload_n C tb_X12_sayOnce_0_ok (i := 6) rfl rfl ?_
    refine g_bipushv C tb_X12_sayOnce_0_ok (i := 7) 8 rfl k_bipushv_8 ?_
    obtain ⟨t3, f4⟩ := br_e h
    refine g_icmp_le C tb_X12_sayOnce_0_ok (i := 8) 32 rfl rfl (fun c => ?_) (fun c => ?_)
    · have h := t3 c
      refine g_aload_n C tb_X12_sayOnce_0_ok (i := 18) rfl rfl ?_
      obtain ⟨k5, h⟩ := gK_e h
      obtain ⟨r6, M7, er6, h⟩ := c0_e h
      refine g_callV0 C tb_X12_sayOnce_0_ok (i := 19) [] rfl mw_X12_stepOn mv_X12_stepOn ml_X12_226 k5 rfl rfl rfl rfl (w_X12_stepOn C.G y a0 M) er6 rfl rfl rfl ?_
      refine g_iload_n C tb_X12_sayOnce_0_ok (i := 20) rfl rfl ?_
      refine g_iconstv C tb_X12_sayOnce_0_ok (i := 21) 2 rfl k_iconstv_2 ?_
      obtain ⟨j9, ej9, h⟩ := jn_e h
      have J55 : ∀ (M8 : Mem), j9 M8 = some out → GG g x 2 Q 0 0 y M8 55 [some (.ref a0), some (.int a1)] [] := by
        intro M8 h; subst ej9
        refine g_iload_n C tb_X12_sayOnce_0_ok (i := 31) rfl rfl ?_
        refine g_iconstv C tb_X12_sayOnce_0_ok (i := 32) 4 rfl k_iconstv_4 ?_
        obtain ⟨j11, ej11, h⟩ := jn_e h
        have J74 : ∀ (M10 : Mem), j11 M10 = some out → GG g x 2 Q 0 0 y M10 74 [some (.ref a0), some (.int a1)] [] := by
          intro M10 h; subst ej11
          refine g_iload_n C tb_X12_sayOnce_1_ok (i := 2) rfl rfl ?_
          refine g_bipushv C tb_X12_sayOnce_1_ok (i := 3) 8 rfl k_bipushv_8 ?_
          obtain ⟨j13, ej13, h⟩ := jn_e h
          have J94 : ∀ (M12 : Mem), j13 M12 = some out → GG g x 2 Q 0 0 y M12 94 [none, none] [] := by
            intro M12 h; subst ej13
            cases h
            exact g_vret0 C R tb_X12_sayOnce_1_ok (i := 13) rfl
          obtain ⟨t14, f15⟩ := br_e h
          refine g_icmp_ne C tb_X12_sayOnce_1_ok (i := 4) 94 rfl rfl (fun c => ?_) (fun c => ?_)
          · have h := f15 c
            exact g_less (L' := [none, none]) trivial (J94 M10 h)
          · have h := t14 c
            refine g_aload_n C tb_X12_sayOnce_1_ok (i := 5) rfl rfl ?_
            obtain ⟨n16, h⟩ := gN_e h
            refine g_getR C tb_X12_sayOnce_1_ok (i := 6) rfl fl_X12_40 rfl k5 n16 ?_
            refine g_bipushv C tb_X12_sayOnce_1_ok (i := 7) 14 rfl k_bipushv_14 ?_
            refine g_aload_n C tb_X12_sayOnce_1_ok (i := 8) rfl rfl ?_
            refine g_iconstv C tb_X12_sayOnce_1_ok (i := 9) 1 rfl k_iconstv_1 ?_
            refine g_bipushv C tb_X12_sayOnce_1_ok (i := 10) 99 rfl k_bipushv_99 ?_
            obtain ⟨r17, M18, er17, h⟩ := c0_e h
            refine g_callV0 C tb_X12_sayOnce_1_ok (i := 11) [.int (1 : Int32), .int (99 : Int32)] rfl mw_X12_readNumber mv_X12_readNumber ml_X12_243 k5 rfl rfl rfl rfl (w_X12_readNumber C.G y a0 (1 : Int32) (99 : Int32) M10) er17 rfl rfl rfl ?_
            obtain ⟨b19, h⟩ := gA_e h
            refine g_iast C tb_X12_sayOnce_1_ok (i := 12) rfl b19 ?_
            refine g_mem (fun M20 eM20 => ?_)
            have h := lt_e eM20 h
            exact g_less (L' := [none, none]) trivial (J94 M20 h)
        obtain ⟨t21, f22⟩ := br_e h
        refine g_icmp_ne C tb_X12_sayOnce_0_ok (i := 33) 74 rfl rfl (fun c => ?_) (fun c => ?_)
        · have h := f22 c
          exact g_less (L' := [some (.ref a0), some (.int a1)]) ⟨rfl, ⟨rfl, trivial⟩⟩ (J74 M8 h)
        · have h := t21 c
          refine g_aload_n C tb_X12_sayOnce_0_ok (i := 34) rfl rfl ?_
          obtain ⟨n23, h⟩ := gN_e h
          refine g_getR C tb_X12_sayOnce_0_ok (i := 35) rfl fl_X12_40 rfl k5 n23 ?_
          refine g_bipushv C tb_X12_sayOnce_0_ok (i := 36) 13 rfl k_bipushv_13 ?_
          refine g_aload_n C tb_X12_sayOnce_0_ok (i := 37) rfl rfl ?_
          refine g_iconstv C tb_X12_sayOnce_0_ok (i := 38) 0 rfl k_iconstv_0 ?_
          refine g_bipushv C tb_X12_sayOnce_0_ok (i := 39) 20 rfl k_bipushv_20 ?_
          obtain ⟨r24, M25, er24, h⟩ := c0_e h
          refine g_callV0 C tb_X12_sayOnce_1_ok (i := 0) [.int (0 : Int32), .int (20 : Int32)] rfl mw_X12_readNumber mv_X12_readNumber ml_X12_243 k5 rfl rfl rfl rfl (w_X12_readNumber C.G y a0 (0 : Int32) (20 : Int32) M8) er24 rfl rfl rfl ?_
          obtain ⟨b26, h⟩ := gA_e h
          refine g_iast C tb_X12_sayOnce_1_ok (i := 1) rfl b26 ?_
          refine g_mem (fun M27 eM27 => ?_)
          have h := lt_e eM27 h
          exact g_less (L' := [some (.ref a0), some (.int a1)]) ⟨rfl, ⟨rfl, trivial⟩⟩ (J74 M27 h)
      obtain ⟨t28, f29⟩ := br_e h
      refine g_icmp_ne C tb_X12_sayOnce_0_ok (i := 22) 55 rfl rfl (fun c => ?_) (fun c => ?_)
      · have h := f29 c
        exact g_less (L' := [some (.ref a0), some (.int a1)]) ⟨rfl, ⟨rfl, trivial⟩⟩ (J55 M7 h)
      · have h := t28 c
        refine g_aload_n C tb_X12_sayOnce_0_ok (i := 23) rfl rfl ?_
        obtain ⟨n30, h⟩ := gN_e h
        refine g_getR C tb_X12_sayOnce_0_ok (i := 24) rfl fl_X12_40 rfl k5 n30 ?_
        refine g_bipushv C tb_X12_sayOnce_0_ok (i := 25) 12 rfl k_bipushv_12 ?_
        refine g_aload_n C tb_X12_sayOnce_0_ok (i := 26) rfl rfl ?_
        refine g_iconstv C tb_X12_sayOnce_0_ok (i := 27) 0 rfl k_iconstv_0 ?_
        refine g_bipushv C tb_X12_sayOnce_0_ok (i := 28) 99 rfl k_bipushv_99 ?_
        obtain ⟨r31, M32, er31, h⟩ := c0_e h
        refine g_callV0 C tb_X12_sayOnce_0_ok (i := 29) [.int (0 : Int32), .int (99 : Int32)] rfl mw_X12_readNumber mv_X12_readNumber ml_X12_243 k5 rfl rfl rfl rfl (w_X12_readNumber C.G y a0 (0 : Int32) (99 : Int32) M7) er31 rfl rfl rfl ?_
        obtain ⟨b33, h⟩ := gA_e h
        refine g_iast C tb_X12_sayOnce_0_ok (i := 30) rfl b33 ?_
        refine g_mem (fun M34 eM34 => ?_)
        have h := lt_e eM34 h
        exact g_less (L' := [some (.ref a0), some (.int a1)]) ⟨rfl, ⟨rfl, trivial⟩⟩ (J55 M34 h)
    · have h := f4 c
      refine g_aload_n C tb_X12_sayOnce_0_ok (i := 9) rfl rfl ?_
      refine g_iload_n C tb_X12_sayOnce_0_ok (i := 10) rfl rfl ?_
      refine g_bipushv C tb_X12_sayOnce_0_ok (i := 11) 32 rfl k_bipushv_32 ?_
      obtain ⟨j36, ej36, h⟩ := jn_e h
      have J28 : ∀ (v35 : Int32), j36 v35 = some out → GG g x 2 Q 0 0 y M 28 [none, none] [.int v35, .ref a0] := by
        intro v35 h; subst ej36
        obtain ⟨k37, h⟩ := gK_e h
        obtain ⟨r38, M39, er38, h⟩ := c0_e h
        refine g_callV0 C tb_X12_sayOnce_0_ok (i := 16) [.int v35] rfl mw_X12_sayRule mv_X12_sayRule ml_X12_289 k37 rfl rfl rfl rfl (w_X12_sayRule C.G y a0 v35 M) er38 rfl rfl rfl ?_
        cases h
        exact g_vret0 C R tb_X12_sayOnce_0_ok (i := 17) rfl
      obtain ⟨t40, f41⟩ := br_e h
      refine g_icmp_ne C tb_X12_sayOnce_0_ok (i := 12) 27 rfl rfl (fun c => ?_) (fun c => ?_)
      · have h := f41 c
        refine g_iconstv C tb_X12_sayOnce_0_ok (i := 15) 0 rfl k_iconstv_0 ?_
        exact g_less (L' := [none, none]) trivial (J28 (0 : Int32) h)
      · have h := t40 c
        refine g_iconstv C tb_X12_sayOnce_0_ok (i := 13) 1 rfl k_iconstv_1 ?_
        refine g_goto C tb_X12_sayOnce_0_ok (i := 14) 28 rfl rfl ?_
        exact g_less (L' := [none, none]) trivial (J28 (1 : Int32) h)
  · have h := t1 c
    refine g_aload_n C tb_X12_sayOnce_0_ok (i := 3) rfl rfl ?_
    obtain ⟨k42, h⟩ := gK_e h
    obtain ⟨r43, M44, er43, h⟩ := c0_e h
    refine g_callV0 C tb_X12_sayOnce_0_ok (i := 4) [] rfl mw_X12_saySky mv_X12_saySky ml_X12_286 k42 rfl rfl rfl rfl (w_X12_saySky C.G y a0 M) er43 rfl rfl rfl ?_
    cases h
    exact g_vret0 C R tb_X12_sayOnce_0_ok (i := 5) rfl
def f_X12_isOf (y : Lay) (a0 : Int32) (a1 : Int32) (M : Mem) : Option Int32 := jn (fun (v1 : Int32) => gd (v1 = 0 ∨ v1 = 1) (some v1)) fun j2 => br (((a0 >>> (a1 &&& 31)) &&& (1 : Int32)) = (1 : Int32)) (j2 (1 : Int32)) (j2 (0 : Int32))
theorem w_X12_isOf {g : GX} {l : Launch} (hG : GF g l) (y : Lay) (a0 : Int32) (a1 : Int32) (M : Mem) : C0 g l yX12_isOf cX12_isOf 2 (some .boolean) 0 y [.int a0, .int a1] M (pm M (f_X12_isOf y a0 a1 M)) := by
  refine CP_of hG (by decide) [some (.int a0), some (.int a1)] rfl rfl (fun out h x Q C R => ?_)
  unfold f_X12_isOf at h
  refine g_iload_n C tb_X12_isOf_0_ok (i := 0) rfl rfl ?_
  refine g_iload_n C tb_X12_isOf_0_ok (i := 1) rfl rfl ?_
  refine g_ishr C tb_X12_isOf_0_ok (i := 2) rfl ?_
  refine g_iconstv C tb_X12_isOf_0_ok (i := 3) 1 rfl k_iconstv_1 ?_
  refine g_iand C tb_X12_isOf_0_ok (i := 4) rfl ?_
  refine g_iconstv C tb_X12_isOf_0_ok (i := 5) 1 rfl k_iconstv_1 ?_
  obtain ⟨j2, ej2, h⟩ := jn_e h
  have J14 : ∀ (v1 : Int32), j2 v1 = some out → GG g x 2 Q 0 0 y M 14 [none, none] [.int v1] := by
    intro v1 h; subst ej2
    obtain ⟨hz, h⟩ := gd_e h
    cases h
    exact g_zret0 C R hz tb_X12_isOf_0_ok (i := 10) rfl
  obtain ⟨t3, f4⟩ := br_e h
  refine g_icmp_ne C tb_X12_isOf_0_ok (i := 6) 13 rfl rfl (fun c => ?_) (fun c => ?_)
  · have h := f4 c
    refine g_iconstv C tb_X12_isOf_0_ok (i := 9) 0 rfl k_iconstv_0 ?_
    exact g_less (L' := [none, none]) trivial (J14 (0 : Int32) h)
  · have h := t3 c
    refine g_iconstv C tb_X12_isOf_0_ok (i := 7) 1 rfl k_iconstv_1 ?_
    refine g_goto C tb_X12_isOf_0_ok (i := 8) 14 rfl rfl ?_
    exact g_less (L' := [none, none]) trivial (J14 (1 : Int32) h)
def f_X12_cellNow (y : Lay) (a0 : Nat) (a1 : Int32) (M : Mem) : Option (Int32 × Mem) := gK y a0 (0, 12) (c0 (f_X12_numberNow y a0 (0 : Int32) (9999 : Int32) M) fun (r2 : Int32) (M3 : Mem) => jn (fun (M4 : Mem) => jn (fun (M6 : Mem) => lt (wI M6 a0 26 (1 : Int32)) fun (M8 : Mem) => jn (fun (v9 : Int32) => some (v9, M8)) fun j10 => br ((M8.1 a0 22) = 0) (j10 r2) (j10 (0 : Int32))) fun j7 => br ((M4.1 a0 22) = 0) (cp (f_X12_isOf y a1 r2 M4) fun (r15 : Int32) => br (r15 = 0) (j7 M4) (c0 (f_X12_wrong y a0 (4 : Int32) M4) fun (r18 : Int32) (M19 : Mem) => j7 M19)) (j7 M4)) fun j5 => br ((M3.1 a0 22) = 0) (gN (y.2.1 a0 5) (gA y (y.2.1 a0 5) 1 (9 : Int32) (gA y (y.2.1 a0 5) 1 (10 : Int32) (br (r2 < ((M3.1 (y.2.1 a0 5) (9 : Int32).toNatClampNeg) * (M3.1 (y.2.1 a0 5) (10 : Int32).toNatClampNeg))) (j5 M3) (c0 (f_X12_wrong y a0 (3 : Int32) M3) fun (r27 : Int32) (M28 : Mem) => j5 M28))))) (j5 M3))
theorem w_X12_cellNow {g : GX} {l : Launch} (hG : GF g l) (y : Lay) (a0 : Nat) (a1 : Int32) (M : Mem) : C0 g l yX12_cellNow cX12_cellNow 3 (some .int) 2 y [.ref a0, .int a1] M (f_X12_cellNow y a0 a1 M) := by
  refine C0_of hG (by decide) [some (.ref a0), some (.int a1), none] rfl rfl (fun out h x Q C R => ?_)
  unfold f_X12_cellNow at h
  refine g_aload_n C tb_X12_cellNow_0_ok (i := 0) rfl rfl ?_
  refine g_iconstv C tb_X12_cellNow_0_ok (i := 1) 0 rfl k_iconstv_0 ?_
  refine g_sipushv C tb_X12_cellNow_0_ok (i := 2) 9999 rfl k_sipushv_9999 ?_
  obtain ⟨k1, h⟩ := gK_e h
  obtain ⟨r2, M3, er2, h⟩ := c0_e h
  refine g_callV0 C tb_X12_cellNow_0_ok (i := 3) [.int (0 : Int32), .int (9999 : Int32)] rfl mw_X12_numberNow mv_X12_numberNow ml_X12_229 k1 rfl rfl rfl rfl (w_X12_numberNow C.G y a0 (0 : Int32) (9999 : Int32) M) er2 rfl rfl rfl ?_
  refine g_istore_n C tb_X12_cellNow_0_ok (i := 4) rfl rfl rfl ?_
  refine g_aload_n C tb_X12_cellNow_0_ok (i := 5) rfl rfl ?_
  refine g_getI C tb_X12_cellNow_0_ok (i := 6) rfl fl_X12_203 rfl k1 ?_
  obtain ⟨j5, ej5, h⟩ := jn_e h
  have J40 : ∀ (M4 : Mem), j5 M4 = some out → GG g x 3 Q 0 0 y M4 40 [some (.ref a0), some (.int a1), some (.int r2)] [] := by
    intro M4 h; subst ej5
    refine g_aload_n C tb_X12_cellNow_0_ok (i := 22) rfl rfl ?_
    refine g_getI C tb_X12_cellNow_0_ok (i := 23) rfl fl_X12_203 rfl k1 ?_
    obtain ⟨j7, ej7, h⟩ := jn_e h
    have J60 : ∀ (M6 : Mem), j7 M6 = some out → GG g x 3 Q 0 0 y M6 60 [some (.ref a0), none, some (.int r2)] [] := by
      intro M6 h; subst ej7
      refine g_aload_n C tb_X12_cellNow_0_ok (i := 32) rfl rfl ?_
      refine g_iconstv C tb_X12_cellNow_0_ok (i := 33) 1 rfl k_iconstv_1 ?_
      refine g_putZ C tb_X12_cellNow_0_ok (i := 34) rfl fl_X12_236 ft_12_26 rfl (by decide) k1 ?_
      refine g_mem (fun M8 eM8 => ?_)
      have h := lt_e eM8 h
      refine g_aload_n C tb_X12_cellNow_0_ok (i := 35) rfl rfl ?_
      refine g_getI C tb_X12_cellNow_0_ok (i := 36) rfl fl_X12_203 rfl k1 ?_
      obtain ⟨j10, ej10, h⟩ := jn_e h
      have J77 : ∀ (v9 : Int32), j10 v9 = some out → GG g x 3 Q 0 0 y M8 77 [none, none, none] [.int v9] := by
        intro v9 h; subst ej10
        cases h
        exact g_iret0 C R tb_X12_cellNow_1_ok (i := 1) rfl
      obtain ⟨t11, f12⟩ := br_e h
      refine g_if_ne C tb_X12_cellNow_0_ok (i := 37) 76 rfl rfl (fun c => ?_) (fun c => ?_)
      · have h := f12 c
        refine g_iconstv C tb_X12_cellNow_1_ok (i := 0) 0 rfl k_iconstv_0 ?_
        exact g_less (L' := [none, none, none]) trivial (J77 (0 : Int32) h)
      · have h := t11 c
        refine g_iload_n C tb_X12_cellNow_0_ok (i := 38) rfl rfl ?_
        refine g_goto C tb_X12_cellNow_0_ok (i := 39) 77 rfl rfl ?_
        exact g_less (L' := [none, none, none]) trivial (J77 r2 h)
    obtain ⟨t13, f14⟩ := br_e h
    refine g_if_ne C tb_X12_cellNow_0_ok (i := 24) 60 rfl rfl (fun c => ?_) (fun c => ?_)
    · have h := f14 c
      exact g_less (L' := [some (.ref a0), none, some (.int r2)]) ⟨rfl, ⟨rfl, trivial⟩⟩ (J60 M4 h)
    · have h := t13 c
      refine g_iload_n C tb_X12_cellNow_0_ok (i := 25) rfl rfl ?_
      refine g_iload_n C tb_X12_cellNow_0_ok (i := 26) rfl rfl ?_
      obtain ⟨r15, er15, h⟩ := cp_e h
      refine g_callS0 C tb_X12_cellNow_0_ok (i := 27) [.int a1, .int r2] rfl mw_X12_isOf mst_X12_isOf ml_X12_232 rfl rfl rfl rfl (w_X12_isOf C.G y a1 r2 M4) (pm_s er15) rfl rfl rfl ?_
      obtain ⟨t16, f17⟩ := br_e h
      refine g_if_eq C tb_X12_cellNow_0_ok (i := 28) 60 rfl rfl (fun c => ?_) (fun c => ?_)
      · have h := t16 c
        exact g_less (L' := [some (.ref a0), none, some (.int r2)]) ⟨rfl, ⟨rfl, trivial⟩⟩ (J60 M4 h)
      · have h := f17 c
        refine g_aload_n C tb_X12_cellNow_0_ok (i := 29) rfl rfl ?_
        refine g_iconstv C tb_X12_cellNow_0_ok (i := 30) 4 rfl k_iconstv_4 ?_
        obtain ⟨r18, M19, er18, h⟩ := c0_e h
        refine g_callV0 C tb_X12_cellNow_0_ok (i := 31) [.int (4 : Int32)] rfl mw_X12_wrong mv_X12_wrong ml_X12_223 k1 rfl rfl rfl rfl (w_X12_wrong C.G y a0 (4 : Int32) M4) er18 rfl rfl rfl ?_
        exact g_less (L' := [some (.ref a0), none, some (.int r2)]) ⟨rfl, ⟨rfl, trivial⟩⟩ (J60 M19 h)
  obtain ⟨t20, f21⟩ := br_e h
  refine g_if_ne C tb_X12_cellNow_0_ok (i := 7) 40 rfl rfl (fun c => ?_) (fun c => ?_)
  · have h := f21 c
    exact g_less (L' := [some (.ref a0), some (.int a1), some (.int r2)]) ⟨rfl, ⟨rfl, ⟨rfl, trivial⟩⟩⟩ (J40 M3 h)
  · have h := t20 c
    refine g_iload_n C tb_X12_cellNow_0_ok (i := 8) rfl rfl ?_
    refine g_aload_n C tb_X12_cellNow_0_ok (i := 9) rfl rfl ?_
    obtain ⟨n22, h⟩ := gN_e h
    refine g_getR C tb_X12_cellNow_0_ok (i := 10) rfl fl_X12_40 rfl k1 n22 ?_
    refine g_bipushv C tb_X12_cellNow_0_ok (i := 11) 9 rfl k_bipushv_9 ?_
    obtain ⟨b23, h⟩ := gA_e h
    refine g_iald C tb_X12_cellNow_0_ok (i := 12) rfl b23 ?_
    refine g_aload_n C tb_X12_cellNow_0_ok (i := 13) rfl rfl ?_
    refine g_getR C tb_X12_cellNow_0_ok (i := 14) rfl fl_X12_40 rfl k1 n22 ?_
    refine g_bipushv C tb_X12_cellNow_0_ok (i := 15) 10 rfl k_bipushv_10 ?_
    obtain ⟨b24, h⟩ := gA_e h
    refine g_iald C tb_X12_cellNow_0_ok (i := 16) rfl b24 ?_
    refine g_imul C tb_X12_cellNow_0_ok (i := 17) rfl ?_
    obtain ⟨t25, f26⟩ := br_e h
    refine g_icmp_lt C tb_X12_cellNow_0_ok (i := 18) 40 rfl rfl (fun c => ?_) (fun c => ?_)
    · have h := t25 c
      exact g_less (L' := [some (.ref a0), some (.int a1), some (.int r2)]) ⟨rfl, ⟨rfl, ⟨rfl, trivial⟩⟩⟩ (J40 M3 h)
    · have h := f26 c
      refine g_aload_n C tb_X12_cellNow_0_ok (i := 19) rfl rfl ?_
      refine g_iconstv C tb_X12_cellNow_0_ok (i := 20) 3 rfl k_iconstv_3 ?_
      obtain ⟨r27, M28, er27, h⟩ := c0_e h
      refine g_callV0 C tb_X12_cellNow_0_ok (i := 21) [.int (3 : Int32)] rfl mw_X12_wrong mv_X12_wrong ml_X12_223 k1 rfl rfl rfl rfl (w_X12_wrong C.G y a0 (3 : Int32) M3) er27 rfl rfl rfl ?_
      exact g_less (L' := [some (.ref a0), some (.int a1), some (.int r2)]) ⟨rfl, ⟨rfl, ⟨rfl, trivial⟩⟩⟩ (J40 M28 h)
def f_X12_sayWoman (y : Lay) (a0 : Nat) (a1 : Int32) (M : Mem) : Option (Int32 × Mem) := gK y a0 (0, 12) (gN (y.2.1 a0 5) (gA y (y.2.1 a0 5) 1 (11 : Int32) (jn (fun (M4 : Mem) => br ((M4.1 a0 22) = 0) (c0 (f_X12_stepOn y a0 M4) fun (r8 : Int32) (M9 : Mem) => gA y (y.2.1 a0 5) 1 (11 : Int32) (lt ((6 : Int32) + (M9.1 (y.2.1 a0 5) (11 : Int32).toNatClampNeg)) fun (v11 : Int32) => gN (y.2.1 a0 7) (gA y (y.2.1 a0 7) 1 v11 (lt (wI M9 (y.2.1 a0 7) v11.toNatClampNeg a1) fun (M14 : Mem) => gN (y.2.1 a0 8) (c0 (f_X12_readNumber y a0 (0 : Int32) (9 : Int32) M14) fun (r16 : Int32) (M17 : Mem) => gA y (y.2.1 a0 8) 1 v11 (lt (wI M17 (y.2.1 a0 8) v11.toNatClampNeg r16) fun (M19 : Mem) => gN (y.2.1 a0 9) (c0 (f_X12_cellNow y a0 (0 : Int32) M19) fun (r21 : Int32) (M22 : Mem) => gA y (y.2.1 a0 9) 1 v11 (lt (wI M22 (y.2.1 a0 9) v11.toNatClampNeg r21) fun (M24 : Mem) => br ((M24.1 a0 22) = 0) (c0 (f_X12_stepOn y a0 M24) fun (r27 : Int32) (M28 : Mem) => gA y (y.2.1 a0 5) 1 (11 : Int32) (gA y (y.2.1 a0 5) 1 (11 : Int32) (lt (wI M28 (y.2.1 a0 5) (11 : Int32).toNatClampNeg ((M28.1 (y.2.1 a0 5) (11 : Int32).toNatClampNeg) + (1 : Int32))) fun (M31 : Mem) => some (0, M31)))) (some (0, M24)))))))))) (some (0, M4))) fun j5 => br ((M.1 (y.2.1 a0 5) (11 : Int32).toNatClampNeg) = (6 : Int32)) (c0 (f_X12_wrong y a0 (2 : Int32) M) fun (r34 : Int32) (M35 : Mem) => j5 M35) (j5 M))))
theorem w_X12_sayWoman {g : GX} {l : Launch} (hG : GF g l) (y : Lay) (a0 : Nat) (a1 : Int32) (M : Mem) : C0 g l yX12_sayWoman cX12_sayWoman 3 none 3 y [.ref a0, .int a1] M (f_X12_sayWoman y a0 a1 M) := by
  refine C0_of hG (by decide) [some (.ref a0), some (.int a1), none] rfl rfl (fun out h x Q C R => ?_)
  unfold f_X12_sayWoman at h
  refine g_aload_n C tb_X12_sayWoman_0_ok (i := 0) rfl rfl ?_
  obtain ⟨k1, h⟩ := gK_e h
  obtain ⟨n2, h⟩ := gN_e h
  refine g_getR C tb_X12_sayWoman_0_ok (i := 1) rfl fl_X12_40 rfl k1 n2 ?_
  refine g_bipushv C tb_X12_sayWoman_0_ok (i := 2) 11 rfl k_bipushv_11 ?_
  obtain ⟨b3, h⟩ := gA_e h
  refine g_iald C tb_X12_sayWoman_0_ok (i := 3) rfl b3 ?_
  refine g_bipushv C tb_X12_sayWoman_0_ok (i := 4) 6 rfl k_bipushv_6 ?_
  obtain ⟨j5, ej5, h⟩ := jn_e h
  have J17 : ∀ (M4 : Mem), j5 M4 = some out → GG g x 3 Q 0 0 y M4 17 [some (.ref a0), some (.int a1), none] [] := by
    intro M4 h; subst ej5
    refine g_aload_n C tb_X12_sayWoman_0_ok (i := 9) rfl rfl ?_
    refine g_getI C tb_X12_sayWoman_0_ok (i := 10) rfl fl_X12_203 rfl k1 ?_
    obtain ⟨t6, f7⟩ := br_e h
    refine g_if_eq C tb_X12_sayWoman_0_ok (i := 11) 25 rfl rfl (fun c => ?_) (fun c => ?_)
    · have h := t6 c
      refine g_aload_n C tb_X12_sayWoman_0_ok (i := 13) rfl rfl ?_
      obtain ⟨r8, M9, er8, h⟩ := c0_e h
      refine g_callV0 C tb_X12_sayWoman_0_ok (i := 14) [] rfl mw_X12_stepOn mv_X12_stepOn ml_X12_226 k1 rfl rfl rfl rfl (w_X12_stepOn C.G y a0 M4) er8 rfl rfl rfl ?_
      refine g_bipushv C tb_X12_sayWoman_0_ok (i := 15) 6 rfl k_bipushv_6 ?_
      refine g_aload_n C tb_X12_sayWoman_0_ok (i := 16) rfl rfl ?_
      refine g_getR C tb_X12_sayWoman_0_ok (i := 17) rfl fl_X12_40 rfl k1 n2 ?_
      refine g_bipushv C tb_X12_sayWoman_0_ok (i := 18) 11 rfl k_bipushv_11 ?_
      obtain ⟨b10, h⟩ := gA_e h
      refine g_iald C tb_X12_sayWoman_0_ok (i := 19) rfl b10 ?_
      refine g_iadd C tb_X12_sayWoman_0_ok (i := 20) rfl ?_
      refine g_topi (fun v11 ev11 => ?_)
      have h := lt_e ev11 h
      refine g_istore_n C tb_X12_sayWoman_0_ok (i := 21) rfl rfl rfl ?_
      refine g_aload_n C tb_X12_sayWoman_0_ok (i := 22) rfl rfl ?_
      obtain ⟨n12, h⟩ := gN_e h
      refine g_getR C tb_X12_sayWoman_0_ok (i := 23) rfl fl_X12_47 rfl k1 n12 ?_
      refine g_iload_n C tb_X12_sayWoman_0_ok (i := 24) rfl rfl ?_
      refine g_iload_n C tb_X12_sayWoman_0_ok (i := 25) rfl rfl ?_
      obtain ⟨b13, h⟩ := gA_e h
      refine g_iast C tb_X12_sayWoman_0_ok (i := 26) rfl b13 ?_
      refine g_mem (fun M14 eM14 => ?_)
      have h := lt_e eM14 h
      refine g_aload_n C tb_X12_sayWoman_0_ok (i := 27) rfl rfl ?_
      obtain ⟨n15, h⟩ := gN_e h
      refine g_getR C tb_X12_sayWoman_0_ok (i := 28) rfl fl_X12_50 rfl k1 n15 ?_
      refine g_iload_n C tb_X12_sayWoman_0_ok (i := 29) rfl rfl ?_
      refine g_aload_n C tb_X12_sayWoman_0_ok (i := 30) rfl rfl ?_
      refine g_iconstv C tb_X12_sayWoman_0_ok (i := 31) 0 rfl k_iconstv_0 ?_
      refine g_bipushv C tb_X12_sayWoman_0_ok (i := 32) 9 rfl k_bipushv_9 ?_
      obtain ⟨r16, M17, er16, h⟩ := c0_e h
      refine g_callV0 C tb_X12_sayWoman_0_ok (i := 33) [.int (0 : Int32), .int (9 : Int32)] rfl mw_X12_readNumber mv_X12_readNumber ml_X12_243 k1 rfl rfl rfl rfl (w_X12_readNumber C.G y a0 (0 : Int32) (9 : Int32) M14) er16 rfl rfl rfl ?_
      obtain ⟨b18, h⟩ := gA_e h
      refine g_iast C tb_X12_sayWoman_0_ok (i := 34) rfl b18 ?_
      refine g_mem (fun M19 eM19 => ?_)
      have h := lt_e eM19 h
      refine g_aload_n C tb_X12_sayWoman_0_ok (i := 35) rfl rfl ?_
      obtain ⟨n20, h⟩ := gN_e h
      refine g_getR C tb_X12_sayWoman_0_ok (i := 36) rfl fl_X12_53 rfl k1 n20 ?_
      refine g_iload_n C tb_X12_sayWoman_0_ok (i := 37) rfl rfl ?_
      refine g_aload_n C tb_X12_sayWoman_0_ok (i := 38) rfl rfl ?_
      refine g_iconstv C tb_X12_sayWoman_0_ok (i := 39) 0 rfl k_iconstv_0 ?_
      obtain ⟨r21, M22, er21, h⟩ := c0_e h
      refine g_callV0 C tb_X12_sayWoman_1_ok (i := 0) [.int (0 : Int32)] rfl mw_X12_cellNow mv_X12_cellNow ml_X12_283 k1 rfl rfl rfl rfl (w_X12_cellNow C.G y a0 (0 : Int32) M19) er21 rfl rfl rfl ?_
      obtain ⟨b23, h⟩ := gA_e h
      refine g_iast C tb_X12_sayWoman_1_ok (i := 1) rfl b23 ?_
      refine g_mem (fun M24 eM24 => ?_)
      have h := lt_e eM24 h
      refine g_aload_n C tb_X12_sayWoman_1_ok (i := 2) rfl rfl ?_
      refine g_getI C tb_X12_sayWoman_1_ok (i := 3) rfl fl_X12_203 rfl k1 ?_
      obtain ⟨t25, f26⟩ := br_e h
      refine g_if_eq C tb_X12_sayWoman_1_ok (i := 4) 79 rfl rfl (fun c => ?_) (fun c => ?_)
      · have h := t25 c
        refine g_aload_n C tb_X12_sayWoman_1_ok (i := 6) rfl rfl ?_
        obtain ⟨r27, M28, er27, h⟩ := c0_e h
        refine g_callV0 C tb_X12_sayWoman_1_ok (i := 7) [] rfl mw_X12_stepOn mv_X12_stepOn ml_X12_226 k1 rfl rfl rfl rfl (w_X12_stepOn C.G y a0 M24) er27 rfl rfl rfl ?_
        refine g_aload_n C tb_X12_sayWoman_1_ok (i := 8) rfl rfl ?_
        refine g_getR C tb_X12_sayWoman_1_ok (i := 9) rfl fl_X12_40 rfl k1 n2 ?_
        refine g_bipushv C tb_X12_sayWoman_1_ok (i := 10) 11 rfl k_bipushv_11 ?_
        refine g_dup2 C tb_X12_sayWoman_1_ok (i := 11) rfl rfl rfl ?_
        obtain ⟨b29, h⟩ := gA_e h
        refine g_iald C tb_X12_sayWoman_1_ok (i := 12) rfl b29 ?_
        refine g_iconstv C tb_X12_sayWoman_1_ok (i := 13) 1 rfl k_iconstv_1 ?_
        refine g_iadd C tb_X12_sayWoman_1_ok (i := 14) rfl ?_
        obtain ⟨b30, h⟩ := gA_e h
        refine g_iast C tb_X12_sayWoman_1_ok (i := 15) rfl b30 ?_
        refine g_mem (fun M31 eM31 => ?_)
        have h := lt_e eM31 h
        cases h
        exact g_vret0 C R tb_X12_sayWoman_1_ok (i := 16) rfl
      · have h := f26 c
        cases h
        exact g_vret0 C R tb_X12_sayWoman_1_ok (i := 5) rfl
    · have h := f7 c
      cases h
      exact g_vret0 C R tb_X12_sayWoman_0_ok (i := 12) rfl
  obtain ⟨t32, f33⟩ := br_e h
  refine g_icmp_ne C tb_X12_sayWoman_0_ok (i := 5) 17 rfl rfl (fun c => ?_) (fun c => ?_)
  · have h := f33 c
    exact g_less (L' := [some (.ref a0), some (.int a1), none]) ⟨rfl, ⟨rfl, trivial⟩⟩ (J17 M h)
  · have h := t32 c
    refine g_aload_n C tb_X12_sayWoman_0_ok (i := 6) rfl rfl ?_
    refine g_iconstv C tb_X12_sayWoman_0_ok (i := 7) 2 rfl k_iconstv_2 ?_
    obtain ⟨r34, M35, er34, h⟩ := c0_e h
    refine g_callV0 C tb_X12_sayWoman_0_ok (i := 8) [.int (2 : Int32)] rfl mw_X12_wrong mv_X12_wrong ml_X12_223 k1 rfl rfl rfl rfl (w_X12_wrong C.G y a0 (2 : Int32) M) er34 rfl rfl rfl ?_
    exact g_less (L' := [some (.ref a0), some (.int a1), none]) ⟨rfl, ⟨rfl, trivial⟩⟩ (J17 M35 h)
def f_X12_sayBlue (y : Lay) (a0 : Nat) (M : Mem) : Option (Int32 × Mem) := gK y a0 (0, 12) (c0 (f_X12_stepOn y a0 M) fun (r2 : Int32) (M3 : Mem) => c0 (f_X12_cellNow y a0 (M3.1 a0 25) M3) fun (r4 : Int32) (M5 : Mem) => br ((M5.1 a0 22) = 0) (c0 (f_X12_stepOn y a0 M5) fun (r8 : Int32) (M9 : Mem) => lt (wI M9 a0 25 ((M9.1 a0 25) ||| ((1 : Int32) <<< (r4 &&& 31)))) fun (M10 : Mem) => gN (y.2.1 a0 6) (c0 (f_X12_readNumber y a0 (0 : Int32) (99 : Int32) M10) fun (r12 : Int32) (M13 : Mem) => gA y (y.2.1 a0 6) 1 ((30 : Int32) + r4) (lt (wI M13 (y.2.1 a0 6) ((30 : Int32) + r4).toNatClampNeg r12) fun (M15 : Mem) => some (0, M15)))) (some (0, M5)))
theorem w_X12_sayBlue {g : GX} {l : Launch} (hG : GF g l) (y : Lay) (a0 : Nat) (M : Mem) : C0 g l yX12_sayBlue cX12_sayBlue 2 none 3 y [.ref a0] M (f_X12_sayBlue y a0 M) := by
  refine C0_of hG (by decide) [some (.ref a0), none] rfl rfl (fun out h x Q C R => ?_)
  unfold f_X12_sayBlue at h
  refine g_aload_n C tb_X12_sayBlue_0_ok (i := 0) rfl rfl ?_
  obtain ⟨k1, h⟩ := gK_e h
  obtain ⟨r2, M3, er2, h⟩ := c0_e h
  refine g_callV0 C tb_X12_sayBlue_0_ok (i := 1) [] rfl mw_X12_stepOn mv_X12_stepOn ml_X12_226 k1 rfl rfl rfl rfl (w_X12_stepOn C.G y a0 M) er2 rfl rfl rfl ?_
  refine g_aload_n C tb_X12_sayBlue_0_ok (i := 2) rfl rfl ?_
  refine g_aload_n C tb_X12_sayBlue_0_ok (i := 3) rfl rfl ?_
  refine g_getI C tb_X12_sayBlue_0_ok (i := 4) rfl fl_X12_280 rfl k1 ?_
  obtain ⟨r4, M5, er4, h⟩ := c0_e h
  refine g_callV0 C tb_X12_sayBlue_0_ok (i := 5) [.int (M3.1 a0 25)] rfl mw_X12_cellNow mv_X12_cellNow ml_X12_283 k1 rfl rfl rfl rfl (w_X12_cellNow C.G y a0 (M3.1 a0 25) M3) er4 rfl rfl rfl ?_
  refine g_istore_n C tb_X12_sayBlue_0_ok (i := 6) rfl rfl rfl ?_
  refine g_aload_n C tb_X12_sayBlue_0_ok (i := 7) rfl rfl ?_
  refine g_getI C tb_X12_sayBlue_0_ok (i := 8) rfl fl_X12_203 rfl k1 ?_
  obtain ⟨t6, f7⟩ := br_e h
  refine g_if_eq C tb_X12_sayBlue_0_ok (i := 9) 21 rfl rfl (fun c => ?_) (fun c => ?_)
  · have h := t6 c
    refine g_aload_n C tb_X12_sayBlue_0_ok (i := 11) rfl rfl ?_
    obtain ⟨r8, M9, er8, h⟩ := c0_e h
    refine g_callV0 C tb_X12_sayBlue_0_ok (i := 12) [] rfl mw_X12_stepOn mv_X12_stepOn ml_X12_226 k1 rfl rfl rfl rfl (w_X12_stepOn C.G y a0 M5) er8 rfl rfl rfl ?_
    refine g_aload_n C tb_X12_sayBlue_0_ok (i := 13) rfl rfl ?_
    refine g_dup C tb_X12_sayBlue_0_ok (i := 14) rfl rfl ?_
    refine g_getI C tb_X12_sayBlue_0_ok (i := 15) rfl fl_X12_280 rfl k1 ?_
    refine g_iconstv C tb_X12_sayBlue_0_ok (i := 16) 1 rfl k_iconstv_1 ?_
    refine g_iload_n C tb_X12_sayBlue_0_ok (i := 17) rfl rfl ?_
    refine g_ishl C tb_X12_sayBlue_0_ok (i := 18) rfl ?_
    refine g_ior C tb_X12_sayBlue_0_ok (i := 19) rfl ?_
    refine g_putI C tb_X12_sayBlue_0_ok (i := 20) rfl fl_X12_280 ft_12_25 rfl k1 ?_
    refine g_mem (fun M10 eM10 => ?_)
    have h := lt_e eM10 h
    refine g_aload_n C tb_X12_sayBlue_0_ok (i := 21) rfl rfl ?_
    obtain ⟨n11, h⟩ := gN_e h
    refine g_getR C tb_X12_sayBlue_0_ok (i := 22) rfl fl_X12_44 rfl k1 n11 ?_
    refine g_bipushv C tb_X12_sayBlue_0_ok (i := 23) 30 rfl k_bipushv_30 ?_
    refine g_iload_n C tb_X12_sayBlue_0_ok (i := 24) rfl rfl ?_
    refine g_iadd C tb_X12_sayBlue_0_ok (i := 25) rfl ?_
    refine g_aload_n C tb_X12_sayBlue_0_ok (i := 26) rfl rfl ?_
    refine g_iconstv C tb_X12_sayBlue_0_ok (i := 27) 0 rfl k_iconstv_0 ?_
    refine g_bipushv C tb_X12_sayBlue_0_ok (i := 28) 99 rfl k_bipushv_99 ?_
    obtain ⟨r12, M13, er12, h⟩ := c0_e h
    refine g_callV0 C tb_X12_sayBlue_0_ok (i := 29) [.int (0 : Int32), .int (99 : Int32)] rfl mw_X12_readNumber mv_X12_readNumber ml_X12_243 k1 rfl rfl rfl rfl (w_X12_readNumber C.G y a0 (0 : Int32) (99 : Int32) M10) er12 rfl rfl rfl ?_
    obtain ⟨b14, h⟩ := gA_e h
    refine g_iast C tb_X12_sayBlue_0_ok (i := 30) rfl b14 ?_
    refine g_mem (fun M15 eM15 => ?_)
    have h := lt_e eM15 h
    cases h
    exact g_vret0 C R tb_X12_sayBlue_0_ok (i := 31) rfl
  · have h := f7 c
    cases h
    exact g_vret0 C R tb_X12_sayBlue_0_ok (i := 10) rfl
def f_X12_sayPegs (y : Lay) (a0 : Nat) (M : Mem) : Option (Int32 × Mem) := gK y a0 (0, 12) (c0 (f_X12_stepOn y a0 M) fun (r2 : Int32) (M3 : Mem) => jn (fun (M4 : Mem) => fixN (fun _ => none) (fun (s7 : Mem → Option (Int32 × Mem)) (M6 : Mem) => jn (fun (_u : Unit) => some (0, M6)) fun j9 => br ((M6.1 a0 22) = 0) (br ((M6.1 a0 18) = (2 : Int32)) (gN (y.2.1 a0 5) (gA y (y.2.1 a0 5) 1 (17 : Int32) (c0 (f_X12_cellNow y a0 (M6.1 (y.2.1 a0 5) (17 : Int32).toNatClampNeg) M6) fun (r16 : Int32) (M17 : Mem) => br ((M17.1 a0 22) = 0) (c0 (f_X12_stepOn y a0 M17) fun (r20 : Int32) (M21 : Mem) => gA y (y.2.1 a0 5) 1 (17 : Int32) (gA y (y.2.1 a0 5) 1 (17 : Int32) (lt (wI M21 (y.2.1 a0 5) (17 : Int32).toNatClampNeg ((M21.1 (y.2.1 a0 5) (17 : Int32).toNatClampNeg) ||| ((1 : Int32) <<< (r16 &&& 31)))) fun (M24 : Mem) => s7 M24))) (some (0, M17))))) (j9 ())) (j9 ())) FUEL M4) fun j5 => br ((M3.1 a0 18) = (2 : Int32)) (j5 M3) (c0 (f_X12_wrong y a0 (1 : Int32) M3) fun (r27 : Int32) (M28 : Mem) => j5 M28))
theorem w_X12_sayPegs {g : GX} {l : Launch} (hG : GF g l) (y : Lay) (a0 : Nat) (M : Mem) : C0 g l yX12_sayPegs cX12_sayPegs 2 none 3 y [.ref a0] M (f_X12_sayPegs y a0 M) := by
  refine C0_of hG (by decide) [some (.ref a0), none] rfl rfl (fun out h x Q C R => ?_)
  unfold f_X12_sayPegs at h
  refine g_aload_n C tb_X12_sayPegs_0_ok (i := 0) rfl rfl ?_
  obtain ⟨k1, h⟩ := gK_e h
  obtain ⟨r2, M3, er2, h⟩ := c0_e h
  refine g_callV0 C tb_X12_sayPegs_0_ok (i := 1) [] rfl mw_X12_stepOn mv_X12_stepOn ml_X12_226 k1 rfl rfl rfl rfl (w_X12_stepOn C.G y a0 M) er2 rfl rfl rfl ?_
  refine g_aload_n C tb_X12_sayPegs_0_ok (i := 2) rfl rfl ?_
  refine g_getI C tb_X12_sayPegs_0_ok (i := 3) rfl fl_X12_177 rfl k1 ?_
  refine g_iconstv C tb_X12_sayPegs_0_ok (i := 4) 2 rfl k_iconstv_2 ?_
  obtain ⟨j5, ej5, h⟩ := jn_e h
  have J17 : ∀ (M4 : Mem), j5 M4 = some out → GG g x 2 Q 0 0 y M4 17 [some (.ref a0), none] [] := by
    intro M4 h; subst ej5
    refine g_less (L' := [some (.ref a0), none]) ⟨rfl, trivial⟩ ?_
    refine fix_i (P := fun (f : Mem → Option (Int32 × Mem)) => ∀ (M6 : Mem), f M6 = some out → GG g x 2 Q 0 0 y M6 17 [some (.ref a0), none] []) ?_ ?_ _ M4 h
    · intro M6 h; exact (nn_e h).elim
    · intro s7 ih8 M6 h
      refine g_aload_n C tb_X12_sayPegs_0_ok (i := 9) rfl rfl ?_
      refine g_getI C tb_X12_sayPegs_0_ok (i := 10) rfl fl_X12_203 rfl k1 ?_
      obtain ⟨j9, ej9, h⟩ := jn_e h
      have J72 : ∀ (_u : Unit), j9 _u = some out → GG g x 2 Q 0 0 y M6 72 [none, none] [] := by
        intro _u h; subst ej9
        cases h
        exact g_vret0 C R tb_X12_sayPegs_1_ok (i := 0) rfl
      obtain ⟨t10, f11⟩ := br_e h
      refine g_if_ne C tb_X12_sayPegs_0_ok (i := 11) 72 rfl rfl (fun c => ?_) (fun c => ?_)
      · have h := f11 c
        exact g_less (L' := [none, none]) trivial (J72 () h)
      · have h := t10 c
        refine g_aload_n C tb_X12_sayPegs_0_ok (i := 12) rfl rfl ?_
        refine g_getI C tb_X12_sayPegs_0_ok (i := 13) rfl fl_X12_177 rfl k1 ?_
        refine g_iconstv C tb_X12_sayPegs_0_ok (i := 14) 2 rfl k_iconstv_2 ?_
        obtain ⟨t12, f13⟩ := br_e h
        refine g_icmp_ne C tb_X12_sayPegs_0_ok (i := 15) 72 rfl rfl (fun c => ?_) (fun c => ?_)
        · have h := f13 c
          exact g_less (L' := [none, none]) trivial (J72 () h)
        · have h := t12 c
          refine g_aload_n C tb_X12_sayPegs_0_ok (i := 16) rfl rfl ?_
          refine g_aload_n C tb_X12_sayPegs_0_ok (i := 17) rfl rfl ?_
          obtain ⟨n14, h⟩ := gN_e h
          refine g_getR C tb_X12_sayPegs_0_ok (i := 18) rfl fl_X12_40 rfl k1 n14 ?_
          refine g_bipushv C tb_X12_sayPegs_0_ok (i := 19) 17 rfl k_bipushv_17 ?_
          obtain ⟨b15, h⟩ := gA_e h
          refine g_iald C tb_X12_sayPegs_0_ok (i := 20) rfl b15 ?_
          obtain ⟨r16, M17, er16, h⟩ := c0_e h
          refine g_callV0 C tb_X12_sayPegs_0_ok (i := 21) [.int (M6.1 (y.2.1 a0 5) (17 : Int32).toNatClampNeg)] rfl mw_X12_cellNow mv_X12_cellNow ml_X12_283 k1 rfl rfl rfl rfl (w_X12_cellNow C.G y a0 (M6.1 (y.2.1 a0 5) (17 : Int32).toNatClampNeg) M6) er16 rfl rfl rfl ?_
          refine g_istore_n C tb_X12_sayPegs_0_ok (i := 22) rfl rfl rfl ?_
          refine g_aload_n C tb_X12_sayPegs_0_ok (i := 23) rfl rfl ?_
          refine g_getI C tb_X12_sayPegs_0_ok (i := 24) rfl fl_X12_203 rfl k1 ?_
          obtain ⟨t18, f19⟩ := br_e h
          refine g_if_eq C tb_X12_sayPegs_0_ok (i := 25) 52 rfl rfl (fun c => ?_) (fun c => ?_)
          · have h := t18 c
            refine g_aload_n C tb_X12_sayPegs_0_ok (i := 27) rfl rfl ?_
            obtain ⟨r20, M21, er20, h⟩ := c0_e h
            refine g_callV0 C tb_X12_sayPegs_0_ok (i := 28) [] rfl mw_X12_stepOn mv_X12_stepOn ml_X12_226 k1 rfl rfl rfl rfl (w_X12_stepOn C.G y a0 M17) er20 rfl rfl rfl ?_
            refine g_aload_n C tb_X12_sayPegs_0_ok (i := 29) rfl rfl ?_
            refine g_getR C tb_X12_sayPegs_0_ok (i := 30) rfl fl_X12_40 rfl k1 n14 ?_
            refine g_bipushv C tb_X12_sayPegs_0_ok (i := 31) 17 rfl k_bipushv_17 ?_
            refine g_dup2 C tb_X12_sayPegs_0_ok (i := 32) rfl rfl rfl ?_
            obtain ⟨b22, h⟩ := gA_e h
            refine g_iald C tb_X12_sayPegs_0_ok (i := 33) rfl b22 ?_
            refine g_iconstv C tb_X12_sayPegs_0_ok (i := 34) 1 rfl k_iconstv_1 ?_
            refine g_iload_n C tb_X12_sayPegs_0_ok (i := 35) rfl rfl ?_
            refine g_ishl C tb_X12_sayPegs_0_ok (i := 36) rfl ?_
            refine g_ior C tb_X12_sayPegs_0_ok (i := 37) rfl ?_
            obtain ⟨b23, h⟩ := gA_e h
            refine g_iast C tb_X12_sayPegs_0_ok (i := 38) rfl b23 ?_
            refine g_mem (fun M24 eM24 => ?_)
            have h := lt_e eM24 h
            refine g_goto C tb_X12_sayPegs_0_ok (i := 39) 17 rfl rfl ?_
            exact g_less (L' := [some (.ref a0), none]) ⟨rfl, trivial⟩ (ih8 M24 h)
          · have h := f19 c
            cases h
            exact g_vret0 C R tb_X12_sayPegs_0_ok (i := 26) rfl
  obtain ⟨t25, f26⟩ := br_e h
  refine g_icmp_eq C tb_X12_sayPegs_0_ok (i := 5) 17 rfl rfl (fun c => ?_) (fun c => ?_)
  · have h := t25 c
    exact g_less (L' := [some (.ref a0), none]) ⟨rfl, trivial⟩ (J17 M3 h)
  · have h := f26 c
    refine g_aload_n C tb_X12_sayPegs_0_ok (i := 6) rfl rfl ?_
    refine g_iconstv C tb_X12_sayPegs_0_ok (i := 7) 1 rfl k_iconstv_1 ?_
    obtain ⟨r27, M28, er27, h⟩ := c0_e h
    refine g_callV0 C tb_X12_sayPegs_0_ok (i := 8) [.int (1 : Int32)] rfl mw_X12_wrong mv_X12_wrong ml_X12_223 k1 rfl rfl rfl rfl (w_X12_wrong C.G y a0 (1 : Int32) M3) er27 rfl rfl rfl ?_
    exact g_less (L' := [some (.ref a0), none]) ⟨rfl, trivial⟩ (J17 M28 h)
def f_X12_readLine (y : Lay) (a0 : Nat) (a1 : Int32) (M : Mem) : Option (Int32 × Mem) := gK y a0 (0, 12) (gN (y.2.1 a0 0) (cp (f_X12_which y a0 (y.2.1 a0 0) M) fun (r3 : Int32) => cp (f_X12_is y a0 1027 M) fun (r4 : Int32) => jn (fun (v5 : Int32) => jn (fun (M7 : Mem) => jn (fun (M9 : Mem) => jn (fun (M11 : Mem) => c0 (f_X12_mark y a0 (59 : Int32) M11) fun (r13 : Int32) (M14 : Mem) => some ((a1 ||| v5), M14)) fun j12 => jn (fun (_u : Unit) => br (r3 = ((-1) : Int32)) (cp (f_X12_is y a0 1021 M9) fun (r18 : Int32) => br (r18 = 0) (cp (f_X12_is y a0 1036 M9) fun (r21 : Int32) => br (r21 = 0) (c0 (f_X12_wrong y a0 (1 : Int32) M9) fun (r24 : Int32) (M25 : Mem) => j12 M25) (c0 (f_X12_sayPegs y a0 M9) fun (r26 : Int32) (M27 : Mem) => j12 M27)) (c0 (f_X12_sayBlue y a0 M9) fun (r28 : Int32) (M29 : Mem) => j12 M29)) (c0 (f_X12_sayWoman y a0 r3 M9) fun (r30 : Int32) (M31 : Mem) => j12 M31)) fun j15 => br (v5 ≤ 0) (j15 ()) (br ((M9.1 a0 22) = 0) (c0 (f_X12_sayOnce y a0 v5 M9) fun (r36 : Int32) (M37 : Mem) => j12 M37) (j15 ()))) fun j10 => br ((v5 &&& a1) = 0) (j10 M7) (c0 (f_X12_wrong y a0 (5 : Int32) M7) fun (r40 : Int32) (M41 : Mem) => j10 M41)) fun j8 => br (v5 = (1 : Int32)) (br ((M.1 a0 26) = 0) (j8 M) (c0 (f_X12_wrong y a0 (4 : Int32) M) fun (r46 : Int32) (M47 : Mem) => j8 M47)) (j8 M)) fun j6 => br (r4 = 0) (cp (f_X12_is y a0 1028 M) fun (r50 : Int32) => br (r50 = 0) (cp (f_X12_is y a0 1029 M) fun (r53 : Int32) => br (r53 = 0) (cp (f_X12_is y a0 1030 M) fun (r56 : Int32) => br (r56 = 0) (cp (f_X12_is y a0 1031 M) fun (r59 : Int32) => br (r59 = 0) (cp (f_X12_is y a0 1032 M) fun (r62 : Int32) => br (r62 = 0) (j6 (0 : Int32)) (j6 (32 : Int32))) (j6 (16 : Int32))) (j6 (8 : Int32))) (j6 (4 : Int32))) (j6 (2 : Int32))) (j6 (1 : Int32))))
theorem w_X12_readLine {g : GX} {l : Launch} (hG : GF g l) (y : Lay) (a0 : Nat) (a1 : Int32) (M : Mem) : C0 g l yX12_readLine cX12_readLine 4 (some .int) 81 y [.ref a0, .int a1] M (f_X12_readLine y a0 a1 M) := by
  refine C0_of hG (by decide) [some (.ref a0), some (.int a1), none, none] rfl rfl (fun out h x Q C R => ?_)
  unfold f_X12_readLine at h
  refine g_aload_n C tb_X12_readLine_0_ok (i := 0) rfl rfl ?_
  refine g_aload_n C tb_X12_readLine_0_ok (i := 1) rfl rfl ?_
  obtain ⟨k1, h⟩ := gK_e h
  obtain ⟨n2, h⟩ := gN_e h
  refine g_getR C tb_X12_readLine_0_ok (i := 2) rfl fl_X12_15 rfl k1 n2 ?_
  obtain ⟨r3, er3, h⟩ := cp_e h
  refine g_callV0 C tb_X12_readLine_0_ok (i := 3) [.ref (y.2.1 a0 0)] rfl mw_X12_which mv_X12_which ml_X12_249 k1 rfl rfl rfl rfl (w_X12_which C.G y a0 (y.2.1 a0 0) M) (pm_s er3) rfl rfl rfl ?_
  refine g_istore_n C tb_X12_readLine_0_ok (i := 4) rfl rfl rfl ?_
  refine g_aload_n C tb_X12_readLine_0_ok (i := 5) rfl rfl ?_
  refine g_ldcSw C tb_X12_readLine_0_ok (i := 6) (k := 27) (v := 1027) rfl rfl rfl (by decide) rfl ?_
  obtain ⟨r4, er4, h⟩ := cp_e h
  refine g_callV0 C tb_X12_readLine_0_ok (i := 7) [.ref 1027] rfl mw_X12_is mv_X12_is ml_X12_216 k1 rfl rfl rfl rfl (w_X12_is C.G y a0 1027 M) (pm_s er4) rfl rfl rfl ?_
  obtain ⟨j6, ej6, h⟩ := jn_e h
  have J97 : ∀ (v5 : Int32), j6 v5 = some out → GG g x 4 Q 0 0 y M 97 [some (.ref a0), some (.int a1), some (.int r3), none] [.int v5] := by
    intro v5 h; subst ej6
    refine g_istore_n C tb_X12_readLine_1_ok (i := 2) rfl rfl rfl ?_
    refine g_iload_n C tb_X12_readLine_1_ok (i := 3) rfl rfl ?_
    refine g_iconstv C tb_X12_readLine_1_ok (i := 4) 1 rfl k_iconstv_1 ?_
    obtain ⟨j8, ej8, h⟩ := jn_e h
    have J115 : ∀ (M7 : Mem), j8 M7 = some out → GG g x 4 Q 0 0 y M7 115 [some (.ref a0), some (.int a1), some (.int r3), some (.int v5)] [] := by
      intro M7 h; subst ej8
      refine g_iload_n C tb_X12_readLine_1_ok (i := 12) rfl rfl ?_
      refine g_iload_n C tb_X12_readLine_1_ok (i := 13) rfl rfl ?_
      refine g_iand C tb_X12_readLine_1_ok (i := 14) rfl ?_
      obtain ⟨j10, ej10, h⟩ := jn_e h
      have J126 : ∀ (M9 : Mem), j10 M9 = some out → GG g x 4 Q 0 0 y M9 126 [some (.ref a0), some (.int a1), some (.int r3), some (.int v5)] [] := by
        intro M9 h; subst ej10
        refine g_iload_n C tb_X12_readLine_1_ok (i := 19) rfl rfl ?_
        obtain ⟨j12, ej12, h⟩ := jn_e h
        have J196 : ∀ (M11 : Mem), j12 M11 = some out → GG g x 4 Q 0 0 y M11 196 [some (.ref a0), some (.int a1), none, some (.int v5)] [] := by
          intro M11 h; subst ej12
          refine g_aload_n C tb_X12_readLine_2_ok (i := 12) rfl rfl ?_
          refine g_bipushv C tb_X12_readLine_2_ok (i := 13) 59 rfl k_bipushv_59 ?_
          obtain ⟨r13, M14, er13, h⟩ := c0_e h
          refine g_callV0 C tb_X12_readLine_2_ok (i := 14) [.int (59 : Int32)] rfl mw_X12_mark mv_X12_mark ml_X12_253 k1 rfl rfl rfl rfl (w_X12_mark C.G y a0 (59 : Int32) M11) er13 rfl rfl rfl ?_
          refine g_iload_n C tb_X12_readLine_2_ok (i := 15) rfl rfl ?_
          refine g_iload_n C tb_X12_readLine_2_ok (i := 16) rfl rfl ?_
          refine g_ior C tb_X12_readLine_2_ok (i := 17) rfl ?_
          cases h
          exact g_iret0 C R tb_X12_readLine_2_ok (i := 18) rfl
        obtain ⟨j15, ej15, h⟩ := jn_e h
        have J145 : ∀ (_u : Unit), j15 _u = some out → GG g x 4 Q 0 0 y M9 145 [some (.ref a0), some (.int a1), some (.int r3), some (.int v5)] [] := by
          intro _u h; subst ej15
          refine g_iload_n C tb_X12_readLine_1_ok (i := 28) rfl rfl ?_
          refine g_iconstv C tb_X12_readLine_1_ok (i := 29) (-1) rfl k_iconstv_m1 ?_
          obtain ⟨t16, f17⟩ := br_e h
          refine g_icmp_eq C tb_X12_readLine_1_ok (i := 30) 158 rfl rfl (fun c => ?_) (fun c => ?_)
          · have h := t16 c
            refine g_aload_n C tb_X12_readLine_1_ok (i := 35) rfl rfl ?_
            refine g_ldcS C tb_X12_readLine_1_ok (i := 36) (k := 21) (v := 1021) rfl rfl rfl (by decide) rfl ?_
            obtain ⟨r18, er18, h⟩ := cp_e h
            refine g_callV0 C tb_X12_readLine_1_ok (i := 37) [.ref 1021] rfl mw_X12_is mv_X12_is ml_X12_216 k1 rfl rfl rfl rfl (w_X12_is C.G y a0 1021 M9) (pm_s er18) rfl rfl rfl ?_
            obtain ⟨t19, f20⟩ := br_e h
            refine g_if_eq C tb_X12_readLine_1_ok (i := 38) 174 rfl rfl (fun c => ?_) (fun c => ?_)
            · have h := t19 c
              refine g_aload_n C tb_X12_readLine_2_ok (i := 2) rfl rfl ?_
              refine g_ldcSw C tb_X12_readLine_2_ok (i := 3) (k := 36) (v := 1036) rfl rfl rfl (by decide) rfl ?_
              obtain ⟨r21, er21, h⟩ := cp_e h
              refine g_callV0 C tb_X12_readLine_2_ok (i := 4) [.ref 1036] rfl mw_X12_is mv_X12_is ml_X12_216 k1 rfl rfl rfl rfl (w_X12_is C.G y a0 1036 M9) (pm_s er21) rfl rfl rfl ?_
              obtain ⟨t22, f23⟩ := br_e h
              refine g_if_eq C tb_X12_readLine_2_ok (i := 5) 191 rfl rfl (fun c => ?_) (fun c => ?_)
              · have h := t22 c
                refine g_aload_n C tb_X12_readLine_2_ok (i := 9) rfl rfl ?_
                refine g_iconstv C tb_X12_readLine_2_ok (i := 10) 1 rfl k_iconstv_1 ?_
                obtain ⟨r24, M25, er24, h⟩ := c0_e h
                refine g_callV0 C tb_X12_readLine_2_ok (i := 11) [.int (1 : Int32)] rfl mw_X12_wrong mv_X12_wrong ml_X12_223 k1 rfl rfl rfl rfl (w_X12_wrong C.G y a0 (1 : Int32) M9) er24 rfl rfl rfl ?_
                exact g_less (L' := [some (.ref a0), some (.int a1), none, some (.int v5)]) ⟨rfl, ⟨rfl, ⟨rfl, trivial⟩⟩⟩ (J196 M25 h)
              · have h := f23 c
                refine g_aload_n C tb_X12_readLine_2_ok (i := 6) rfl rfl ?_
                obtain ⟨r26, M27, er26, h⟩ := c0_e h
                refine g_callV0 C tb_X12_readLine_2_ok (i := 7) [] rfl mw_X12_sayPegs mv_X12_sayPegs ml_X12_315 k1 rfl rfl rfl rfl (w_X12_sayPegs C.G y a0 M9) er26 rfl rfl rfl ?_
                refine g_goto C tb_X12_readLine_2_ok (i := 8) 196 rfl rfl ?_
                exact g_less (L' := [some (.ref a0), some (.int a1), none, some (.int v5)]) ⟨rfl, ⟨rfl, ⟨rfl, trivial⟩⟩⟩ (J196 M27 h)
            · have h := f20 c
              refine g_aload_n C tb_X12_readLine_1_ok (i := 39) rfl rfl ?_
              obtain ⟨r28, M29, er28, h⟩ := c0_e h
              refine g_callV0 C tb_X12_readLine_2_ok (i := 0) [] rfl mw_X12_sayBlue mv_X12_sayBlue ml_X12_310 k1 rfl rfl rfl rfl (w_X12_sayBlue C.G y a0 M9) er28 rfl rfl rfl ?_
              refine g_goto C tb_X12_readLine_2_ok (i := 1) 196 rfl rfl ?_
              exact g_less (L' := [some (.ref a0), some (.int a1), none, some (.int v5)]) ⟨rfl, ⟨rfl, ⟨rfl, trivial⟩⟩⟩ (J196 M29 h)
          · have h := f17 c
            refine g_aload_n C tb_X12_readLine_1_ok (i := 31) rfl rfl ?_
            refine g_iload_n C tb_X12_readLine_1_ok (i := 32) rfl rfl ?_
            obtain ⟨r30, M31, er30, h⟩ := c0_e h
            refine g_callV0 C tb_X12_readLine_1_ok (i := 33) [.int r3] rfl mw_X12_sayWoman mv_X12_sayWoman ml_X12_307 k1 rfl rfl rfl rfl (w_X12_sayWoman C.G y a0 r3 M9) er30 rfl rfl rfl ?_
            refine g_goto C tb_X12_readLine_1_ok (i := 34) 196 rfl rfl ?_
            exact g_less (L' := [some (.ref a0), some (.int a1), none, some (.int v5)]) ⟨rfl, ⟨rfl, ⟨rfl, trivial⟩⟩⟩ (J196 M31 h)
        obtain ⟨t32, f33⟩ := br_e h
        refine g_if_le C tb_X12_readLine_1_ok (i := 20) 145 rfl rfl (fun c => ?_) (fun c => ?_)
        · have h := t32 c
          exact g_less (L' := [some (.ref a0), some (.int a1), some (.int r3), some (.int v5)]) ⟨rfl, ⟨rfl, ⟨rfl, ⟨rfl, trivial⟩⟩⟩⟩ (J145 () h)
        · have h := f33 c
          refine g_aload_n C tb_X12_readLine_1_ok (i := 21) rfl rfl ?_
          refine g_getI C tb_X12_readLine_1_ok (i := 22) rfl fl_X12_203 rfl k1 ?_
          obtain ⟨t34, f35⟩ := br_e h
          refine g_if_ne C tb_X12_readLine_1_ok (i := 23) 145 rfl rfl (fun c => ?_) (fun c => ?_)
          · have h := f35 c
            exact g_less (L' := [some (.ref a0), some (.int a1), some (.int r3), some (.int v5)]) ⟨rfl, ⟨rfl, ⟨rfl, ⟨rfl, trivial⟩⟩⟩⟩ (J145 () h)
          · have h := t34 c
            refine g_aload_n C tb_X12_readLine_1_ok (i := 24) rfl rfl ?_
            refine g_iload_n C tb_X12_readLine_1_ok (i := 25) rfl rfl ?_
            obtain ⟨r36, M37, er36, h⟩ := c0_e h
            refine g_callV0 C tb_X12_readLine_1_ok (i := 26) [.int v5] rfl mw_X12_sayOnce mv_X12_sayOnce ml_X12_304 k1 rfl rfl rfl rfl (w_X12_sayOnce C.G y a0 v5 M9) er36 rfl rfl rfl ?_
            refine g_goto C tb_X12_readLine_1_ok (i := 27) 196 rfl rfl ?_
            exact g_less (L' := [some (.ref a0), some (.int a1), none, some (.int v5)]) ⟨rfl, ⟨rfl, ⟨rfl, trivial⟩⟩⟩ (J196 M37 h)
      obtain ⟨t38, f39⟩ := br_e h
      refine g_if_eq C tb_X12_readLine_1_ok (i := 15) 126 rfl rfl (fun c => ?_) (fun c => ?_)
      · have h := t38 c
        exact g_less (L' := [some (.ref a0), some (.int a1), some (.int r3), some (.int v5)]) ⟨rfl, ⟨rfl, ⟨rfl, ⟨rfl, trivial⟩⟩⟩⟩ (J126 M7 h)
      · have h := f39 c
        refine g_aload_n C tb_X12_readLine_1_ok (i := 16) rfl rfl ?_
        refine g_iconstv C tb_X12_readLine_1_ok (i := 17) 5 rfl k_iconstv_5 ?_
        obtain ⟨r40, M41, er40, h⟩ := c0_e h
        refine g_callV0 C tb_X12_readLine_1_ok (i := 18) [.int (5 : Int32)] rfl mw_X12_wrong mv_X12_wrong ml_X12_223 k1 rfl rfl rfl rfl (w_X12_wrong C.G y a0 (5 : Int32) M7) er40 rfl rfl rfl ?_
        exact g_less (L' := [some (.ref a0), some (.int a1), some (.int r3), some (.int v5)]) ⟨rfl, ⟨rfl, ⟨rfl, ⟨rfl, trivial⟩⟩⟩⟩ (J126 M41 h)
    obtain ⟨t42, f43⟩ := br_e h
    refine g_icmp_ne C tb_X12_readLine_1_ok (i := 5) 115 rfl rfl (fun c => ?_) (fun c => ?_)
    · have h := f43 c
      exact g_less (L' := [some (.ref a0), some (.int a1), some (.int r3), some (.int v5)]) ⟨rfl, ⟨rfl, ⟨rfl, ⟨rfl, trivial⟩⟩⟩⟩ (J115 M h)
    · have h := t42 c
      refine g_aload_n C tb_X12_readLine_1_ok (i := 6) rfl rfl ?_
      refine g_getI C tb_X12_readLine_1_ok (i := 7) rfl fl_X12_236 rfl k1 ?_
      obtain ⟨t44, f45⟩ := br_e h
      refine g_if_eq C tb_X12_readLine_1_ok (i := 8) 115 rfl rfl (fun c => ?_) (fun c => ?_)
      · have h := t44 c
        exact g_less (L' := [some (.ref a0), some (.int a1), some (.int r3), some (.int v5)]) ⟨rfl, ⟨rfl, ⟨rfl, ⟨rfl, trivial⟩⟩⟩⟩ (J115 M h)
      · have h := f45 c
        refine g_aload_n C tb_X12_readLine_1_ok (i := 9) rfl rfl ?_
        refine g_iconstv C tb_X12_readLine_1_ok (i := 10) 4 rfl k_iconstv_4 ?_
        obtain ⟨r46, M47, er46, h⟩ := c0_e h
        refine g_callV0 C tb_X12_readLine_1_ok (i := 11) [.int (4 : Int32)] rfl mw_X12_wrong mv_X12_wrong ml_X12_223 k1 rfl rfl rfl rfl (w_X12_wrong C.G y a0 (4 : Int32) M) er46 rfl rfl rfl ?_
        exact g_less (L' := [some (.ref a0), some (.int a1), some (.int r3), some (.int v5)]) ⟨rfl, ⟨rfl, ⟨rfl, ⟨rfl, trivial⟩⟩⟩⟩ (J115 M47 h)
  obtain ⟨t48, f49⟩ := br_e h
  refine g_if_eq C tb_X12_readLine_0_ok (i := 8) 23 rfl rfl (fun c => ?_) (fun c => ?_)
  · have h := t48 c
    refine g_aload_n C tb_X12_readLine_0_ok (i := 11) rfl rfl ?_
    refine g_ldcSw C tb_X12_readLine_0_ok (i := 12) (k := 28) (v := 1028) rfl rfl rfl (by decide) rfl ?_
    obtain ⟨r50, er50, h⟩ := cp_e h
    refine g_callV0 C tb_X12_readLine_0_ok (i := 13) [.ref 1028] rfl mw_X12_is mv_X12_is ml_X12_216 k1 rfl rfl rfl rfl (w_X12_is C.G y a0 1028 M) (pm_s er50) rfl rfl rfl ?_
    obtain ⟨t51, f52⟩ := br_e h
    refine g_if_eq C tb_X12_readLine_0_ok (i := 14) 37 rfl rfl (fun c => ?_) (fun c => ?_)
    · have h := t51 c
      refine g_aload_n C tb_X12_readLine_0_ok (i := 17) rfl rfl ?_
      refine g_ldcSw C tb_X12_readLine_0_ok (i := 18) (k := 29) (v := 1029) rfl rfl rfl (by decide) rfl ?_
      obtain ⟨r53, er53, h⟩ := cp_e h
      refine g_callV0 C tb_X12_readLine_0_ok (i := 19) [.ref 1029] rfl mw_X12_is mv_X12_is ml_X12_216 k1 rfl rfl rfl rfl (w_X12_is C.G y a0 1029 M) (pm_s er53) rfl rfl rfl ?_
      obtain ⟨t54, f55⟩ := br_e h
      refine g_if_eq C tb_X12_readLine_0_ok (i := 20) 51 rfl rfl (fun c => ?_) (fun c => ?_)
      · have h := t54 c
        refine g_aload_n C tb_X12_readLine_0_ok (i := 23) rfl rfl ?_
        refine g_ldcSw C tb_X12_readLine_0_ok (i := 24) (k := 30) (v := 1030) rfl rfl rfl (by decide) rfl ?_
        obtain ⟨r56, er56, h⟩ := cp_e h
        refine g_callV0 C tb_X12_readLine_0_ok (i := 25) [.ref 1030] rfl mw_X12_is mv_X12_is ml_X12_216 k1 rfl rfl rfl rfl (w_X12_is C.G y a0 1030 M) (pm_s er56) rfl rfl rfl ?_
        obtain ⟨t57, f58⟩ := br_e h
        refine g_if_eq C tb_X12_readLine_0_ok (i := 26) 66 rfl rfl (fun c => ?_) (fun c => ?_)
        · have h := t57 c
          refine g_aload_n C tb_X12_readLine_0_ok (i := 29) rfl rfl ?_
          refine g_ldcSw C tb_X12_readLine_0_ok (i := 30) (k := 31) (v := 1031) rfl rfl rfl (by decide) rfl ?_
          obtain ⟨r59, er59, h⟩ := cp_e h
          refine g_callV0 C tb_X12_readLine_0_ok (i := 31) [.ref 1031] rfl mw_X12_is mv_X12_is ml_X12_216 k1 rfl rfl rfl rfl (w_X12_is C.G y a0 1031 M) (pm_s er59) rfl rfl rfl ?_
          obtain ⟨t60, f61⟩ := br_e h
          refine g_if_eq C tb_X12_readLine_0_ok (i := 32) 81 rfl rfl (fun c => ?_) (fun c => ?_)
          · have h := t60 c
            refine g_aload_n C tb_X12_readLine_0_ok (i := 35) rfl rfl ?_
            refine g_ldcSw C tb_X12_readLine_0_ok (i := 36) (k := 32) (v := 1032) rfl rfl rfl (by decide) rfl ?_
            obtain ⟨r62, er62, h⟩ := cp_e h
            refine g_callV0 C tb_X12_readLine_0_ok (i := 37) [.ref 1032] rfl mw_X12_is mv_X12_is ml_X12_216 k1 rfl rfl rfl rfl (w_X12_is C.G y a0 1032 M) (pm_s er62) rfl rfl rfl ?_
            obtain ⟨t63, f64⟩ := br_e h
            refine g_if_eq C tb_X12_readLine_0_ok (i := 38) 96 rfl rfl (fun c => ?_) (fun c => ?_)
            · have h := t63 c
              refine g_iconstv C tb_X12_readLine_1_ok (i := 1) 0 rfl k_iconstv_0 ?_
              exact g_less (L' := [some (.ref a0), some (.int a1), some (.int r3), none]) ⟨rfl, ⟨rfl, ⟨rfl, trivial⟩⟩⟩ (J97 (0 : Int32) h)
            · have h := f64 c
              refine g_bipushv C tb_X12_readLine_0_ok (i := 39) 32 rfl k_bipushv_32 ?_
              refine g_goto C tb_X12_readLine_1_ok (i := 0) 97 rfl rfl ?_
              exact g_less (L' := [some (.ref a0), some (.int a1), some (.int r3), none]) ⟨rfl, ⟨rfl, ⟨rfl, trivial⟩⟩⟩ (J97 (32 : Int32) h)
          · have h := f61 c
            refine g_bipushv C tb_X12_readLine_0_ok (i := 33) 16 rfl k_bipushv_16 ?_
            refine g_goto C tb_X12_readLine_0_ok (i := 34) 97 rfl rfl ?_
            exact g_less (L' := [some (.ref a0), some (.int a1), some (.int r3), none]) ⟨rfl, ⟨rfl, ⟨rfl, trivial⟩⟩⟩ (J97 (16 : Int32) h)
        · have h := f58 c
          refine g_bipushv C tb_X12_readLine_0_ok (i := 27) 8 rfl k_bipushv_8 ?_
          refine g_goto C tb_X12_readLine_0_ok (i := 28) 97 rfl rfl ?_
          exact g_less (L' := [some (.ref a0), some (.int a1), some (.int r3), none]) ⟨rfl, ⟨rfl, ⟨rfl, trivial⟩⟩⟩ (J97 (8 : Int32) h)
      · have h := f55 c
        refine g_iconstv C tb_X12_readLine_0_ok (i := 21) 4 rfl k_iconstv_4 ?_
        refine g_goto C tb_X12_readLine_0_ok (i := 22) 97 rfl rfl ?_
        exact g_less (L' := [some (.ref a0), some (.int a1), some (.int r3), none]) ⟨rfl, ⟨rfl, ⟨rfl, trivial⟩⟩⟩ (J97 (4 : Int32) h)
    · have h := f52 c
      refine g_iconstv C tb_X12_readLine_0_ok (i := 15) 2 rfl k_iconstv_2 ?_
      refine g_goto C tb_X12_readLine_0_ok (i := 16) 97 rfl rfl ?_
      exact g_less (L' := [some (.ref a0), some (.int a1), some (.int r3), none]) ⟨rfl, ⟨rfl, ⟨rfl, trivial⟩⟩⟩ (J97 (2 : Int32) h)
  · have h := f49 c
    refine g_iconstv C tb_X12_readLine_0_ok (i := 9) 1 rfl k_iconstv_1 ?_
    refine g_goto C tb_X12_readLine_0_ok (i := 10) 97 rfl rfl ?_
    exact g_less (L' := [some (.ref a0), some (.int a1), some (.int r3), none]) ⟨rfl, ⟨rfl, ⟨rfl, trivial⟩⟩⟩ (J97 (1 : Int32) h)
