def f_X12_missed (y : Lay) (a0 : Nat) (a1 : Int32) (M : Mem) : Option (Int32 × Mem) := gK y a0 (0, 12) (lt (wI M a0 4 (0 : Int32)) fun (M2 : Mem) => cp (f_X12_isGirl y a0 a1 M2) fun (r3 : Int32) => br (r3 = 0) (c0 (f_X12_fail y a0 (1 : Int32) M2) fun (r21 : Int32) (M22 : Mem) => some (r21, M22)) (gN (y.2.1 a0 42) (c0 (f_X12_pack y a0 (y.2.1 a0 42) (0 : Int32) M2) fun (r7 : Int32) (M8 : Mem) => lt (wI M8 a0 35 ((M8.1 a0 35) &&& (((1 : Int32) <<< (a1 &&& 31)) ^^^ ((-1) : Int32)))) fun (M9 : Mem) => c0 (f_X12_aDay y a0 M9) fun (r10 : Int32) (M11 : Mem) => cp (f_X12_allBlue y a0 M11) fun (r12 : Int32) => c0 (f_X12_unpack y a0 (y.2.1 a0 42) (0 : Int32) M11) fun (r13 : Int32) (M14 : Mem) => lt (wI M14 a0 35 ((M14.1 a0 35) ||| ((1 : Int32) <<< (a1 &&& 31)))) fun (M15 : Mem) => c0 (f_X12_aDay y a0 M15) fun (r16 : Int32) (M17 : Mem) => cp (f_X12_allBlue y a0 M17) fun (r18 : Int32) => c0 (f_X12_unpack y a0 (y.2.1 a0 42) (0 : Int32) M17) fun (r19 : Int32) (M20 : Mem) => some ((r12 - r18), M20))))
theorem w_X12_missed {g : GX} {l : Launch} (hG : GF g l) (y : Lay) (a0 : Nat) (a1 : Int32) (M : Mem) : C0 g l yX12_missed cX12_missed 4 (some .int) 8 y [.ref a0, .int a1] M (f_X12_missed y a0 a1 M) := by
  refine C0_of hG (by decide) [some (.ref a0), some (.int a1), none, none] rfl rfl (fun out h x Q C R => ?_)
  unfold f_X12_missed at h
  refine g_aload_n C tb_X12_missed_0_ok (i := 0) rfl rfl ?_
  refine g_iconstv C tb_X12_missed_0_ok (i := 1) 0 rfl k_iconstv_0 ?_
  obtain ⟨k1, h⟩ := gK_e h
  refine g_putI C tb_X12_missed_0_ok (i := 2) rfl fl_X12_150 ft_12_4 rfl k1 ?_
  refine g_mem (fun M2 eM2 => ?_)
  have h := lt_e eM2 h
  refine g_aload_n C tb_X12_missed_0_ok (i := 3) rfl rfl ?_
  refine g_iload_n C tb_X12_missed_0_ok (i := 4) rfl rfl ?_
  obtain ⟨r3, er3, h⟩ := cp_e h
  refine g_callV0 C tb_X12_missed_0_ok (i := 5) [.int a1] rfl mw_X12_isGirl mv_X12_isGirl ml_X12_417 k1 rfl rfl rfl rfl (w_X12_isGirl C.G y a0 a1 M2) (pm_s er3) rfl rfl rfl ?_
  obtain ⟨t4, f5⟩ := br_e h
  refine g_if_ne C tb_X12_missed_0_ok (i := 6) 19 rfl rfl (fun c => ?_) (fun c => ?_)
  · have h := f5 c
    refine g_aload_n C tb_X12_missed_0_ok (i := 11) rfl rfl ?_
    refine g_aload_n C tb_X12_missed_0_ok (i := 12) rfl rfl ?_
    obtain ⟨n6, h⟩ := gN_e h
    refine g_getR C tb_X12_missed_0_ok (i := 13) rfl fl_X12_92 rfl k1 n6 ?_
    refine g_iconstv C tb_X12_missed_0_ok (i := 14) 0 rfl k_iconstv_0 ?_
    obtain ⟨r7, M8, er7, h⟩ := c0_e h
    refine g_callV0 C tb_X12_missed_0_ok (i := 15) [.ref (y.2.1 a0 42), .int (0 : Int32)] rfl mw_X12_pack mv_X12_pack ml_X12_420 k1 rfl rfl rfl rfl (w_X12_pack C.G y a0 (y.2.1 a0 42) (0 : Int32) M2) er7 rfl rfl rfl ?_
    refine g_aload_n C tb_X12_missed_0_ok (i := 16) rfl rfl ?_
    refine g_dup C tb_X12_missed_0_ok (i := 17) rfl rfl ?_
    refine g_getI C tb_X12_missed_0_ok (i := 18) rfl fl_X12_339 rfl k1 ?_
    refine g_iconstv C tb_X12_missed_0_ok (i := 19) 1 rfl k_iconstv_1 ?_
    refine g_iload_n C tb_X12_missed_0_ok (i := 20) rfl rfl ?_
    refine g_ishl C tb_X12_missed_0_ok (i := 21) rfl ?_
    refine g_iconstv C tb_X12_missed_0_ok (i := 22) (-1) rfl k_iconstv_m1 ?_
    refine g_ixor C tb_X12_missed_0_ok (i := 23) rfl ?_
    refine g_iand C tb_X12_missed_0_ok (i := 24) rfl ?_
    refine g_putI C tb_X12_missed_0_ok (i := 25) rfl fl_X12_339 ft_12_35 rfl k1 ?_
    refine g_mem (fun M9 eM9 => ?_)
    have h := lt_e eM9 h
    refine g_aload_n C tb_X12_missed_0_ok (i := 26) rfl rfl ?_
    obtain ⟨r10, M11, er10, h⟩ := c0_e h
    refine g_callV0 C tb_X12_missed_0_ok (i := 27) [] rfl mw_X12_aDay mv_X12_aDay ml_X12_402 k1 rfl rfl rfl rfl (w_X12_aDay C.G y a0 M9) er10 rfl rfl rfl ?_
    refine g_aload_n C tb_X12_missed_0_ok (i := 28) rfl rfl ?_
    obtain ⟨r12, er12, h⟩ := cp_e h
    refine g_callV0 C tb_X12_missed_0_ok (i := 29) [] rfl mw_X12_allBlue mv_X12_allBlue ml_X12_405 k1 rfl rfl rfl rfl (w_X12_allBlue C.G y a0 M11) (pm_s er12) rfl rfl rfl ?_
    refine g_istore_n C tb_X12_missed_0_ok (i := 30) rfl rfl rfl ?_
    refine g_aload_n C tb_X12_missed_0_ok (i := 31) rfl rfl ?_
    refine g_aload_n C tb_X12_missed_0_ok (i := 32) rfl rfl ?_
    refine g_getR C tb_X12_missed_0_ok (i := 33) rfl fl_X12_92 rfl k1 n6 ?_
    refine g_iconstv C tb_X12_missed_0_ok (i := 34) 0 rfl k_iconstv_0 ?_
    obtain ⟨r13, M14, er13, h⟩ := c0_e h
    refine g_callV0 C tb_X12_missed_0_ok (i := 35) [.ref (y.2.1 a0 42), .int (0 : Int32)] rfl mw_X12_unpack mv_X12_unpack ml_X12_440 k1 rfl rfl rfl rfl (w_X12_unpack C.G y a0 (y.2.1 a0 42) (0 : Int32) M11) er13 rfl rfl rfl ?_
    refine g_aload_n C tb_X12_missed_0_ok (i := 36) rfl rfl ?_
    refine g_dup C tb_X12_missed_0_ok (i := 37) rfl rfl ?_
    refine g_getI C tb_X12_missed_0_ok (i := 38) rfl fl_X12_339 rfl k1 ?_
    refine g_iconstv C tb_X12_missed_0_ok (i := 39) 1 rfl k_iconstv_1 ?_
    refine g_iload_n C tb_X12_missed_1_ok (i := 0) rfl rfl ?_
    refine g_ishl C tb_X12_missed_1_ok (i := 1) rfl ?_
    refine g_ior C tb_X12_missed_1_ok (i := 2) rfl ?_
    refine g_putI C tb_X12_missed_1_ok (i := 3) rfl fl_X12_339 ft_12_35 rfl k1 ?_
    refine g_mem (fun M15 eM15 => ?_)
    have h := lt_e eM15 h
    refine g_aload_n C tb_X12_missed_1_ok (i := 4) rfl rfl ?_
    obtain ⟨r16, M17, er16, h⟩ := c0_e h
    refine g_callV0 C tb_X12_missed_1_ok (i := 5) [] rfl mw_X12_aDay mv_X12_aDay ml_X12_402 k1 rfl rfl rfl rfl (w_X12_aDay C.G y a0 M15) er16 rfl rfl rfl ?_
    refine g_aload_n C tb_X12_missed_1_ok (i := 6) rfl rfl ?_
    obtain ⟨r18, er18, h⟩ := cp_e h
    refine g_callV0 C tb_X12_missed_1_ok (i := 7) [] rfl mw_X12_allBlue mv_X12_allBlue ml_X12_405 k1 rfl rfl rfl rfl (w_X12_allBlue C.G y a0 M17) (pm_s er18) rfl rfl rfl ?_
    refine g_istore_n C tb_X12_missed_1_ok (i := 8) rfl rfl rfl ?_
    refine g_aload_n C tb_X12_missed_1_ok (i := 9) rfl rfl ?_
    refine g_aload_n C tb_X12_missed_1_ok (i := 10) rfl rfl ?_
    refine g_getR C tb_X12_missed_1_ok (i := 11) rfl fl_X12_92 rfl k1 n6 ?_
    refine g_iconstv C tb_X12_missed_1_ok (i := 12) 0 rfl k_iconstv_0 ?_
    obtain ⟨r19, M20, er19, h⟩ := c0_e h
    refine g_callV0 C tb_X12_missed_1_ok (i := 13) [.ref (y.2.1 a0 42), .int (0 : Int32)] rfl mw_X12_unpack mv_X12_unpack ml_X12_440 k1 rfl rfl rfl rfl (w_X12_unpack C.G y a0 (y.2.1 a0 42) (0 : Int32) M17) er19 rfl rfl rfl ?_
    refine g_iload_n C tb_X12_missed_1_ok (i := 14) rfl rfl ?_
    refine g_iload_n C tb_X12_missed_1_ok (i := 15) rfl rfl ?_
    refine g_isub C tb_X12_missed_1_ok (i := 16) rfl ?_
    cases h
    exact g_iret0 C R tb_X12_missed_1_ok (i := 17) rfl
  · have h := t4 c
    refine g_aload_n C tb_X12_missed_0_ok (i := 7) rfl rfl ?_
    refine g_iconstv C tb_X12_missed_0_ok (i := 8) 1 rfl k_iconstv_1 ?_
    obtain ⟨r21, M22, er21, h⟩ := c0_e h
    refine g_callV0 C tb_X12_missed_0_ok (i := 9) [.int (1 : Int32)] rfl mw_X12_fail mv_X12_fail ml_X12_318 k1 rfl rfl rfl rfl (w_X12_fail C.G y a0 (1 : Int32) M2) er21 rfl rfl rfl ?_
    cases h
    exact g_iret0 C R tb_X12_missed_0_ok (i := 10) rfl
def f_X12_steps (y : Lay) (a0 : Nat) (a1 : Int32) (a2 : Int32) (M : Mem) : Option (Int32 × Mem) := gK y a0 (0, 12) (lt (wI M a0 4 (0 : Int32)) fun (M2 : Mem) => cp (f_X12_isGirl y a0 a1 M2) fun (r3 : Int32) => jn (fun (v4 : Int32) (M5 : Mem) => some (v4, M5)) fun j6 => jn (fun (_u : Unit) => c0 (f_X12_fail y a0 (1 : Int32) M2) fun (r8 : Int32) (M9 : Mem) => j6 r8 M9) fun j7 => br (r3 = 0) (j7 ()) (cp (f_X12_isCell y a0 a2 M2) fun (r12 : Int32) => br (r12 = 0) (j7 ()) (gN (y.2.1 a0 29) (gA y (y.2.1 a0 29) 1 a1 (cp (f_X12_farOf y a0 (M2.1 (y.2.1 a0 29) a1.toNatClampNeg) a2 M2) fun (r17 : Int32) => j6 r17 M2)))))
theorem w_X12_steps {g : GX} {l : Launch} (hG : GF g l) (y : Lay) (a0 : Nat) (a1 : Int32) (a2 : Int32) (M : Mem) : C0 g l yX12_steps cX12_steps 3 (some .int) 2 y [.ref a0, .int a1, .int a2] M (f_X12_steps y a0 a1 a2 M) := by
  refine C0_of hG (by decide) [some (.ref a0), some (.int a1), some (.int a2)] rfl rfl (fun out h x Q C R => ?_)
  unfold f_X12_steps at h
  refine g_aload_n C tb_X12_steps_0_ok (i := 0) rfl rfl ?_
  refine g_iconstv C tb_X12_steps_0_ok (i := 1) 0 rfl k_iconstv_0 ?_
  obtain ⟨k1, h⟩ := gK_e h
  refine g_putI C tb_X12_steps_0_ok (i := 2) rfl fl_X12_150 ft_12_4 rfl k1 ?_
  refine g_mem (fun M2 eM2 => ?_)
  have h := lt_e eM2 h
  refine g_aload_n C tb_X12_steps_0_ok (i := 3) rfl rfl ?_
  refine g_iload_n C tb_X12_steps_0_ok (i := 4) rfl rfl ?_
  obtain ⟨r3, er3, h⟩ := cp_e h
  refine g_callV0 C tb_X12_steps_0_ok (i := 5) [.int a1] rfl mw_X12_isGirl mv_X12_isGirl ml_X12_417 k1 rfl rfl rfl rfl (w_X12_isGirl C.G y a0 a1 M2) (pm_s er3) rfl rfl rfl ?_
  obtain ⟨j6, ej6, h⟩ := jn_e h
  have J40 : ∀ (v4 : Int32) (M5 : Mem), j6 v4 M5 = some out → GG g x 3 Q 0 0 y M5 40 [none, none, none] [.int v4] := by
    intro v4 M5 h; subst ej6
    cases h
    exact g_iret0 C R tb_X12_steps_0_ok (i := 22) rfl
  obtain ⟨j7, ej7, h⟩ := jn_e h
  have J35 : ∀ (_u : Unit), j7 _u = some out → GG g x 3 Q 0 0 y M2 35 [some (.ref a0), none, none] [] := by
    intro _u h; subst ej7
    refine g_aload_n C tb_X12_steps_0_ok (i := 19) rfl rfl ?_
    refine g_iconstv C tb_X12_steps_0_ok (i := 20) 1 rfl k_iconstv_1 ?_
    obtain ⟨r8, M9, er8, h⟩ := c0_e h
    refine g_callV0 C tb_X12_steps_0_ok (i := 21) [.int (1 : Int32)] rfl mw_X12_fail mv_X12_fail ml_X12_318 k1 rfl rfl rfl rfl (w_X12_fail C.G y a0 (1 : Int32) M2) er8 rfl rfl rfl ?_
    exact g_less (L' := [none, none, none]) trivial (J40 r8 M9 h)
  obtain ⟨t10, f11⟩ := br_e h
  refine g_if_eq C tb_X12_steps_0_ok (i := 6) 35 rfl rfl (fun c => ?_) (fun c => ?_)
  · have h := t10 c
    exact g_less (L' := [some (.ref a0), none, none]) ⟨rfl, trivial⟩ (J35 () h)
  · have h := f11 c
    refine g_aload_n C tb_X12_steps_0_ok (i := 7) rfl rfl ?_
    refine g_iload_n C tb_X12_steps_0_ok (i := 8) rfl rfl ?_
    obtain ⟨r12, er12, h⟩ := cp_e h
    refine g_callV0 C tb_X12_steps_0_ok (i := 9) [.int a2] rfl mw_X12_isCell mv_X12_isCell ml_X12_408 k1 rfl rfl rfl rfl (w_X12_isCell C.G y a0 a2 M2) (pm_s er12) rfl rfl rfl ?_
    obtain ⟨t13, f14⟩ := br_e h
    refine g_if_eq C tb_X12_steps_0_ok (i := 10) 35 rfl rfl (fun c => ?_) (fun c => ?_)
    · have h := t13 c
      exact g_less (L' := [some (.ref a0), none, none]) ⟨rfl, trivial⟩ (J35 () h)
    · have h := f14 c
      refine g_aload_n C tb_X12_steps_0_ok (i := 11) rfl rfl ?_
      refine g_aload_n C tb_X12_steps_0_ok (i := 12) rfl rfl ?_
      obtain ⟨n15, h⟩ := gN_e h
      refine g_getR C tb_X12_steps_0_ok (i := 13) rfl fl_X12_77 rfl k1 n15 ?_
      refine g_iload_n C tb_X12_steps_0_ok (i := 14) rfl rfl ?_
      obtain ⟨b16, h⟩ := gA_e h
      refine g_iald C tb_X12_steps_0_ok (i := 15) rfl b16 ?_
      refine g_iload_n C tb_X12_steps_0_ok (i := 16) rfl rfl ?_
      obtain ⟨r17, er17, h⟩ := cp_e h
      refine g_callV0 C tb_X12_steps_0_ok (i := 17) [.int (M2.1 (y.2.1 a0 29) a1.toNatClampNeg), .int a2] rfl mw_X12_farOf mv_X12_farOf ml_X12_360 k1 rfl rfl rfl rfl (w_X12_farOf C.G y a0 (M2.1 (y.2.1 a0 29) a1.toNatClampNeg) a2 M2) (pm_s er17) rfl rfl rfl ?_
      refine g_goto C tb_X12_steps_0_ok (i := 18) 40 rfl rfl ?_
      exact g_less (L' := [none, none, none]) trivial (J40 r17 M2 h)
def f_X12_nearest (y : Lay) (a0 : Nat) (a1 : Int32) (M : Mem) : Option (Int32 × Mem) := gK y a0 (0, 12) (lt (wI M a0 4 (0 : Int32)) fun (M2 : Mem) => cp (f_X12_isCell y a0 a1 M2) fun (r3 : Int32) => br (r3 = 0) (c0 (f_X12_fail y a0 (1 : Int32) M2) fun (r28 : Int32) (M29 : Mem) => some (r28, M29)) (lt ((-1) : Int32) fun (v6 : Int32) => fixN (fun _ _ => none) (fun (s9 : Int32 → Int32 → Option (Int32 × Mem)) (v7 : Int32) (v8 : Int32) => gN (y.2.1 a0 5) (gA y (y.2.1 a0 5) 1 (2 : Int32) (br ((M2.1 (y.2.1 a0 5) (2 : Int32).toNatClampNeg) ≤ v8) (some (v7, M2)) (jn (fun (v15 : Int32) => lt (v8 + (1 : Int32)) fun (v17 : Int32) => s9 v15 v17) fun j16 => jn (fun (_u : Unit) => j16 v8) fun j18 => br (v7 = ((-1) : Int32)) (j18 ()) (gN (y.2.1 a0 29) (gA y (y.2.1 a0 29) 1 v8 (cp (f_X12_farOf y a0 (M2.1 (y.2.1 a0 29) v8.toNatClampNeg) a1 M2) fun (r23 : Int32) => gA y (y.2.1 a0 29) 1 v7 (cp (f_X12_farOf y a0 (M2.1 (y.2.1 a0 29) v7.toNatClampNeg) a1 M2) fun (r25 : Int32) => br (r25 ≤ r23) (j16 v7) (j18 ()))))))))) FUEL v6 (0 : Int32)))
theorem w_X12_nearest {g : GX} {l : Launch} (hG : GF g l) (y : Lay) (a0 : Nat) (a1 : Int32) (M : Mem) : C0 g l yX12_nearest cX12_nearest 4 (some .int) 2 y [.ref a0, .int a1] M (f_X12_nearest y a0 a1 M) := by
  refine C0_of hG (by decide) [some (.ref a0), some (.int a1), none, none] rfl rfl (fun out h x Q C R => ?_)
  unfold f_X12_nearest at h
  refine g_aload_n C tb_X12_nearest_0_ok (i := 0) rfl rfl ?_
  refine g_iconstv C tb_X12_nearest_0_ok (i := 1) 0 rfl k_iconstv_0 ?_
  obtain ⟨k1, h⟩ := gK_e h
  refine g_putI C tb_X12_nearest_0_ok (i := 2) rfl fl_X12_150 ft_12_4 rfl k1 ?_
  refine g_mem (fun M2 eM2 => ?_)
  have h := lt_e eM2 h
  refine g_aload_n C tb_X12_nearest_0_ok (i := 3) rfl rfl ?_
  refine g_iload_n C tb_X12_nearest_0_ok (i := 4) rfl rfl ?_
  obtain ⟨r3, er3, h⟩ := cp_e h
  refine g_callV0 C tb_X12_nearest_0_ok (i := 5) [.int a1] rfl mw_X12_isCell mv_X12_isCell ml_X12_408 k1 rfl rfl rfl rfl (w_X12_isCell C.G y a0 a1 M2) (pm_s er3) rfl rfl rfl ?_
  obtain ⟨t4, f5⟩ := br_e h
  refine g_if_ne C tb_X12_nearest_0_ok (i := 6) 19 rfl rfl (fun c => ?_) (fun c => ?_)
  · have h := f5 c
    refine g_iconstv C tb_X12_nearest_0_ok (i := 11) (-1) rfl k_iconstv_m1 ?_
    refine g_topi (fun v6 ev6 => ?_)
    have h := lt_e ev6 h
    refine g_istore_n C tb_X12_nearest_0_ok (i := 12) rfl rfl rfl ?_
    refine g_iconstv C tb_X12_nearest_0_ok (i := 13) 0 rfl k_iconstv_0 ?_
    refine g_istore_n C tb_X12_nearest_0_ok (i := 14) rfl rfl rfl ?_
    refine g_less (L' := [some (.ref a0), some (.int a1), some (.int v6), some (.int (0 : Int32))]) ⟨rfl, ⟨rfl, ⟨rfl, ⟨rfl, trivial⟩⟩⟩⟩ ?_
    refine fix_i (P := fun (f : Int32 → Int32 → Option (Int32 × Mem)) => ∀ (v7 : Int32) (v8 : Int32), f v7 v8 = some out → GG g x 4 Q 0 0 y M2 23 [some (.ref a0), some (.int a1), some (.int v7), some (.int v8)] []) ?_ ?_ _ v6 (0 : Int32) h
    · intro v7 v8 h; exact (nn_e h).elim
    · intro s9 ih10 v7 v8 h
      refine g_iload_n C tb_X12_nearest_0_ok (i := 15) rfl rfl ?_
      refine g_aload_n C tb_X12_nearest_0_ok (i := 16) rfl rfl ?_
      obtain ⟨n11, h⟩ := gN_e h
      refine g_getR C tb_X12_nearest_0_ok (i := 17) rfl fl_X12_40 rfl k1 n11 ?_
      refine g_iconstv C tb_X12_nearest_0_ok (i := 18) 2 rfl k_iconstv_2 ?_
      obtain ⟨b12, h⟩ := gA_e h
      refine g_iald C tb_X12_nearest_0_ok (i := 19) rfl b12 ?_
      obtain ⟨t13, f14⟩ := br_e h
      refine g_icmp_ge C tb_X12_nearest_0_ok (i := 20) 71 rfl rfl (fun c => ?_) (fun c => ?_)
      · have h := t13 c
        refine g_iload_n C tb_X12_nearest_1_ok (i := 3) rfl rfl ?_
        cases h
        exact g_iret0 C R tb_X12_nearest_1_ok (i := 4) rfl
      · have h := f14 c
        refine g_iload_n C tb_X12_nearest_0_ok (i := 21) rfl rfl ?_
        refine g_iconstv C tb_X12_nearest_0_ok (i := 22) (-1) rfl k_iconstv_m1 ?_
        obtain ⟨j16, ej16, h⟩ := jn_e h
        have J65 : ∀ (v15 : Int32), j16 v15 = some out → GG g x 4 Q 0 0 y M2 65 [some (.ref a0), some (.int a1), some (.int v15), some (.int v8)] [] := by
          intro v15 h; subst ej16
          obtain ⟨v17, ev17⟩ : ∃ w : Int32, w = v8 + (1 : Int32) := ⟨_, rfl⟩
          have h := lt_e ev17 h
          refine g_iincv C tb_X12_nearest_1_ok (i := 1) (1 : Int32) ev17 rfl rfl k_iconstv_1 rfl rfl ?_
          refine g_goto C tb_X12_nearest_1_ok (i := 2) 23 rfl rfl ?_
          exact g_less (L' := [some (.ref a0), some (.int a1), some (.int v15), some (.int v17)]) ⟨rfl, ⟨rfl, ⟨rfl, ⟨rfl, trivial⟩⟩⟩⟩ (ih10 v15 v17 h)
        obtain ⟨j18, ej18, h⟩ := jn_e h
        have J63 : ∀ (_u : Unit), j18 _u = some out → GG g x 4 Q 0 0 y M2 63 [some (.ref a0), some (.int a1), none, some (.int v8)] [] := by
          intro _u h; subst ej18
          refine g_iload_n C tb_X12_nearest_0_ok (i := 39) rfl rfl ?_
          refine g_istore_n C tb_X12_nearest_1_ok (i := 0) rfl rfl rfl ?_
          exact g_less (L' := [some (.ref a0), some (.int a1), some (.int v8), some (.int v8)]) ⟨rfl, ⟨rfl, ⟨rfl, ⟨rfl, trivial⟩⟩⟩⟩ (J65 v8 h)
        obtain ⟨t19, f20⟩ := br_e h
        refine g_icmp_eq C tb_X12_nearest_0_ok (i := 23) 63 rfl rfl (fun c => ?_) (fun c => ?_)
        · have h := t19 c
          exact g_less (L' := [some (.ref a0), some (.int a1), none, some (.int v8)]) ⟨rfl, ⟨rfl, ⟨rfl, trivial⟩⟩⟩ (J63 () h)
        · have h := f20 c
          refine g_aload_n C tb_X12_nearest_0_ok (i := 24) rfl rfl ?_
          refine g_aload_n C tb_X12_nearest_0_ok (i := 25) rfl rfl ?_
          obtain ⟨n21, h⟩ := gN_e h
          refine g_getR C tb_X12_nearest_0_ok (i := 26) rfl fl_X12_77 rfl k1 n21 ?_
          refine g_iload_n C tb_X12_nearest_0_ok (i := 27) rfl rfl ?_
          obtain ⟨b22, h⟩ := gA_e h
          refine g_iald C tb_X12_nearest_0_ok (i := 28) rfl b22 ?_
          refine g_iload_n C tb_X12_nearest_0_ok (i := 29) rfl rfl ?_
          obtain ⟨r23, er23, h⟩ := cp_e h
          refine g_callV0 C tb_X12_nearest_0_ok (i := 30) [.int (M2.1 (y.2.1 a0 29) v8.toNatClampNeg), .int a1] rfl mw_X12_farOf mv_X12_farOf ml_X12_360 k1 rfl rfl rfl rfl (w_X12_farOf C.G y a0 (M2.1 (y.2.1 a0 29) v8.toNatClampNeg) a1 M2) (pm_s er23) rfl rfl rfl ?_
          refine g_aload_n C tb_X12_nearest_0_ok (i := 31) rfl rfl ?_
          refine g_aload_n C tb_X12_nearest_0_ok (i := 32) rfl rfl ?_
          refine g_getR C tb_X12_nearest_0_ok (i := 33) rfl fl_X12_77 rfl k1 n21 ?_
          refine g_iload_n C tb_X12_nearest_0_ok (i := 34) rfl rfl ?_
          obtain ⟨b24, h⟩ := gA_e h
          refine g_iald C tb_X12_nearest_0_ok (i := 35) rfl b24 ?_
          refine g_iload_n C tb_X12_nearest_0_ok (i := 36) rfl rfl ?_
          obtain ⟨r25, er25, h⟩ := cp_e h
          refine g_callV0 C tb_X12_nearest_0_ok (i := 37) [.int (M2.1 (y.2.1 a0 29) v7.toNatClampNeg), .int a1] rfl mw_X12_farOf mv_X12_farOf ml_X12_360 k1 rfl rfl rfl rfl (w_X12_farOf C.G y a0 (M2.1 (y.2.1 a0 29) v7.toNatClampNeg) a1 M2) (pm_s er25) rfl rfl rfl ?_
          obtain ⟨t26, f27⟩ := br_e h
          refine g_icmp_ge C tb_X12_nearest_0_ok (i := 38) 65 rfl rfl (fun c => ?_) (fun c => ?_)
          · have h := t26 c
            exact g_less (L' := [some (.ref a0), some (.int a1), some (.int v7), some (.int v8)]) ⟨rfl, ⟨rfl, ⟨rfl, ⟨rfl, trivial⟩⟩⟩⟩ (J65 v7 h)
          · have h := f27 c
            exact g_less (L' := [some (.ref a0), some (.int a1), none, some (.int v8)]) ⟨rfl, ⟨rfl, ⟨rfl, trivial⟩⟩⟩ (J63 () h)
  · have h := t4 c
    refine g_aload_n C tb_X12_nearest_0_ok (i := 7) rfl rfl ?_
    refine g_iconstv C tb_X12_nearest_0_ok (i := 8) 1 rfl k_iconstv_1 ?_
    obtain ⟨r28, M29, er28, h⟩ := c0_e h
    refine g_callV0 C tb_X12_nearest_0_ok (i := 9) [.int (1 : Int32)] rfl mw_X12_fail mv_X12_fail ml_X12_318 k1 rfl rfl rfl rfl (w_X12_fail C.G y a0 (1 : Int32) M2) er28 rfl rfl rfl ?_
    cases h
    exact g_iret0 C R tb_X12_nearest_0_ok (i := 10) rfl
def f_X12_with (y : Lay) (a0 : Nat) (a1 : Int32) (a2 : Int32) (a3 : Int32) (M : Mem) : Option Int32 := gK y a0 (0, 12) (gN (y.2.1 a0 29) (gA y (y.2.1 a0 29) 1 a3 (gN (y.2.1 a0 45) (gA y (y.2.1 a0 45) 1 a1 (cp (f_X12_farOf y a0 (M.1 (y.2.1 a0 29) a3.toNatClampNeg) (M.1 (y.2.1 a0 45) a1.toNatClampNeg) M) fun (r6 : Int32) => gN (y.2.1 a0 44) (gA y (y.2.1 a0 44) 1 (((a1 + (1 : Int32)) <<< ((6 : Int32) &&& 31)) + (a2 ||| ((1 : Int32) <<< (a3 &&& 31)))) (some (r6 + (M.1 (y.2.1 a0 44) (((a1 + (1 : Int32)) <<< ((6 : Int32) &&& 31)) + (a2 ||| ((1 : Int32) <<< (a3 &&& 31)))).toNatClampNeg)))))))))
theorem w_X12_with {g : GX} {l : Launch} (hG : GF g l) (y : Lay) (a0 : Nat) (a1 : Int32) (a2 : Int32) (a3 : Int32) (M : Mem) : C0 g l yX12_with cX12_with 4 (some .int) 2 y [.ref a0, .int a1, .int a2, .int a3] M (pm M (f_X12_with y a0 a1 a2 a3 M)) := by
  refine CP_of hG (by decide) [some (.ref a0), some (.int a1), some (.int a2), some (.int a3)] rfl rfl (fun out h x Q C R => ?_)
  unfold f_X12_with at h
  refine g_aload_n C tb_X12_with_0_ok (i := 0) rfl rfl ?_
  refine g_aload_n C tb_X12_with_0_ok (i := 1) rfl rfl ?_
  obtain ⟨k1, h⟩ := gK_e h
  obtain ⟨n2, h⟩ := gN_e h
  refine g_getR C tb_X12_with_0_ok (i := 2) rfl fl_X12_77 rfl k1 n2 ?_
  refine g_iload_n C tb_X12_with_0_ok (i := 3) rfl rfl ?_
  obtain ⟨b3, h⟩ := gA_e h
  refine g_iald C tb_X12_with_0_ok (i := 4) rfl b3 ?_
  refine g_aload_n C tb_X12_with_0_ok (i := 5) rfl rfl ?_
  obtain ⟨n4, h⟩ := gN_e h
  refine g_getR C tb_X12_with_0_ok (i := 6) rfl fl_X12_101 rfl k1 n4 ?_
  refine g_iload_n C tb_X12_with_0_ok (i := 7) rfl rfl ?_
  obtain ⟨b5, h⟩ := gA_e h
  refine g_iald C tb_X12_with_0_ok (i := 8) rfl b5 ?_
  obtain ⟨r6, er6, h⟩ := cp_e h
  refine g_callV0 C tb_X12_with_0_ok (i := 9) [.int (M.1 (y.2.1 a0 29) a3.toNatClampNeg), .int (M.1 (y.2.1 a0 45) a1.toNatClampNeg)] rfl mw_X12_farOf mv_X12_farOf ml_X12_360 k1 rfl rfl rfl rfl (w_X12_farOf C.G y a0 (M.1 (y.2.1 a0 29) a3.toNatClampNeg) (M.1 (y.2.1 a0 45) a1.toNatClampNeg) M) (pm_s er6) rfl rfl rfl ?_
  refine g_aload_n C tb_X12_with_0_ok (i := 10) rfl rfl ?_
  obtain ⟨n7, h⟩ := gN_e h
  refine g_getR C tb_X12_with_0_ok (i := 11) rfl fl_X12_98 rfl k1 n7 ?_
  refine g_iload_n C tb_X12_with_0_ok (i := 12) rfl rfl ?_
  refine g_iconstv C tb_X12_with_0_ok (i := 13) 1 rfl k_iconstv_1 ?_
  refine g_iadd C tb_X12_with_0_ok (i := 14) rfl ?_
  refine g_bipushv C tb_X12_with_0_ok (i := 15) 6 rfl k_bipushv_6 ?_
  refine g_ishl C tb_X12_with_0_ok (i := 16) rfl ?_
  refine g_iload_n C tb_X12_with_0_ok (i := 17) rfl rfl ?_
  refine g_iconstv C tb_X12_with_0_ok (i := 18) 1 rfl k_iconstv_1 ?_
  refine g_iload_n C tb_X12_with_0_ok (i := 19) rfl rfl ?_
  refine g_ishl C tb_X12_with_0_ok (i := 20) rfl ?_
  refine g_ior C tb_X12_with_0_ok (i := 21) rfl ?_
  refine g_iadd C tb_X12_with_0_ok (i := 22) rfl ?_
  obtain ⟨b8, h⟩ := gA_e h
  refine g_iald C tb_X12_with_0_ok (i := 23) rfl b8 ?_
  refine g_iadd C tb_X12_with_0_ok (i := 24) rfl ?_
  cases h
  exact g_iret0 C R tb_X12_with_0_ok (i := 25) rfl
def f_X12_tellLeast (y : Lay) (a0 : Nat) (a1 : Int32) (M : Mem) : Option (Int32 × Mem) := gK y a0 (0, 12) (gN (y.2.1 a0 5) (gA y (y.2.1 a0 5) 1 (2 : Int32) (lt ((1 : Int32) <<< ((M.1 (y.2.1 a0 5) (2 : Int32).toNatClampNeg) &&& 31)) fun (v4 : Int32) => fixN (fun _ _ => none) (fun (s7 : Int32 → Mem → Option (Int32 × Mem)) (v5 : Int32) (M6 : Mem) => br (v4 ≤ v5) (lt (a1 - (1 : Int32)) fun (v11 : Int32) => fixN (fun _ _ => none) (fun (s14 : Int32 → Mem → Option (Int32 × Mem)) (v12 : Int32) (M13 : Mem) => br (v12 < 0) (some (0, M13)) (fixN (fun _ _ => none) (fun (s20 : Int32 → Mem → Option (Int32 × Mem)) (v18 : Int32) (M19 : Mem) => br (v4 ≤ v18) (lt (v12 + ((-1) : Int32)) fun (v24 : Int32) => s14 v24 M19) (fixN (fun _ _ => none) (fun (s27 : Int32 → Int32 → Option (Int32 × Mem)) (v25 : Int32) (v26 : Int32) => gA y (y.2.1 a0 5) 1 (2 : Int32) (br ((M19.1 (y.2.1 a0 5) (2 : Int32).toNatClampNeg) ≤ v26) (gN (y.2.1 a0 44) (gA y (y.2.1 a0 44) 1 ((v12 <<< ((6 : Int32) &&& 31)) + v18) (lt (wI M19 (y.2.1 a0 44) ((v12 <<< ((6 : Int32) &&& 31)) + v18).toNatClampNeg (jmin (100000 : Int32) v25)) fun (M34 : Mem) => lt (v18 + (1 : Int32)) fun (v35 : Int32) => s20 v35 M34))) (cp (f_X12_isOf y v18 v26 M19) fun (r36 : Int32) => jn (fun (v37 : Int32) => lt (v26 + (1 : Int32)) fun (v39 : Int32) => s27 v37 v39) fun j38 => br (r36 = 0) (cp (f_X12_with y a0 v12 v18 v26 M19) fun (r42 : Int32) => lt (jmin v25 r42) fun (v43 : Int32) => j38 v43) (j38 v25)))) FUEL (100000 : Int32) (0 : Int32))) FUEL (0 : Int32) M13)) FUEL v11 M6) (gN (y.2.1 a0 44) (gA y (y.2.1 a0 44) 1 ((a1 <<< ((6 : Int32) &&& 31)) + v5) (lt (wI M6 (y.2.1 a0 44) ((a1 <<< ((6 : Int32) &&& 31)) + v5).toNatClampNeg (0 : Int32)) fun (M46 : Mem) => lt (v5 + (1 : Int32)) fun (v47 : Int32) => s7 v47 M46)))) FUEL (0 : Int32) M)))
theorem w_X12_tellLeast {g : GX} {l : Launch} (hG : GF g l) (y : Lay) (a0 : Nat) (a1 : Int32) (M : Mem) : C0 g l yX12_tellLeast cX12_tellLeast 7 none 3 y [.ref a0, .int a1] M (f_X12_tellLeast y a0 a1 M) := by
  refine C0_of hG (by decide) [some (.ref a0), some (.int a1), none, none, none, none, none] rfl rfl (fun out h x Q C R => ?_)
  unfold f_X12_tellLeast at h
  refine g_iconstv C tb_X12_tellLeast_0_ok (i := 0) 1 rfl k_iconstv_1 ?_
  refine g_aload_n C tb_X12_tellLeast_0_ok (i := 1) rfl rfl ?_
  obtain ⟨k1, h⟩ := gK_e h
  obtain ⟨n2, h⟩ := gN_e h
  refine g_getR C tb_X12_tellLeast_0_ok (i := 2) rfl fl_X12_40 rfl k1 n2 ?_
  refine g_iconstv C tb_X12_tellLeast_0_ok (i := 3) 2 rfl k_iconstv_2 ?_
  obtain ⟨b3, h⟩ := gA_e h
  refine g_iald C tb_X12_tellLeast_0_ok (i := 4) rfl b3 ?_
  refine g_ishl C tb_X12_tellLeast_0_ok (i := 5) rfl ?_
  refine g_topi (fun v4 ev4 => ?_)
  have h := lt_e ev4 h
  refine g_istore_n C tb_X12_tellLeast_0_ok (i := 6) rfl rfl rfl ?_
  refine g_iconstv C tb_X12_tellLeast_0_ok (i := 7) 0 rfl k_iconstv_0 ?_
  refine g_istore_n C tb_X12_tellLeast_0_ok (i := 8) rfl rfl rfl ?_
  refine g_less (L' := [some (.ref a0), some (.int a1), some (.int v4), some (.int (0 : Int32)), none, none, none]) ⟨rfl, ⟨rfl, ⟨rfl, ⟨rfl, trivial⟩⟩⟩⟩ ?_
  refine fix_i (P := fun (f : Int32 → Mem → Option (Int32 × Mem)) => ∀ (v5 : Int32) (M6 : Mem), f v5 M6 = some out → GG g x 7 Q 0 0 y M6 11 [some (.ref a0), some (.int a1), some (.int v4), some (.int v5), none, none, none] []) ?_ ?_ _ (0 : Int32) M h
  · intro v5 M6 h; exact (nn_e h).elim
  · intro s7 ih8 v5 M6 h
    refine g_iload_n C tb_X12_tellLeast_0_ok (i := 9) rfl rfl ?_
    refine g_iload_n C tb_X12_tellLeast_0_ok (i := 10) rfl rfl ?_
    obtain ⟨t9, f10⟩ := br_e h
    refine g_icmp_ge C tb_X12_tellLeast_0_ok (i := 11) 34 rfl rfl (fun c => ?_) (fun c => ?_)
    · have h := t9 c
      refine g_iload_n C tb_X12_tellLeast_0_ok (i := 23) rfl rfl ?_
      refine g_iconstv C tb_X12_tellLeast_0_ok (i := 24) 1 rfl k_iconstv_1 ?_
      refine g_isub C tb_X12_tellLeast_0_ok (i := 25) rfl ?_
      refine g_topi (fun v11 ev11 => ?_)
      have h := lt_e ev11 h
      refine g_istore_n C tb_X12_tellLeast_0_ok (i := 26) rfl rfl rfl ?_
      refine g_less (L' := [some (.ref a0), none, some (.int v4), some (.int v11), none, none, none]) ⟨rfl, ⟨rfl, ⟨rfl, trivial⟩⟩⟩ ?_
      refine fix_i (P := fun (f : Int32 → Mem → Option (Int32 × Mem)) => ∀ (v12 : Int32) (M13 : Mem), f v12 M13 = some out → GG g x 7 Q 0 0 y M13 38 [some (.ref a0), none, some (.int v4), some (.int v12), none, none, none] []) ?_ ?_ _ v11 M6 h
      · intro v12 M13 h; exact (nn_e h).elim
      · intro s14 ih15 v12 M13 h
        refine g_iload_n C tb_X12_tellLeast_0_ok (i := 27) rfl rfl ?_
        obtain ⟨t16, f17⟩ := br_e h
        refine g_if_lt C tb_X12_tellLeast_0_ok (i := 28) 132 rfl rfl (fun c => ?_) (fun c => ?_)
        · have h := t16 c
          cases h
          exact g_vret0 C R tb_X12_tellLeast_1_ok (i := 33) rfl
        · have h := f17 c
          refine g_iconstv C tb_X12_tellLeast_0_ok (i := 29) 0 rfl k_iconstv_0 ?_
          refine g_istore C tb_X12_tellLeast_0_ok (i := 30) rfl rfl rfl ?_
          refine g_less (L' := [some (.ref a0), none, some (.int v4), some (.int v12), some (.int (0 : Int32)), none, none]) ⟨rfl, ⟨rfl, ⟨rfl, ⟨rfl, trivial⟩⟩⟩⟩ ?_
          refine fix_i (P := fun (f : Int32 → Mem → Option (Int32 × Mem)) => ∀ (v18 : Int32) (M19 : Mem), f v18 M19 = some out → GG g x 7 Q 0 0 y M19 45 [some (.ref a0), none, some (.int v4), some (.int v12), some (.int v18), none, none] []) ?_ ?_ _ (0 : Int32) M13 h
          · intro v18 M19 h; exact (nn_e h).elim
          · intro s20 ih21 v18 M19 h
            refine g_iload C tb_X12_tellLeast_0_ok (i := 31) rfl rfl ?_
            refine g_iload_n C tb_X12_tellLeast_0_ok (i := 32) rfl rfl ?_
            obtain ⟨t22, f23⟩ := br_e h
            refine g_icmp_ge C tb_X12_tellLeast_0_ok (i := 33) 126 rfl rfl (fun c => ?_) (fun c => ?_)
            · have h := t22 c
              obtain ⟨v24, ev24⟩ : ∃ w : Int32, w = v12 + ((-1) : Int32) := ⟨_, rfl⟩
              have h := lt_e ev24 h
              refine g_iincv C tb_X12_tellLeast_1_ok (i := 31) ((-1) : Int32) ev24 rfl rfl k_iconstv_m1 rfl rfl ?_
              refine g_goto C tb_X12_tellLeast_1_ok (i := 32) 38 rfl rfl ?_
              exact g_less (L' := [some (.ref a0), none, some (.int v4), some (.int v24), none, none, none]) ⟨rfl, ⟨rfl, ⟨rfl, trivial⟩⟩⟩ (ih15 v24 M19 h)
            · have h := f23 c
              refine g_ldcI C tb_X12_tellLeast_0_ok (i := 34) rfl cl_X12_190 ?_
              refine g_istore C tb_X12_tellLeast_0_ok (i := 35) rfl rfl rfl ?_
              refine g_iconstv C tb_X12_tellLeast_0_ok (i := 36) 0 rfl k_iconstv_0 ?_
              refine g_istore C tb_X12_tellLeast_0_ok (i := 37) rfl rfl rfl ?_
              refine g_less (L' := [some (.ref a0), none, some (.int v4), some (.int v12), some (.int v18), some (.int (100000 : Int32)), some (.int (0 : Int32))]) ⟨rfl, ⟨rfl, ⟨rfl, ⟨rfl, ⟨rfl, ⟨rfl, trivial⟩⟩⟩⟩⟩⟩ ?_
              refine fix_i (P := fun (f : Int32 → Int32 → Option (Int32 × Mem)) => ∀ (v25 : Int32) (v26 : Int32), f v25 v26 = some out → GG g x 7 Q 0 0 y M19 58 [some (.ref a0), none, some (.int v4), some (.int v12), some (.int v18), some (.int v25), some (.int v26)] []) ?_ ?_ _ (100000 : Int32) (0 : Int32) h
              · intro v25 v26 h; exact (nn_e h).elim
              · intro s27 ih28 v25 v26 h
                refine g_iload C tb_X12_tellLeast_0_ok (i := 38) rfl rfl ?_
                refine g_aload_n C tb_X12_tellLeast_0_ok (i := 39) rfl rfl ?_
                refine g_getR C tb_X12_tellLeast_1_ok (i := 0) rfl fl_X12_40 rfl k1 n2 ?_
                refine g_iconstv C tb_X12_tellLeast_1_ok (i := 1) 2 rfl k_iconstv_2 ?_
                obtain ⟨b29, h⟩ := gA_e h
                refine g_iald C tb_X12_tellLeast_1_ok (i := 2) rfl b29 ?_
                obtain ⟨t30, f31⟩ := br_e h
                refine g_icmp_ge C tb_X12_tellLeast_1_ok (i := 3) 101 rfl rfl (fun c => ?_) (fun c => ?_)
                · have h := t30 c
                  refine g_aload_n C tb_X12_tellLeast_1_ok (i := 18) rfl rfl ?_
                  obtain ⟨n32, h⟩ := gN_e h
                  refine g_getR C tb_X12_tellLeast_1_ok (i := 19) rfl fl_X12_98 rfl k1 n32 ?_
                  refine g_iload_n C tb_X12_tellLeast_1_ok (i := 20) rfl rfl ?_
                  refine g_bipushv C tb_X12_tellLeast_1_ok (i := 21) 6 rfl k_bipushv_6 ?_
                  refine g_ishl C tb_X12_tellLeast_1_ok (i := 22) rfl ?_
                  refine g_iload C tb_X12_tellLeast_1_ok (i := 23) rfl rfl ?_
                  refine g_iadd C tb_X12_tellLeast_1_ok (i := 24) rfl ?_
                  refine g_ldcI C tb_X12_tellLeast_1_ok (i := 25) rfl cl_X12_190 ?_
                  refine g_iload C tb_X12_tellLeast_1_ok (i := 26) rfl rfl ?_
                  refine g_min C tb_X12_tellLeast_1_ok (i := 27) rfl mt_X12_191 rfl rfl rfl ?_
                  obtain ⟨b33, h⟩ := gA_e h
                  refine g_iast C tb_X12_tellLeast_1_ok (i := 28) rfl b33 ?_
                  refine g_mem (fun M34 eM34 => ?_)
                  have h := lt_e eM34 h
                  obtain ⟨v35, ev35⟩ : ∃ w : Int32, w = v18 + (1 : Int32) := ⟨_, rfl⟩
                  have h := lt_e ev35 h
                  refine g_iincv C tb_X12_tellLeast_1_ok (i := 29) (1 : Int32) ev35 rfl rfl k_iconstv_1 rfl rfl ?_
                  refine g_goto C tb_X12_tellLeast_1_ok (i := 30) 45 rfl rfl ?_
                  exact g_less (L' := [some (.ref a0), none, some (.int v4), some (.int v12), some (.int v35), none, none]) ⟨rfl, ⟨rfl, ⟨rfl, ⟨rfl, trivial⟩⟩⟩⟩ (ih21 v35 M34 h)
                · have h := f31 c
                  refine g_iload C tb_X12_tellLeast_1_ok (i := 4) rfl rfl ?_
                  refine g_iload C tb_X12_tellLeast_1_ok (i := 5) rfl rfl ?_
                  obtain ⟨r36, er36, h⟩ := cp_e h
                  refine g_callS0 C tb_X12_tellLeast_1_ok (i := 6) [.int v18, .int v26] rfl mw_X12_isOf mst_X12_isOf ml_X12_232 rfl rfl rfl rfl (w_X12_isOf C.G y v18 v26 M19) (pm_s er36) rfl rfl rfl ?_
                  obtain ⟨j38, ej38, h⟩ := jn_e h
                  have J95 : ∀ (v37 : Int32), j38 v37 = some out → GG g x 7 Q 0 0 y M19 95 [some (.ref a0), none, some (.int v4), some (.int v12), some (.int v18), some (.int v37), some (.int v26)] [] := by
                    intro v37 h; subst ej38
                    obtain ⟨v39, ev39⟩ : ∃ w : Int32, w = v26 + (1 : Int32) := ⟨_, rfl⟩
                    have h := lt_e ev39 h
                    refine g_iincv C tb_X12_tellLeast_1_ok (i := 16) (1 : Int32) ev39 rfl rfl k_iconstv_1 rfl rfl ?_
                    refine g_goto C tb_X12_tellLeast_1_ok (i := 17) 58 rfl rfl ?_
                    exact g_less (L' := [some (.ref a0), none, some (.int v4), some (.int v12), some (.int v18), some (.int v37), some (.int v39)]) ⟨rfl, ⟨rfl, ⟨rfl, ⟨rfl, ⟨rfl, ⟨rfl, trivial⟩⟩⟩⟩⟩⟩ (ih28 v37 v39 h)
                  obtain ⟨t40, f41⟩ := br_e h
                  refine g_if_ne C tb_X12_tellLeast_1_ok (i := 7) 95 rfl rfl (fun c => ?_) (fun c => ?_)
                  · have h := f41 c
                    exact g_less (L' := [some (.ref a0), none, some (.int v4), some (.int v12), some (.int v18), some (.int v25), some (.int v26)]) ⟨rfl, ⟨rfl, ⟨rfl, ⟨rfl, ⟨rfl, ⟨rfl, trivial⟩⟩⟩⟩⟩⟩ (J95 v25 h)
                  · have h := t40 c
                    refine g_iload C tb_X12_tellLeast_1_ok (i := 8) rfl rfl ?_
                    refine g_aload_n C tb_X12_tellLeast_1_ok (i := 9) rfl rfl ?_
                    refine g_iload_n C tb_X12_tellLeast_1_ok (i := 10) rfl rfl ?_
                    refine g_iload C tb_X12_tellLeast_1_ok (i := 11) rfl rfl ?_
                    refine g_iload C tb_X12_tellLeast_1_ok (i := 12) rfl rfl ?_
                    obtain ⟨r42, er42, h⟩ := cp_e h
                    refine g_callV0 C tb_X12_tellLeast_1_ok (i := 13) [.int v12, .int v18, .int v26] rfl mw_X12_with mv_X12_with ml_X12_466 k1 rfl rfl rfl rfl (w_X12_with C.G y a0 v12 v18 v26 M19) (pm_s er42) rfl rfl rfl ?_
                    refine g_min C tb_X12_tellLeast_1_ok (i := 14) rfl mt_X12_191 rfl rfl rfl ?_
                    refine g_topi (fun v43 ev43 => ?_)
                    have h := lt_e ev43 h
                    refine g_istore C tb_X12_tellLeast_1_ok (i := 15) rfl rfl rfl ?_
                    exact g_less (L' := [some (.ref a0), none, some (.int v4), some (.int v12), some (.int v18), some (.int v43), some (.int v26)]) ⟨rfl, ⟨rfl, ⟨rfl, ⟨rfl, ⟨rfl, ⟨rfl, trivial⟩⟩⟩⟩⟩⟩ (J95 v43 h)
    · have h := f10 c
      refine g_aload_n C tb_X12_tellLeast_0_ok (i := 12) rfl rfl ?_
      obtain ⟨n44, h⟩ := gN_e h
      refine g_getR C tb_X12_tellLeast_0_ok (i := 13) rfl fl_X12_98 rfl k1 n44 ?_
      refine g_iload_n C tb_X12_tellLeast_0_ok (i := 14) rfl rfl ?_
      refine g_bipushv C tb_X12_tellLeast_0_ok (i := 15) 6 rfl k_bipushv_6 ?_
      refine g_ishl C tb_X12_tellLeast_0_ok (i := 16) rfl ?_
      refine g_iload_n C tb_X12_tellLeast_0_ok (i := 17) rfl rfl ?_
      refine g_iadd C tb_X12_tellLeast_0_ok (i := 18) rfl ?_
      refine g_iconstv C tb_X12_tellLeast_0_ok (i := 19) 0 rfl k_iconstv_0 ?_
      obtain ⟨b45, h⟩ := gA_e h
      refine g_iast C tb_X12_tellLeast_0_ok (i := 20) rfl b45 ?_
      refine g_mem (fun M46 eM46 => ?_)
      have h := lt_e eM46 h
      obtain ⟨v47, ev47⟩ : ∃ w : Int32, w = v5 + (1 : Int32) := ⟨_, rfl⟩
      have h := lt_e ev47 h
      refine g_iincv C tb_X12_tellLeast_0_ok (i := 21) (1 : Int32) ev47 rfl rfl k_iconstv_1 rfl rfl ?_
      refine g_goto C tb_X12_tellLeast_0_ok (i := 22) 11 rfl rfl ?_
      exact g_less (L' := [some (.ref a0), some (.int a1), some (.int v4), some (.int v47), none, none, none]) ⟨rfl, ⟨rfl, ⟨rfl, ⟨rfl, trivial⟩⟩⟩⟩ (ih8 v47 M46 h)
def f_X12_sent (y : Lay) (a0 : Nat) (a1 : Int32) (a2 : Int32) (M : Mem) : Option (Int32 × Mem) := gK y a0 (0, 12) (lt (wI M a0 4 (0 : Int32)) fun (M2 : Mem) => cp (f_X12_cells y a0 M2) fun (r3 : Int32) => cp (f_X12_isIn y (a1.toInt64) (0 : Int64) (((1 : Int64) <<< (r3.toInt64 &&& 63)) - (1 : Int64)) M2) fun (r4 : Int32) => jn (fun (_u : Unit) => c0 (f_X12_fail y a0 (2 : Int32) M2) fun (r6 : Int32) (M7 : Mem) => some (r6, M7)) fun j5 => br (r4 = 0) (j5 ()) (cp (f_X12_bitsOf y a1 M2) fun (r10 : Int32) => br (r10 ≤ (6 : Int32)) (jn (fun (_u : Unit) => fixN (fun _ _ _ => none) (fun (s17 : Int32 → Int32 → Mem → Option (Int32 × Mem)) (v14 : Int32) (v15 : Int32) (M16 : Mem) => cp (f_X12_cells y a0 M16) fun (r19 : Int32) => br (r19 ≤ v15) (gN (y.2.1 a0 5) (gA y (y.2.1 a0 5) 1 (2 : Int32) (br (v14 ≤ (M16.1 (y.2.1 a0 5) (2 : Int32).toNatClampNeg)) (c0 (f_X12_tellLeast y a0 v14 M16) fun (r26 : Int32) (M27 : Mem) => br (a2 = ((-1) : Int32)) (gN (y.2.1 a0 44) (gA y (y.2.1 a0 44) 1 (0 : Int32) (some ((M27.1 (y.2.1 a0 44) (0 : Int32).toNatClampNeg), M27)))) (fixN (fun _ _ => none) (fun (s32 : Int32 → Int32 → Option (Int32 × Mem)) (v30 : Int32) (v31 : Int32) => br (v14 ≤ v31) (some (((-1) : Int32), M27)) (lt ((-1) : Int32) fun (v36 : Int32) => gA y (y.2.1 a0 5) 1 (2 : Int32) (lt ((M27.1 (y.2.1 a0 5) (2 : Int32).toNatClampNeg) - (1 : Int32)) fun (v38 : Int32) => fixN (fun _ _ => none) (fun (s41 : Int32 → Int32 → Option (Int32 × Mem)) (v39 : Int32) (v40 : Int32) => br (v40 < 0) (gN (y.2.1 a0 45) (gA y (y.2.1 a0 45) 1 v31 (br ((M27.1 (y.2.1 a0 45) v31.toNatClampNeg) = a2) (some (v39, M27)) (lt (v30 ||| ((1 : Int32) <<< (v39 &&& 31))) fun (v49 : Int32) => lt (v31 + (1 : Int32)) fun (v50 : Int32) => s32 v49 v50)))) (cp (f_X12_isOf y v30 v40 M27) fun (r51 : Int32) => jn (fun (v52 : Int32) => lt (v40 + ((-1) : Int32)) fun (v54 : Int32) => s41 v52 v54) fun j53 => br (r51 = 0) (cp (f_X12_with y a0 v31 v30 v40 M27) fun (r57 : Int32) => gN (y.2.1 a0 44) (gA y (y.2.1 a0 44) 1 ((v31 <<< ((6 : Int32) &&& 31)) + v30) (br (r57 = (M27.1 (y.2.1 a0 44) ((v31 <<< ((6 : Int32) &&& 31)) + v30).toNatClampNeg)) (j53 v40) (j53 v39)))) (j53 v39))) FUEL v36 v38))) FUEL (0 : Int32) (0 : Int32))) (some (((-2) : Int32), M16))))) (cp (f_X12_isOf y a1 v15 M16) fun (r64 : Int32) => jn (fun (v65 : Int32) (M66 : Mem) => lt (v15 + (1 : Int32)) fun (v68 : Int32) => s17 v65 v68 M66) fun j67 => br (r64 = 0) (j67 v14 M16) (gN (y.2.1 a0 45) (gA y (y.2.1 a0 45) 1 v14 (lt (wI M16 (y.2.1 a0 45) v14.toNatClampNeg v15) fun (M73 : Mem) => lt (v14 + (1 : Int32)) fun (v74 : Int32) => j67 v74 M73))))) FUEL (0 : Int32) (0 : Int32) M2) fun j13 => br (a2 = ((-1) : Int32)) (j13 ()) (cp (f_X12_isCell y a0 a2 M2) fun (r77 : Int32) => jn (fun (_u : Unit) => c0 (f_X12_fail y a0 (1 : Int32) M2) fun (r79 : Int32) (M80 : Mem) => some (r79, M80)) fun j78 => br (r77 = 0) (j78 ()) (cp (f_X12_isOf y a1 a2 M2) fun (r83 : Int32) => br (r83 = 0) (j78 ()) (j13 ())))) (j5 ())))
theorem w_X12_sent {g : GX} {l : Launch} (hG : GF g l) (y : Lay) (a0 : Nat) (a1 : Int32) (a2 : Int32) (M : Mem) : C0 g l yX12_sent cX12_sent 8 (some .int) 4 y [.ref a0, .int a1, .int a2] M (f_X12_sent y a0 a1 a2 M) := by
  refine C0_of hG (by decide) [some (.ref a0), some (.int a1), some (.int a2), none, none, none, none, none] rfl rfl (fun out h x Q C R => ?_)
  unfold f_X12_sent at h
  refine g_aload_n C tb_X12_sent_0_ok (i := 0) rfl rfl ?_
  refine g_iconstv C tb_X12_sent_0_ok (i := 1) 0 rfl k_iconstv_0 ?_
  obtain ⟨k1, h⟩ := gK_e h
  refine g_putI C tb_X12_sent_0_ok (i := 2) rfl fl_X12_150 ft_12_4 rfl k1 ?_
  refine g_mem (fun M2 eM2 => ?_)
  have h := lt_e eM2 h
  refine g_iload_n C tb_X12_sent_0_ok (i := 3) rfl rfl ?_
  refine g_i2l C tb_X12_sent_0_ok (i := 4) rfl ?_
  refine g_lconst C tb_X12_sent_0_ok (i := 5) 0 rfl rfl ?_
  refine g_lconst C tb_X12_sent_0_ok (i := 6) 1 rfl rfl ?_
  refine g_aload_n C tb_X12_sent_0_ok (i := 7) rfl rfl ?_
  obtain ⟨r3, er3, h⟩ := cp_e h
  refine g_callV0 C tb_X12_sent_0_ok (i := 8) [] rfl mw_X12_cells mv_X12_cells ml_X12_153 k1 rfl rfl rfl rfl (w_X12_cells C.G y a0 M2) (pm_s er3) rfl rfl rfl ?_
  refine g_lshl C tb_X12_sent_0_ok (i := 9) rfl ?_
  refine g_lconst C tb_X12_sent_0_ok (i := 10) 1 rfl rfl ?_
  refine g_lsub C tb_X12_sent_0_ok (i := 11) rfl ?_
  obtain ⟨r4, er4, h⟩ := cp_e h
  refine g_callS0 C tb_X12_sent_0_ok (i := 12) [.long (a1.toInt64), .long (0 : Int64), .long (((1 : Int64) <<< (r3.toInt64 &&& 63)) - (1 : Int64))] rfl mw_X12_isIn mst_X12_isIn ml_X12_157 rfl rfl rfl rfl (w_X12_isIn C.G y (a1.toInt64) (0 : Int64) (((1 : Int64) <<< (r3.toInt64 &&& 63)) - (1 : Int64)) M2) (pm_s er4) rfl rfl rfl ?_
  obtain ⟨j5, ej5, h⟩ := jn_e h
  have J31 : ∀ (_u : Unit), j5 _u = some out → GG g x 8 Q 0 0 y M2 31 [some (.ref a0), none, none, none, none, none, none, none] [] := by
    intro _u h; subst ej5
    refine g_aload_n C tb_X12_sent_0_ok (i := 18) rfl rfl ?_
    refine g_iconstv C tb_X12_sent_0_ok (i := 19) 2 rfl k_iconstv_2 ?_
    obtain ⟨r6, M7, er6, h⟩ := c0_e h
    refine g_callV0 C tb_X12_sent_0_ok (i := 20) [.int (2 : Int32)] rfl mw_X12_fail mv_X12_fail ml_X12_318 k1 rfl rfl rfl rfl (w_X12_fail C.G y a0 (2 : Int32) M2) er6 rfl rfl rfl ?_
    cases h
    exact g_iret0 C R tb_X12_sent_0_ok (i := 21) rfl
  obtain ⟨t8, f9⟩ := br_e h
  refine g_if_eq C tb_X12_sent_0_ok (i := 13) 31 rfl rfl (fun c => ?_) (fun c => ?_)
  · have h := t8 c
    exact g_less (L' := [some (.ref a0), none, none, none, none, none, none, none]) ⟨rfl, trivial⟩ (J31 () h)
  · have h := f9 c
    refine g_iload_n C tb_X12_sent_0_ok (i := 14) rfl rfl ?_
    obtain ⟨r10, er10, h⟩ := cp_e h
    refine g_callS0 C tb_X12_sent_0_ok (i := 15) [.int a1] rfl mw_X12_bitsOf mst_X12_bitsOf ml_X12_396 rfl rfl rfl rfl (w_X12_bitsOf C.G y a1 M2) (pm_s er10) rfl rfl rfl ?_
    refine g_bipushv C tb_X12_sent_0_ok (i := 16) 6 rfl k_bipushv_6 ?_
    obtain ⟨t11, f12⟩ := br_e h
    refine g_icmp_le C tb_X12_sent_0_ok (i := 17) 37 rfl rfl (fun c => ?_) (fun c => ?_)
    · have h := t11 c
      refine g_iload_n C tb_X12_sent_0_ok (i := 22) rfl rfl ?_
      refine g_iconstv C tb_X12_sent_0_ok (i := 23) (-1) rfl k_iconstv_m1 ?_
      obtain ⟨j13, ej13, h⟩ := jn_e h
      have J64 : ∀ (_u : Unit), j13 _u = some out → GG g x 8 Q 0 0 y M2 64 [some (.ref a0), some (.int a1), some (.int a2), none, none, none, none, none] [] := by
        intro _u h; subst ej13
        refine g_iconstv C tb_X12_sent_0_ok (i := 37) 0 rfl k_iconstv_0 ?_
        refine g_istore_n C tb_X12_sent_0_ok (i := 38) rfl rfl rfl ?_
        refine g_iconstv C tb_X12_sent_0_ok (i := 39) 0 rfl k_iconstv_0 ?_
        refine g_istore C tb_X12_sent_1_ok (i := 0) rfl rfl rfl ?_
        refine g_less (L' := [some (.ref a0), some (.int a1), some (.int a2), some (.int (0 : Int32)), some (.int (0 : Int32)), none, none, none]) ⟨rfl, ⟨rfl, ⟨rfl, ⟨rfl, ⟨rfl, trivial⟩⟩⟩⟩⟩ ?_
        refine fix_i (P := fun (f : Int32 → Int32 → Mem → Option (Int32 × Mem)) => ∀ (v14 : Int32) (v15 : Int32) (M16 : Mem), f v14 v15 M16 = some out → GG g x 8 Q 0 0 y M16 69 [some (.ref a0), some (.int a1), some (.int a2), some (.int v14), some (.int v15), none, none, none] []) ?_ ?_ _ (0 : Int32) (0 : Int32) M2 h
        · intro v14 v15 M16 h; exact (nn_e h).elim
        · intro s17 ih18 v14 v15 M16 h
          refine g_iload C tb_X12_sent_1_ok (i := 1) rfl rfl ?_
          refine g_aload_n C tb_X12_sent_1_ok (i := 2) rfl rfl ?_
          obtain ⟨r19, er19, h⟩ := cp_e h
          refine g_callV0 C tb_X12_sent_1_ok (i := 3) [] rfl mw_X12_cells mv_X12_cells ml_X12_153 k1 rfl rfl rfl rfl (w_X12_cells C.G y a0 M16) (pm_s er19) rfl rfl rfl ?_
          obtain ⟨t20, f21⟩ := br_e h
          refine g_icmp_ge C tb_X12_sent_1_ok (i := 4) 107 rfl rfl (fun c => ?_) (fun c => ?_)
          · have h := t20 c
            refine g_iload_n C tb_X12_sent_1_ok (i := 18) rfl rfl ?_
            refine g_aload_n C tb_X12_sent_1_ok (i := 19) rfl rfl ?_
            obtain ⟨n22, h⟩ := gN_e h
            refine g_getR C tb_X12_sent_1_ok (i := 20) rfl fl_X12_40 rfl k1 n22 ?_
            refine g_iconstv C tb_X12_sent_1_ok (i := 21) 2 rfl k_iconstv_2 ?_
            obtain ⟨b23, h⟩ := gA_e h
            refine g_iald C tb_X12_sent_1_ok (i := 22) rfl b23 ?_
            obtain ⟨t24, f25⟩ := br_e h
            refine g_icmp_le C tb_X12_sent_1_ok (i := 23) 120 rfl rfl (fun c => ?_) (fun c => ?_)
            · have h := t24 c
              refine g_aload_n C tb_X12_sent_1_ok (i := 26) rfl rfl ?_
              refine g_iload_n C tb_X12_sent_1_ok (i := 27) rfl rfl ?_
              obtain ⟨r26, M27, er26, h⟩ := c0_e h
              refine g_callV0 C tb_X12_sent_1_ok (i := 28) [.int v14] rfl mw_X12_tellLeast mv_X12_tellLeast ml_X12_469 k1 rfl rfl rfl rfl (w_X12_tellLeast C.G y a0 v14 M16) er26 rfl rfl rfl ?_
              refine g_iload_n C tb_X12_sent_1_ok (i := 29) rfl rfl ?_
              refine g_iconstv C tb_X12_sent_1_ok (i := 30) (-1) rfl k_iconstv_m1 ?_
              obtain ⟨t28, f29⟩ := br_e h
              refine g_icmp_ne C tb_X12_sent_1_ok (i := 31) 137 rfl rfl (fun c => ?_) (fun c => ?_)
              · have h := f29 c
                refine g_iconstv C tb_X12_sent_1_ok (i := 37) 0 rfl k_iconstv_0 ?_
                refine g_istore C tb_X12_sent_1_ok (i := 38) rfl rfl rfl ?_
                refine g_iconstv C tb_X12_sent_1_ok (i := 39) 0 rfl k_iconstv_0 ?_
                refine g_istore C tb_X12_sent_2_ok (i := 0) rfl rfl rfl ?_
                refine g_less (L' := [some (.ref a0), none, some (.int a2), some (.int v14), some (.int (0 : Int32)), some (.int (0 : Int32)), none, none]) ⟨rfl, ⟨rfl, ⟨rfl, ⟨rfl, ⟨rfl, trivial⟩⟩⟩⟩⟩ ?_
                refine fix_i (P := fun (f : Int32 → Int32 → Option (Int32 × Mem)) => ∀ (v30 : Int32) (v31 : Int32), f v30 v31 = some out → GG g x 8 Q 0 0 y M27 143 [some (.ref a0), none, some (.int a2), some (.int v14), some (.int v30), some (.int v31), none, none] []) ?_ ?_ _ (0 : Int32) (0 : Int32) h
                · intro v30 v31 h; exact (nn_e h).elim
                · intro s32 ih33 v30 v31 h
                  refine g_iload C tb_X12_sent_2_ok (i := 1) rfl rfl ?_
                  refine g_iload_n C tb_X12_sent_2_ok (i := 2) rfl rfl ?_
                  obtain ⟨t34, f35⟩ := br_e h
                  refine g_icmp_ge C tb_X12_sent_2_ok (i := 3) 242 rfl rfl (fun c => ?_) (fun c => ?_)
                  · have h := t34 c
                    refine g_iconstv C tb_X12_sent_3_ok (i := 13) (-1) rfl k_iconstv_m1 ?_
                    cases h
                    exact g_iret0 C R tb_X12_sent_3_ok (i := 14) rfl
                  · have h := f35 c
                    refine g_iconstv C tb_X12_sent_2_ok (i := 4) (-1) rfl k_iconstv_m1 ?_
                    refine g_topi (fun v36 ev36 => ?_)
                    have h := lt_e ev36 h
                    refine g_istore C tb_X12_sent_2_ok (i := 5) rfl rfl rfl ?_
                    refine g_aload_n C tb_X12_sent_2_ok (i := 6) rfl rfl ?_
                    refine g_getR C tb_X12_sent_2_ok (i := 7) rfl fl_X12_40 rfl k1 n22 ?_
                    refine g_iconstv C tb_X12_sent_2_ok (i := 8) 2 rfl k_iconstv_2 ?_
                    obtain ⟨b37, h⟩ := gA_e h
                    refine g_iald C tb_X12_sent_2_ok (i := 9) rfl b37 ?_
                    refine g_iconstv C tb_X12_sent_2_ok (i := 10) 1 rfl k_iconstv_1 ?_
                    refine g_isub C tb_X12_sent_2_ok (i := 11) rfl ?_
                    refine g_topi (fun v38 ev38 => ?_)
                    have h := lt_e ev38 h
                    refine g_istore C tb_X12_sent_2_ok (i := 12) rfl rfl rfl ?_
                    refine g_less (L' := [some (.ref a0), none, some (.int a2), some (.int v14), some (.int v30), some (.int v31), some (.int v36), some (.int v38)]) ⟨rfl, ⟨rfl, ⟨rfl, ⟨rfl, ⟨rfl, ⟨rfl, ⟨rfl, trivial⟩⟩⟩⟩⟩⟩⟩ ?_
                    refine fix_i (P := fun (f : Int32 → Int32 → Option (Int32 × Mem)) => ∀ (v39 : Int32) (v40 : Int32), f v39 v40 = some out → GG g x 8 Q 0 0 y M27 162 [some (.ref a0), none, some (.int a2), some (.int v14), some (.int v30), some (.int v31), some (.int v39), some (.int v40)] []) ?_ ?_ _ v36 v38 h
                    · intro v39 v40 h; exact (nn_e h).elim
                    · intro s41 ih42 v39 v40 h
                      refine g_iload C tb_X12_sent_2_ok (i := 13) rfl rfl ?_
                      obtain ⟨t43, f44⟩ := br_e h
                      refine g_if_lt C tb_X12_sent_2_ok (i := 14) 213 rfl rfl (fun c => ?_) (fun c => ?_)
                      · have h := t43 c
                        refine g_aload_n C tb_X12_sent_2_ok (i := 37) rfl rfl ?_
                        obtain ⟨n45, h⟩ := gN_e h
                        refine g_getR C tb_X12_sent_2_ok (i := 38) rfl fl_X12_101 rfl k1 n45 ?_
                        refine g_iload C tb_X12_sent_2_ok (i := 39) rfl rfl ?_
                        obtain ⟨b46, h⟩ := gA_e h
                        refine g_iald C tb_X12_sent_3_ok (i := 0) rfl b46 ?_
                        refine g_iload_n C tb_X12_sent_3_ok (i := 1) rfl rfl ?_
                        obtain ⟨t47, f48⟩ := br_e h
                        refine g_icmp_ne C tb_X12_sent_3_ok (i := 2) 227 rfl rfl (fun c => ?_) (fun c => ?_)
                        · have h := f48 c
                          refine g_iload C tb_X12_sent_3_ok (i := 5) rfl rfl ?_
                          refine g_iconstv C tb_X12_sent_3_ok (i := 6) 1 rfl k_iconstv_1 ?_
                          refine g_iload C tb_X12_sent_3_ok (i := 7) rfl rfl ?_
                          refine g_ishl C tb_X12_sent_3_ok (i := 8) rfl ?_
                          refine g_ior C tb_X12_sent_3_ok (i := 9) rfl ?_
                          refine g_topi (fun v49 ev49 => ?_)
                          have h := lt_e ev49 h
                          refine g_istore C tb_X12_sent_3_ok (i := 10) rfl rfl rfl ?_
                          obtain ⟨v50, ev50⟩ : ∃ w : Int32, w = v31 + (1 : Int32) := ⟨_, rfl⟩
                          have h := lt_e ev50 h
                          refine g_iincv C tb_X12_sent_3_ok (i := 11) (1 : Int32) ev50 rfl rfl k_iconstv_1 rfl rfl ?_
                          refine g_goto C tb_X12_sent_3_ok (i := 12) 143 rfl rfl ?_
                          exact g_less (L' := [some (.ref a0), none, some (.int a2), some (.int v14), some (.int v49), some (.int v50), none, none]) ⟨rfl, ⟨rfl, ⟨rfl, ⟨rfl, ⟨rfl, trivial⟩⟩⟩⟩⟩ (ih33 v49 v50 h)
                        · have h := t47 c
                          refine g_iload C tb_X12_sent_3_ok (i := 3) rfl rfl ?_
                          cases h
                          exact g_iret0 C R tb_X12_sent_3_ok (i := 4) rfl
                      · have h := f44 c
                        refine g_iload C tb_X12_sent_2_ok (i := 15) rfl rfl ?_
                        refine g_iload C tb_X12_sent_2_ok (i := 16) rfl rfl ?_
                        obtain ⟨r51, er51, h⟩ := cp_e h
                        refine g_callS0 C tb_X12_sent_2_ok (i := 17) [.int v30, .int v40] rfl mw_X12_isOf mst_X12_isOf ml_X12_232 rfl rfl rfl rfl (w_X12_isOf C.G y v30 v40 M27) (pm_s er51) rfl rfl rfl ?_
                        obtain ⟨j53, ej53, h⟩ := jn_e h
                        have J207 : ∀ (v52 : Int32), j53 v52 = some out → GG g x 8 Q 0 0 y M27 207 [some (.ref a0), none, some (.int a2), some (.int v14), some (.int v30), some (.int v31), some (.int v52), some (.int v40)] [] := by
                          intro v52 h; subst ej53
                          obtain ⟨v54, ev54⟩ : ∃ w : Int32, w = v40 + ((-1) : Int32) := ⟨_, rfl⟩
                          have h := lt_e ev54 h
                          refine g_iincv C tb_X12_sent_2_ok (i := 35) ((-1) : Int32) ev54 rfl rfl k_iconstv_m1 rfl rfl ?_
                          refine g_goto C tb_X12_sent_2_ok (i := 36) 162 rfl rfl ?_
                          exact g_less (L' := [some (.ref a0), none, some (.int a2), some (.int v14), some (.int v30), some (.int v31), some (.int v52), some (.int v54)]) ⟨rfl, ⟨rfl, ⟨rfl, ⟨rfl, ⟨rfl, ⟨rfl, ⟨rfl, trivial⟩⟩⟩⟩⟩⟩⟩ (ih42 v52 v54 h)
                        obtain ⟨t55, f56⟩ := br_e h
                        refine g_if_ne C tb_X12_sent_2_ok (i := 18) 207 rfl rfl (fun c => ?_) (fun c => ?_)
                        · have h := f56 c
                          exact g_less (L' := [some (.ref a0), none, some (.int a2), some (.int v14), some (.int v30), some (.int v31), some (.int v39), some (.int v40)]) ⟨rfl, ⟨rfl, ⟨rfl, ⟨rfl, ⟨rfl, ⟨rfl, ⟨rfl, trivial⟩⟩⟩⟩⟩⟩⟩ (J207 v39 h)
                        · have h := t55 c
                          refine g_aload_n C tb_X12_sent_2_ok (i := 19) rfl rfl ?_
                          refine g_iload C tb_X12_sent_2_ok (i := 20) rfl rfl ?_
                          refine g_iload C tb_X12_sent_2_ok (i := 21) rfl rfl ?_
                          refine g_iload C tb_X12_sent_2_ok (i := 22) rfl rfl ?_
                          obtain ⟨r57, er57, h⟩ := cp_e h
                          refine g_callV0 C tb_X12_sent_2_ok (i := 23) [.int v31, .int v30, .int v40] rfl mw_X12_with mv_X12_with ml_X12_466 k1 rfl rfl rfl rfl (w_X12_with C.G y a0 v31 v30 v40 M27) (pm_s er57) rfl rfl rfl ?_
                          refine g_aload_n C tb_X12_sent_2_ok (i := 24) rfl rfl ?_
                          obtain ⟨n58, h⟩ := gN_e h
                          refine g_getR C tb_X12_sent_2_ok (i := 25) rfl fl_X12_98 rfl k1 n58 ?_
                          refine g_iload C tb_X12_sent_2_ok (i := 26) rfl rfl ?_
                          refine g_bipushv C tb_X12_sent_2_ok (i := 27) 6 rfl k_bipushv_6 ?_
                          refine g_ishl C tb_X12_sent_2_ok (i := 28) rfl ?_
                          refine g_iload C tb_X12_sent_2_ok (i := 29) rfl rfl ?_
                          refine g_iadd C tb_X12_sent_2_ok (i := 30) rfl ?_
                          obtain ⟨b59, h⟩ := gA_e h
                          refine g_iald C tb_X12_sent_2_ok (i := 31) rfl b59 ?_
                          obtain ⟨t60, f61⟩ := br_e h
                          refine g_icmp_ne C tb_X12_sent_2_ok (i := 32) 207 rfl rfl (fun c => ?_) (fun c => ?_)
                          · have h := f61 c
                            exact g_less (L' := [some (.ref a0), none, some (.int a2), some (.int v14), some (.int v30), some (.int v31), some (.int v39), some (.int v40)]) ⟨rfl, ⟨rfl, ⟨rfl, ⟨rfl, ⟨rfl, ⟨rfl, ⟨rfl, trivial⟩⟩⟩⟩⟩⟩⟩ (J207 v39 h)
                          · have h := t60 c
                            refine g_iload C tb_X12_sent_2_ok (i := 33) rfl rfl ?_
                            refine g_istore C tb_X12_sent_2_ok (i := 34) rfl rfl rfl ?_
                            exact g_less (L' := [some (.ref a0), none, some (.int a2), some (.int v14), some (.int v30), some (.int v31), some (.int v40), some (.int v40)]) ⟨rfl, ⟨rfl, ⟨rfl, ⟨rfl, ⟨rfl, ⟨rfl, ⟨rfl, trivial⟩⟩⟩⟩⟩⟩⟩ (J207 v40 h)
              · have h := t28 c
                refine g_aload_n C tb_X12_sent_1_ok (i := 32) rfl rfl ?_
                obtain ⟨n62, h⟩ := gN_e h
                refine g_getR C tb_X12_sent_1_ok (i := 33) rfl fl_X12_98 rfl k1 n62 ?_
                refine g_iconstv C tb_X12_sent_1_ok (i := 34) 0 rfl k_iconstv_0 ?_
                obtain ⟨b63, h⟩ := gA_e h
                refine g_iald C tb_X12_sent_1_ok (i := 35) rfl b63 ?_
                cases h
                exact g_iret0 C R tb_X12_sent_1_ok (i := 36) rfl
            · have h := f25 c
              refine g_bipushv C tb_X12_sent_1_ok (i := 24) (-2) rfl k_bipushv_m2 ?_
              cases h
              exact g_iret0 C R tb_X12_sent_1_ok (i := 25) rfl
          · have h := f21 c
            refine g_iload_n C tb_X12_sent_1_ok (i := 5) rfl rfl ?_
            refine g_iload C tb_X12_sent_1_ok (i := 6) rfl rfl ?_
            obtain ⟨r64, er64, h⟩ := cp_e h
            refine g_callS0 C tb_X12_sent_1_ok (i := 7) [.int a1, .int v15] rfl mw_X12_isOf mst_X12_isOf ml_X12_232 rfl rfl rfl rfl (w_X12_isOf C.G y a1 v15 M16) (pm_s er64) rfl rfl rfl ?_
            obtain ⟨j67, ej67, h⟩ := jn_e h
            have J101 : ∀ (v65 : Int32) (M66 : Mem), j67 v65 M66 = some out → GG g x 8 Q 0 0 y M66 101 [some (.ref a0), some (.int a1), some (.int a2), some (.int v65), some (.int v15), none, none, none] [] := by
              intro v65 M66 h; subst ej67
              obtain ⟨v68, ev68⟩ : ∃ w : Int32, w = v15 + (1 : Int32) := ⟨_, rfl⟩
              have h := lt_e ev68 h
              refine g_iincv C tb_X12_sent_1_ok (i := 16) (1 : Int32) ev68 rfl rfl k_iconstv_1 rfl rfl ?_
              refine g_goto C tb_X12_sent_1_ok (i := 17) 69 rfl rfl ?_
              exact g_less (L' := [some (.ref a0), some (.int a1), some (.int a2), some (.int v65), some (.int v68), none, none, none]) ⟨rfl, ⟨rfl, ⟨rfl, ⟨rfl, ⟨rfl, trivial⟩⟩⟩⟩⟩ (ih18 v65 v68 M66 h)
            obtain ⟨t69, f70⟩ := br_e h
            refine g_if_ne C tb_X12_sent_1_ok (i := 8) 90 rfl rfl (fun c => ?_) (fun c => ?_)
            · have h := f70 c
              refine g_aload_n C tb_X12_sent_1_ok (i := 10) rfl rfl ?_
              obtain ⟨n71, h⟩ := gN_e h
              refine g_getR C tb_X12_sent_1_ok (i := 11) rfl fl_X12_101 rfl k1 n71 ?_
              refine g_iload_n C tb_X12_sent_1_ok (i := 12) rfl rfl ?_
              refine g_iload C tb_X12_sent_1_ok (i := 13) rfl rfl ?_
              obtain ⟨b72, h⟩ := gA_e h
              refine g_iast C tb_X12_sent_1_ok (i := 14) rfl b72 ?_
              refine g_mem (fun M73 eM73 => ?_)
              have h := lt_e eM73 h
              obtain ⟨v74, ev74⟩ : ∃ w : Int32, w = v14 + (1 : Int32) := ⟨_, rfl⟩
              have h := lt_e ev74 h
              refine g_iincv C tb_X12_sent_1_ok (i := 15) (1 : Int32) ev74 rfl rfl k_iconstv_1 rfl rfl ?_
              exact g_less (L' := [some (.ref a0), some (.int a1), some (.int a2), some (.int v74), some (.int v15), none, none, none]) ⟨rfl, ⟨rfl, ⟨rfl, ⟨rfl, ⟨rfl, trivial⟩⟩⟩⟩⟩ (J101 v74 M73 h)
            · have h := t69 c
              refine g_goto C tb_X12_sent_1_ok (i := 9) 101 rfl rfl ?_
              exact g_less (L' := [some (.ref a0), some (.int a1), some (.int a2), some (.int v14), some (.int v15), none, none, none]) ⟨rfl, ⟨rfl, ⟨rfl, ⟨rfl, ⟨rfl, trivial⟩⟩⟩⟩⟩ (J101 v14 M16 h)
      obtain ⟨t75, f76⟩ := br_e h
      refine g_icmp_eq C tb_X12_sent_0_ok (i := 24) 64 rfl rfl (fun c => ?_) (fun c => ?_)
      · have h := t75 c
        exact g_less (L' := [some (.ref a0), some (.int a1), some (.int a2), none, none, none, none, none]) ⟨rfl, ⟨rfl, ⟨rfl, trivial⟩⟩⟩ (J64 () h)
      · have h := f76 c
        refine g_aload_n C tb_X12_sent_0_ok (i := 25) rfl rfl ?_
        refine g_iload_n C tb_X12_sent_0_ok (i := 26) rfl rfl ?_
        obtain ⟨r77, er77, h⟩ := cp_e h
        refine g_callV0 C tb_X12_sent_0_ok (i := 27) [.int a2] rfl mw_X12_isCell mv_X12_isCell ml_X12_408 k1 rfl rfl rfl rfl (w_X12_isCell C.G y a0 a2 M2) (pm_s er77) rfl rfl rfl ?_
        obtain ⟨j78, ej78, h⟩ := jn_e h
        have J58 : ∀ (_u : Unit), j78 _u = some out → GG g x 8 Q 0 0 y M2 58 [some (.ref a0), none, none, none, none, none, none, none] [] := by
          intro _u h; subst ej78
          refine g_aload_n C tb_X12_sent_0_ok (i := 33) rfl rfl ?_
          refine g_iconstv C tb_X12_sent_0_ok (i := 34) 1 rfl k_iconstv_1 ?_
          obtain ⟨r79, M80, er79, h⟩ := c0_e h
          refine g_callV0 C tb_X12_sent_0_ok (i := 35) [.int (1 : Int32)] rfl mw_X12_fail mv_X12_fail ml_X12_318 k1 rfl rfl rfl rfl (w_X12_fail C.G y a0 (1 : Int32) M2) er79 rfl rfl rfl ?_
          cases h
          exact g_iret0 C R tb_X12_sent_0_ok (i := 36) rfl
        obtain ⟨t81, f82⟩ := br_e h
        refine g_if_eq C tb_X12_sent_0_ok (i := 28) 58 rfl rfl (fun c => ?_) (fun c => ?_)
        · have h := t81 c
          exact g_less (L' := [some (.ref a0), none, none, none, none, none, none, none]) ⟨rfl, trivial⟩ (J58 () h)
        · have h := f82 c
          refine g_iload_n C tb_X12_sent_0_ok (i := 29) rfl rfl ?_
          refine g_iload_n C tb_X12_sent_0_ok (i := 30) rfl rfl ?_
          obtain ⟨r83, er83, h⟩ := cp_e h
          refine g_callS0 C tb_X12_sent_0_ok (i := 31) [.int a1, .int a2] rfl mw_X12_isOf mst_X12_isOf ml_X12_232 rfl rfl rfl rfl (w_X12_isOf C.G y a1 a2 M2) (pm_s er83) rfl rfl rfl ?_
          obtain ⟨t84, f85⟩ := br_e h
          refine g_if_ne C tb_X12_sent_0_ok (i := 32) 64 rfl rfl (fun c => ?_) (fun c => ?_)
          · have h := f85 c
            exact g_less (L' := [some (.ref a0), some (.int a1), some (.int a2), none, none, none, none, none]) ⟨rfl, ⟨rfl, ⟨rfl, trivial⟩⟩⟩ (J64 () h)
          · have h := t84 c
            exact g_less (L' := [some (.ref a0), none, none, none, none, none, none, none]) ⟨rfl, trivial⟩ (J58 () h)
    · have h := f12 c
      exact g_less (L' := [some (.ref a0), none, none, none, none, none, none, none]) ⟨rfl, trivial⟩ (J31 () h)
def f_X12_see (y : Lay) (a0 : Nat) (a1 : Int32) (a2 : Int32) (a3 : Int32) (M : Mem) : Option (Int32 × Mem) := gK y a0 (0, 12) (lt (wI M a0 4 (0 : Int32)) fun (M2 : Mem) => cp (f_X12_isCell y a0 a1 M2) fun (r3 : Int32) => br (r3 = 0) (c0 (f_X12_fail y a0 (1 : Int32) M2) fun (r27 : Int32) (M28 : Mem) => some (r27, M28)) (jn (fun (_u : Unit) => c0 (f_X12_refuse y a0 (2 : Int32) M2) fun (r7 : Int32) (M8 : Mem) => some (r7, M8)) fun j6 => br ((M2.1 a0 37) = (8 : Int32)) (j6 ()) (cp (f_X12_isIn y (a2.toInt64) (0 : Int64) (20 : Int64) M2) fun (r11 : Int32) => br (r11 = 0) (j6 ()) (cp (f_X12_isIn y (a3.toInt64) (0 : Int64) (99 : Int64) M2) fun (r14 : Int32) => br (r14 = 0) (j6 ()) (gN (y.2.1 a0 46) (gA y (y.2.1 a0 46) 1 (M2.1 a0 37) (lt (wI M2 (y.2.1 a0 46) (M2.1 a0 37).toNatClampNeg a1) fun (M19 : Mem) => gN (y.2.1 a0 47) (gA y (y.2.1 a0 47) 1 (M19.1 a0 37) (lt (wI M19 (y.2.1 a0 47) (M19.1 a0 37).toNatClampNeg a2) fun (M22 : Mem) => gN (y.2.1 a0 48) (gA y (y.2.1 a0 48) 1 (M22.1 a0 37) (lt (wI M22 (y.2.1 a0 48) (M22.1 a0 37).toNatClampNeg a3) fun (M25 : Mem) => lt (wI M25 a0 37 ((M25.1 a0 37) + (1 : Int32))) fun (M26 : Mem) => some ((M26.1 a0 37), M26))))))))))))
theorem w_X12_see {g : GX} {l : Launch} (hG : GF g l) (y : Lay) (a0 : Nat) (a1 : Int32) (a2 : Int32) (a3 : Int32) (M : Mem) : C0 g l yX12_see cX12_see 4 (some .int) 2 y [.ref a0, .int a1, .int a2, .int a3] M (f_X12_see y a0 a1 a2 a3 M) := by
  refine C0_of hG (by decide) [some (.ref a0), some (.int a1), some (.int a2), some (.int a3)] rfl rfl (fun out h x Q C R => ?_)
  unfold f_X12_see at h
  refine g_aload_n C tb_X12_see_0_ok (i := 0) rfl rfl ?_
  refine g_iconstv C tb_X12_see_0_ok (i := 1) 0 rfl k_iconstv_0 ?_
  obtain ⟨k1, h⟩ := gK_e h
  refine g_putI C tb_X12_see_0_ok (i := 2) rfl fl_X12_150 ft_12_4 rfl k1 ?_
  refine g_mem (fun M2 eM2 => ?_)
  have h := lt_e eM2 h
  refine g_aload_n C tb_X12_see_0_ok (i := 3) rfl rfl ?_
  refine g_iload_n C tb_X12_see_0_ok (i := 4) rfl rfl ?_
  obtain ⟨r3, er3, h⟩ := cp_e h
  refine g_callV0 C tb_X12_see_0_ok (i := 5) [.int a1] rfl mw_X12_isCell mv_X12_isCell ml_X12_408 k1 rfl rfl rfl rfl (w_X12_isCell C.G y a0 a1 M2) (pm_s er3) rfl rfl rfl ?_
  obtain ⟨t4, f5⟩ := br_e h
  refine g_if_ne C tb_X12_see_0_ok (i := 6) 19 rfl rfl (fun c => ?_) (fun c => ?_)
  · have h := f5 c
    refine g_aload_n C tb_X12_see_0_ok (i := 11) rfl rfl ?_
    refine g_getI C tb_X12_see_0_ok (i := 12) rfl fl_X12_345 rfl k1 ?_
    refine g_bipushv C tb_X12_see_0_ok (i := 13) 8 rfl k_bipushv_8 ?_
    obtain ⟨j6, ej6, h⟩ := jn_e h
    have J52 : ∀ (_u : Unit), j6 _u = some out → GG g x 4 Q 0 0 y M2 52 [some (.ref a0), none, none, none] [] := by
      intro _u h; subst ej6
      refine g_aload_n C tb_X12_see_0_ok (i := 27) rfl rfl ?_
      refine g_iconstv C tb_X12_see_0_ok (i := 28) 2 rfl k_iconstv_2 ?_
      obtain ⟨r7, M8, er7, h⟩ := c0_e h
      refine g_callV0 C tb_X12_see_0_ok (i := 29) [.int (2 : Int32)] rfl mw_X12_refuse mv_X12_refuse ml_X12_426 k1 rfl rfl rfl rfl (w_X12_refuse C.G y a0 (2 : Int32) M2) er7 rfl rfl rfl ?_
      cases h
      exact g_iret0 C R tb_X12_see_0_ok (i := 30) rfl
    obtain ⟨t9, f10⟩ := br_e h
    refine g_icmp_eq C tb_X12_see_0_ok (i := 14) 52 rfl rfl (fun c => ?_) (fun c => ?_)
    · have h := t9 c
      exact g_less (L' := [some (.ref a0), none, none, none]) ⟨rfl, trivial⟩ (J52 () h)
    · have h := f10 c
      refine g_iload_n C tb_X12_see_0_ok (i := 15) rfl rfl ?_
      refine g_i2l C tb_X12_see_0_ok (i := 16) rfl ?_
      refine g_lconst C tb_X12_see_0_ok (i := 17) 0 rfl rfl ?_
      refine g_ldc2 C tb_X12_see_0_ok (i := 18) rfl cl_X12_424 ?_
      obtain ⟨r11, er11, h⟩ := cp_e h
      refine g_callS0 C tb_X12_see_0_ok (i := 19) [.long (a2.toInt64), .long (0 : Int64), .long (20 : Int64)] rfl mw_X12_isIn mst_X12_isIn ml_X12_157 rfl rfl rfl rfl (w_X12_isIn C.G y (a2.toInt64) (0 : Int64) (20 : Int64) M2) (pm_s er11) rfl rfl rfl ?_
      obtain ⟨t12, f13⟩ := br_e h
      refine g_if_eq C tb_X12_see_0_ok (i := 20) 52 rfl rfl (fun c => ?_) (fun c => ?_)
      · have h := t12 c
        exact g_less (L' := [some (.ref a0), none, none, none]) ⟨rfl, trivial⟩ (J52 () h)
      · have h := f13 c
        refine g_iload_n C tb_X12_see_0_ok (i := 21) rfl rfl ?_
        refine g_i2l C tb_X12_see_0_ok (i := 22) rfl ?_
        refine g_lconst C tb_X12_see_0_ok (i := 23) 0 rfl rfl ?_
        refine g_ldc2 C tb_X12_see_0_ok (i := 24) rfl cl_X12_461 ?_
        obtain ⟨r14, er14, h⟩ := cp_e h
        refine g_callS0 C tb_X12_see_0_ok (i := 25) [.long (a3.toInt64), .long (0 : Int64), .long (99 : Int64)] rfl mw_X12_isIn mst_X12_isIn ml_X12_157 rfl rfl rfl rfl (w_X12_isIn C.G y (a3.toInt64) (0 : Int64) (99 : Int64) M2) (pm_s er14) rfl rfl rfl ?_
        obtain ⟨t15, f16⟩ := br_e h
        refine g_if_ne C tb_X12_see_0_ok (i := 26) 58 rfl rfl (fun c => ?_) (fun c => ?_)
        · have h := f16 c
          refine g_aload_n C tb_X12_see_0_ok (i := 31) rfl rfl ?_
          obtain ⟨n17, h⟩ := gN_e h
          refine g_getR C tb_X12_see_0_ok (i := 32) rfl fl_X12_104 rfl k1 n17 ?_
          refine g_aload_n C tb_X12_see_0_ok (i := 33) rfl rfl ?_
          refine g_getI C tb_X12_see_0_ok (i := 34) rfl fl_X12_345 rfl k1 ?_
          refine g_iload_n C tb_X12_see_0_ok (i := 35) rfl rfl ?_
          obtain ⟨b18, h⟩ := gA_e h
          refine g_iast C tb_X12_see_0_ok (i := 36) rfl b18 ?_
          refine g_mem (fun M19 eM19 => ?_)
          have h := lt_e eM19 h
          refine g_aload_n C tb_X12_see_0_ok (i := 37) rfl rfl ?_
          obtain ⟨n20, h⟩ := gN_e h
          refine g_getR C tb_X12_see_0_ok (i := 38) rfl fl_X12_107 rfl k1 n20 ?_
          refine g_aload_n C tb_X12_see_0_ok (i := 39) rfl rfl ?_
          refine g_getI C tb_X12_see_1_ok (i := 0) rfl fl_X12_345 rfl k1 ?_
          refine g_iload_n C tb_X12_see_1_ok (i := 1) rfl rfl ?_
          obtain ⟨b21, h⟩ := gA_e h
          refine g_iast C tb_X12_see_1_ok (i := 2) rfl b21 ?_
          refine g_mem (fun M22 eM22 => ?_)
          have h := lt_e eM22 h
          refine g_aload_n C tb_X12_see_1_ok (i := 3) rfl rfl ?_
          obtain ⟨n23, h⟩ := gN_e h
          refine g_getR C tb_X12_see_1_ok (i := 4) rfl fl_X12_110 rfl k1 n23 ?_
          refine g_aload_n C tb_X12_see_1_ok (i := 5) rfl rfl ?_
          refine g_getI C tb_X12_see_1_ok (i := 6) rfl fl_X12_345 rfl k1 ?_
          refine g_iload_n C tb_X12_see_1_ok (i := 7) rfl rfl ?_
          obtain ⟨b24, h⟩ := gA_e h
          refine g_iast C tb_X12_see_1_ok (i := 8) rfl b24 ?_
          refine g_mem (fun M25 eM25 => ?_)
          have h := lt_e eM25 h
          refine g_aload_n C tb_X12_see_1_ok (i := 9) rfl rfl ?_
          refine g_dup C tb_X12_see_1_ok (i := 10) rfl rfl ?_
          refine g_getI C tb_X12_see_1_ok (i := 11) rfl fl_X12_345 rfl k1 ?_
          refine g_iconstv C tb_X12_see_1_ok (i := 12) 1 rfl k_iconstv_1 ?_
          refine g_iadd C tb_X12_see_1_ok (i := 13) rfl ?_
          refine g_putI C tb_X12_see_1_ok (i := 14) rfl fl_X12_345 ft_12_37 rfl k1 ?_
          refine g_mem (fun M26 eM26 => ?_)
          have h := lt_e eM26 h
          refine g_aload_n C tb_X12_see_1_ok (i := 15) rfl rfl ?_
          refine g_getI C tb_X12_see_1_ok (i := 16) rfl fl_X12_345 rfl k1 ?_
          cases h
          exact g_iret0 C R tb_X12_see_1_ok (i := 17) rfl
        · have h := t15 c
          exact g_less (L' := [some (.ref a0), none, none, none]) ⟨rfl, trivial⟩ (J52 () h)
  · have h := t4 c
    refine g_aload_n C tb_X12_see_0_ok (i := 7) rfl rfl ?_
    refine g_iconstv C tb_X12_see_0_ok (i := 8) 1 rfl k_iconstv_1 ?_
    obtain ⟨r27, M28, er27, h⟩ := c0_e h
    refine g_callV0 C tb_X12_see_0_ok (i := 9) [.int (1 : Int32)] rfl mw_X12_fail mv_X12_fail ml_X12_318 k1 rfl rfl rfl rfl (w_X12_fail C.G y a0 (1 : Int32) M2) er27 rfl rfl rfl ?_
    cases h
    exact g_iret0 C R tb_X12_see_0_ok (i := 10) rfl
def f_X12_isAsSeen (y : Lay) (a0 : Nat) (M : Mem) : Option (Int32 × Mem) := gK y a0 (0, 12) (gN (y.2.1 a0 49) (c0 (f_X12_pack y a0 (y.2.1 a0 49) (0 : Int32) M) fun (r3 : Int32) (M4 : Mem) => fixN (fun _ _ => none) (fun (s7 : Int32 → Int32 → Option (Int32 × Mem)) (v5 : Int32) (v6 : Int32) => br ((M4.1 a0 37) ≤ v6) (fixN (fun _ _ _ => none) (fun (s14 : Int32 → Int32 → Mem → Option (Int32 × Mem)) (v11 : Int32) (v12 : Int32) (M13 : Mem) => jn (fun (_u : Unit) => c0 (f_X12_unpack y a0 (y.2.1 a0 49) (0 : Int32) M13) fun (r17 : Int32) (M18 : Mem) => gd (v11 = 0 ∨ v11 = 1) (some (v11, M18))) fun j16 => br (v5 < v12) (j16 ()) (br (v11 = 0) (j16 ()) (fixN (fun _ _ => none) (fun (s25 : Int32 → Int32 → Option (Int32 × Mem)) (v23 : Int32) (v24 : Int32) => br ((M13.1 a0 37) ≤ v24) (c0 (f_X12_aDay y a0 M13) fun (r29 : Int32) (M30 : Mem) => lt (v12 + (1 : Int32)) fun (v31 : Int32) => s14 v23 v31 M30) (jn (fun (v32 : Int32) => lt (v24 + (1 : Int32)) fun (v34 : Int32) => s25 v32 v34) fun j33 => jn (fun (_u : Unit) => j33 (0 : Int32)) fun j35 => br (v23 = 0) (j35 ()) (gN (y.2.1 a0 47) (gA y (y.2.1 a0 47) 1 v24 (jn (fun (_u : Unit) => j33 (1 : Int32)) fun j40 => br ((M13.1 (y.2.1 a0 47) v24.toNatClampNeg) = v12) (gN (y.2.1 a0 28) (gN (y.2.1 a0 46) (gA y (y.2.1 a0 46) 1 v24 (gA y (y.2.1 a0 28) 1 (M13.1 (y.2.1 a0 46) v24.toNatClampNeg) (gN (y.2.1 a0 48) (gA y (y.2.1 a0 48) 1 v24 (br ((M13.1 (y.2.1 a0 28) (M13.1 (y.2.1 a0 46) v24.toNatClampNeg).toNatClampNeg) = (M13.1 (y.2.1 a0 48) v24.toNatClampNeg)) (j40 ()) (j35 ())))))))) (j40 ())))))) FUEL v11 (0 : Int32)))) FUEL (1 : Int32) (0 : Int32) M4) (gN (y.2.1 a0 47) (gA y (y.2.1 a0 47) 1 v6 (lt (jmax v5 (M4.1 (y.2.1 a0 47) v6.toNatClampNeg)) fun (v53 : Int32) => lt (v6 + (1 : Int32)) fun (v54 : Int32) => s7 v53 v54)))) FUEL (0 : Int32) (0 : Int32)))
theorem w_X12_isAsSeen {g : GX} {l : Launch} (hG : GF g l) (y : Lay) (a0 : Nat) (M : Mem) : C0 g l yX12_isAsSeen cX12_isAsSeen 5 (some .boolean) 8 y [.ref a0] M (f_X12_isAsSeen y a0 M) := by
  refine C0_of hG (by decide) [some (.ref a0), none, none, none, none] rfl rfl (fun out h x Q C R => ?_)
  unfold f_X12_isAsSeen at h
  refine g_aload_n C tb_X12_isAsSeen_0_ok (i := 0) rfl rfl ?_
  refine g_aload_n C tb_X12_isAsSeen_0_ok (i := 1) rfl rfl ?_
  obtain ⟨k1, h⟩ := gK_e h
  obtain ⟨n2, h⟩ := gN_e h
  refine g_getR C tb_X12_isAsSeen_0_ok (i := 2) rfl fl_X12_113 rfl k1 n2 ?_
  refine g_iconstv C tb_X12_isAsSeen_0_ok (i := 3) 0 rfl k_iconstv_0 ?_
  obtain ⟨r3, M4, er3, h⟩ := c0_e h
  refine g_callV0 C tb_X12_isAsSeen_0_ok (i := 4) [.ref (y.2.1 a0 49), .int (0 : Int32)] rfl mw_X12_pack mv_X12_pack ml_X12_420 k1 rfl rfl rfl rfl (w_X12_pack C.G y a0 (y.2.1 a0 49) (0 : Int32) M) er3 rfl rfl rfl ?_
  refine g_iconstv C tb_X12_isAsSeen_0_ok (i := 5) 0 rfl k_iconstv_0 ?_
  refine g_istore_n C tb_X12_isAsSeen_0_ok (i := 6) rfl rfl rfl ?_
  refine g_iconstv C tb_X12_isAsSeen_0_ok (i := 7) 0 rfl k_iconstv_0 ?_
  refine g_istore_n C tb_X12_isAsSeen_0_ok (i := 8) rfl rfl rfl ?_
  refine g_less (L' := [some (.ref a0), some (.int (0 : Int32)), some (.int (0 : Int32)), none, none]) ⟨rfl, ⟨rfl, ⟨rfl, trivial⟩⟩⟩ ?_
  refine fix_i (P := fun (f : Int32 → Int32 → Option (Int32 × Mem)) => ∀ (v5 : Int32) (v6 : Int32), f v5 v6 = some out → GG g x 5 Q 0 0 y M4 13 [some (.ref a0), some (.int v5), some (.int v6), none, none] []) ?_ ?_ _ (0 : Int32) (0 : Int32) h
  · intro v5 v6 h; exact (nn_e h).elim
  · intro s7 ih8 v5 v6 h
    refine g_iload_n C tb_X12_isAsSeen_0_ok (i := 9) rfl rfl ?_
    refine g_aload_n C tb_X12_isAsSeen_0_ok (i := 10) rfl rfl ?_
    refine g_getI C tb_X12_isAsSeen_0_ok (i := 11) rfl fl_X12_345 rfl k1 ?_
    obtain ⟨t9, f10⟩ := br_e h
    refine g_icmp_ge C tb_X12_isAsSeen_0_ok (i := 12) 38 rfl rfl (fun c => ?_) (fun c => ?_)
    · have h := t9 c
      refine g_iconstv C tb_X12_isAsSeen_0_ok (i := 22) 1 rfl k_iconstv_1 ?_
      refine g_istore_n C tb_X12_isAsSeen_0_ok (i := 23) rfl rfl rfl ?_
      refine g_iconstv C tb_X12_isAsSeen_0_ok (i := 24) 0 rfl k_iconstv_0 ?_
      refine g_istore_n C tb_X12_isAsSeen_0_ok (i := 25) rfl rfl rfl ?_
      refine g_less (L' := [some (.ref a0), some (.int v5), some (.int (1 : Int32)), some (.int (0 : Int32)), none]) ⟨rfl, ⟨rfl, ⟨rfl, ⟨rfl, trivial⟩⟩⟩⟩ ?_
      refine fix_i (P := fun (f : Int32 → Int32 → Mem → Option (Int32 × Mem)) => ∀ (v11 : Int32) (v12 : Int32) (M13 : Mem), f v11 v12 M13 = some out → GG g x 5 Q 0 0 y M13 42 [some (.ref a0), some (.int v5), some (.int v11), some (.int v12), none] []) ?_ ?_ _ (1 : Int32) (0 : Int32) M4 h
      · intro v11 v12 M13 h; exact (nn_e h).elim
      · intro s14 ih15 v11 v12 M13 h
        refine g_iload_n C tb_X12_isAsSeen_0_ok (i := 26) rfl rfl ?_
        refine g_iload_n C tb_X12_isAsSeen_0_ok (i := 27) rfl rfl ?_
        obtain ⟨j16, ej16, h⟩ := jn_e h
        have J122 : ∀ (_u : Unit), j16 _u = some out → GG g x 5 Q 0 0 y M13 122 [some (.ref a0), none, some (.int v11), none, none] [] := by
          intro _u h; subst ej16
          refine g_aload_n C tb_X12_isAsSeen_1_ok (i := 27) rfl rfl ?_
          refine g_aload_n C tb_X12_isAsSeen_1_ok (i := 28) rfl rfl ?_
          refine g_getR C tb_X12_isAsSeen_1_ok (i := 29) rfl fl_X12_113 rfl k1 n2 ?_
          refine g_iconstv C tb_X12_isAsSeen_1_ok (i := 30) 0 rfl k_iconstv_0 ?_
          obtain ⟨r17, M18, er17, h⟩ := c0_e h
          refine g_callV0 C tb_X12_isAsSeen_1_ok (i := 31) [.ref (y.2.1 a0 49), .int (0 : Int32)] rfl mw_X12_unpack mv_X12_unpack ml_X12_440 k1 rfl rfl rfl rfl (w_X12_unpack C.G y a0 (y.2.1 a0 49) (0 : Int32) M13) er17 rfl rfl rfl ?_
          refine g_iload_n C tb_X12_isAsSeen_1_ok (i := 32) rfl rfl ?_
          obtain ⟨hz, h⟩ := gd_e h
          cases h
          exact g_zret0 C R hz tb_X12_isAsSeen_1_ok (i := 33) rfl
        obtain ⟨t19, f20⟩ := br_e h
        refine g_icmp_gt C tb_X12_isAsSeen_0_ok (i := 28) 122 rfl rfl (fun c => ?_) (fun c => ?_)
        · have h := t19 c
          exact g_less (L' := [some (.ref a0), none, some (.int v11), none, none]) ⟨rfl, ⟨rfl, trivial⟩⟩ (J122 () h)
        · have h := f20 c
          refine g_iload_n C tb_X12_isAsSeen_0_ok (i := 29) rfl rfl ?_
          obtain ⟨t21, f22⟩ := br_e h
          refine g_if_eq C tb_X12_isAsSeen_0_ok (i := 30) 122 rfl rfl (fun c => ?_) (fun c => ?_)
          · have h := t21 c
            exact g_less (L' := [some (.ref a0), none, some (.int v11), none, none]) ⟨rfl, ⟨rfl, trivial⟩⟩ (J122 () h)
          · have h := f22 c
            refine g_iconstv C tb_X12_isAsSeen_0_ok (i := 31) 0 rfl k_iconstv_0 ?_
            refine g_istore C tb_X12_isAsSeen_0_ok (i := 32) rfl rfl rfl ?_
            refine g_less (L' := [some (.ref a0), some (.int v5), some (.int v11), some (.int v12), some (.int (0 : Int32))]) ⟨rfl, ⟨rfl, ⟨rfl, ⟨rfl, ⟨rfl, trivial⟩⟩⟩⟩⟩ ?_
            refine fix_i (P := fun (f : Int32 → Int32 → Option (Int32 × Mem)) => ∀ (v23 : Int32) (v24 : Int32), f v23 v24 = some out → GG g x 5 Q 0 0 y M13 54 [some (.ref a0), some (.int v5), some (.int v23), some (.int v12), some (.int v24)] []) ?_ ?_ _ v11 (0 : Int32) h
            · intro v23 v24 h; exact (nn_e h).elim
            · intro s25 ih26 v23 v24 h
              refine g_iload C tb_X12_isAsSeen_0_ok (i := 33) rfl rfl ?_
              refine g_aload_n C tb_X12_isAsSeen_0_ok (i := 34) rfl rfl ?_
              refine g_getI C tb_X12_isAsSeen_0_ok (i := 35) rfl fl_X12_345 rfl k1 ?_
              obtain ⟨t27, f28⟩ := br_e h
              refine g_icmp_ge C tb_X12_isAsSeen_0_ok (i := 36) 112 rfl rfl (fun c => ?_) (fun c => ?_)
              · have h := t27 c
                refine g_aload_n C tb_X12_isAsSeen_1_ok (i := 23) rfl rfl ?_
                obtain ⟨r29, M30, er29, h⟩ := c0_e h
                refine g_callV0 C tb_X12_isAsSeen_1_ok (i := 24) [] rfl mw_X12_aDay mv_X12_aDay ml_X12_402 k1 rfl rfl rfl rfl (w_X12_aDay C.G y a0 M13) er29 rfl rfl rfl ?_
                obtain ⟨v31, ev31⟩ : ∃ w : Int32, w = v12 + (1 : Int32) := ⟨_, rfl⟩
                have h := lt_e ev31 h
                refine g_iincv C tb_X12_isAsSeen_1_ok (i := 25) (1 : Int32) ev31 rfl rfl k_iconstv_1 rfl rfl ?_
                refine g_goto C tb_X12_isAsSeen_1_ok (i := 26) 42 rfl rfl ?_
                exact g_less (L' := [some (.ref a0), some (.int v5), some (.int v23), some (.int v31), none]) ⟨rfl, ⟨rfl, ⟨rfl, ⟨rfl, trivial⟩⟩⟩⟩ (ih15 v23 v31 M30 h)
              · have h := f28 c
                refine g_iload_n C tb_X12_isAsSeen_0_ok (i := 37) rfl rfl ?_
                obtain ⟨j33, ej33, h⟩ := jn_e h
                have J105 : ∀ (v32 : Int32), j33 v32 = some out → GG g x 5 Q 0 0 y M13 105 [some (.ref a0), some (.int v5), none, some (.int v12), some (.int v24)] [.int v32] := by
                  intro v32 h; subst ej33
                  refine g_istore_n C tb_X12_isAsSeen_1_ok (i := 20) rfl rfl rfl ?_
                  obtain ⟨v34, ev34⟩ : ∃ w : Int32, w = v24 + (1 : Int32) := ⟨_, rfl⟩
                  have h := lt_e ev34 h
                  refine g_iincv C tb_X12_isAsSeen_1_ok (i := 21) (1 : Int32) ev34 rfl rfl k_iconstv_1 rfl rfl ?_
                  refine g_goto C tb_X12_isAsSeen_1_ok (i := 22) 54 rfl rfl ?_
                  exact g_less (L' := [some (.ref a0), some (.int v5), some (.int v32), some (.int v12), some (.int v34)]) ⟨rfl, ⟨rfl, ⟨rfl, ⟨rfl, ⟨rfl, trivial⟩⟩⟩⟩⟩ (ih26 v32 v34 h)
                obtain ⟨j35, ej35, h⟩ := jn_e h
                have J104 : ∀ (_u : Unit), j35 _u = some out → GG g x 5 Q 0 0 y M13 104 [some (.ref a0), some (.int v5), none, some (.int v12), some (.int v24)] [] := by
                  intro _u h; subst ej35
                  refine g_iconstv C tb_X12_isAsSeen_1_ok (i := 19) 0 rfl k_iconstv_0 ?_
                  exact g_less (L' := [some (.ref a0), some (.int v5), none, some (.int v12), some (.int v24)]) ⟨rfl, ⟨rfl, ⟨rfl, ⟨rfl, trivial⟩⟩⟩⟩ (J105 (0 : Int32) h)
                obtain ⟨t36, f37⟩ := br_e h
                refine g_if_eq C tb_X12_isAsSeen_0_ok (i := 38) 104 rfl rfl (fun c => ?_) (fun c => ?_)
                · have h := t36 c
                  exact g_less (L' := [some (.ref a0), some (.int v5), none, some (.int v12), some (.int v24)]) ⟨rfl, ⟨rfl, ⟨rfl, ⟨rfl, trivial⟩⟩⟩⟩ (J104 () h)
                · have h := f37 c
                  refine g_aload_n C tb_X12_isAsSeen_0_ok (i := 39) rfl rfl ?_
                  obtain ⟨n38, h⟩ := gN_e h
                  refine g_getR C tb_X12_isAsSeen_1_ok (i := 0) rfl fl_X12_107 rfl k1 n38 ?_
                  refine g_iload C tb_X12_isAsSeen_1_ok (i := 1) rfl rfl ?_
                  obtain ⟨b39, h⟩ := gA_e h
                  refine g_iald C tb_X12_isAsSeen_1_ok (i := 2) rfl b39 ?_
                  refine g_iload_n C tb_X12_isAsSeen_1_ok (i := 3) rfl rfl ?_
                  obtain ⟨j40, ej40, h⟩ := jn_e h
                  have J100 : ∀ (_u : Unit), j40 _u = some out → GG g x 5 Q 0 0 y M13 100 [some (.ref a0), some (.int v5), none, some (.int v12), some (.int v24)] [] := by
                    intro _u h; subst ej40
                    refine g_iconstv C tb_X12_isAsSeen_1_ok (i := 17) 1 rfl k_iconstv_1 ?_
                    refine g_goto C tb_X12_isAsSeen_1_ok (i := 18) 105 rfl rfl ?_
                    exact g_less (L' := [some (.ref a0), some (.int v5), none, some (.int v12), some (.int v24)]) ⟨rfl, ⟨rfl, ⟨rfl, ⟨rfl, trivial⟩⟩⟩⟩ (J105 (1 : Int32) h)
                  obtain ⟨t41, f42⟩ := br_e h
                  refine g_icmp_ne C tb_X12_isAsSeen_1_ok (i := 4) 100 rfl rfl (fun c => ?_) (fun c => ?_)
                  · have h := f42 c
                    exact g_less (L' := [some (.ref a0), some (.int v5), none, some (.int v12), some (.int v24)]) ⟨rfl, ⟨rfl, ⟨rfl, ⟨rfl, trivial⟩⟩⟩⟩ (J100 () h)
                  · have h := t41 c
                    refine g_aload_n C tb_X12_isAsSeen_1_ok (i := 5) rfl rfl ?_
                    obtain ⟨n43, h⟩ := gN_e h
                    refine g_getR C tb_X12_isAsSeen_1_ok (i := 6) rfl fl_X12_75 rfl k1 n43 ?_
                    refine g_aload_n C tb_X12_isAsSeen_1_ok (i := 7) rfl rfl ?_
                    obtain ⟨n44, h⟩ := gN_e h
                    refine g_getR C tb_X12_isAsSeen_1_ok (i := 8) rfl fl_X12_104 rfl k1 n44 ?_
                    refine g_iload C tb_X12_isAsSeen_1_ok (i := 9) rfl rfl ?_
                    obtain ⟨b45, h⟩ := gA_e h
                    refine g_iald C tb_X12_isAsSeen_1_ok (i := 10) rfl b45 ?_
                    obtain ⟨b46, h⟩ := gA_e h
                    refine g_iald C tb_X12_isAsSeen_1_ok (i := 11) rfl b46 ?_
                    refine g_aload_n C tb_X12_isAsSeen_1_ok (i := 12) rfl rfl ?_
                    obtain ⟨n47, h⟩ := gN_e h
                    refine g_getR C tb_X12_isAsSeen_1_ok (i := 13) rfl fl_X12_110 rfl k1 n47 ?_
                    refine g_iload C tb_X12_isAsSeen_1_ok (i := 14) rfl rfl ?_
                    obtain ⟨b48, h⟩ := gA_e h
                    refine g_iald C tb_X12_isAsSeen_1_ok (i := 15) rfl b48 ?_
                    obtain ⟨t49, f50⟩ := br_e h
                    refine g_icmp_ne C tb_X12_isAsSeen_1_ok (i := 16) 104 rfl rfl (fun c => ?_) (fun c => ?_)
                    · have h := f50 c
                      exact g_less (L' := [some (.ref a0), some (.int v5), none, some (.int v12), some (.int v24)]) ⟨rfl, ⟨rfl, ⟨rfl, ⟨rfl, trivial⟩⟩⟩⟩ (J104 () h)
                    · have h := t49 c
                      exact g_less (L' := [some (.ref a0), some (.int v5), none, some (.int v12), some (.int v24)]) ⟨rfl, ⟨rfl, ⟨rfl, ⟨rfl, trivial⟩⟩⟩⟩ (J100 () h)
    · have h := f10 c
      refine g_iload_n C tb_X12_isAsSeen_0_ok (i := 13) rfl rfl ?_
      refine g_aload_n C tb_X12_isAsSeen_0_ok (i := 14) rfl rfl ?_
      obtain ⟨n51, h⟩ := gN_e h
      refine g_getR C tb_X12_isAsSeen_0_ok (i := 15) rfl fl_X12_107 rfl k1 n51 ?_
      refine g_iload_n C tb_X12_isAsSeen_0_ok (i := 16) rfl rfl ?_
      obtain ⟨b52, h⟩ := gA_e h
      refine g_iald C tb_X12_isAsSeen_0_ok (i := 17) rfl b52 ?_
      refine g_max C tb_X12_isAsSeen_0_ok (i := 18) rfl mt_X12_380 rfl rfl rfl ?_
      refine g_topi (fun v53 ev53 => ?_)
      have h := lt_e ev53 h
      refine g_istore_n C tb_X12_isAsSeen_0_ok (i := 19) rfl rfl rfl ?_
      obtain ⟨v54, ev54⟩ : ∃ w : Int32, w = v6 + (1 : Int32) := ⟨_, rfl⟩
      have h := lt_e ev54 h
      refine g_iincv C tb_X12_isAsSeen_0_ok (i := 20) (1 : Int32) ev54 rfl rfl k_iconstv_1 rfl rfl ?_
      refine g_goto C tb_X12_isAsSeen_0_ok (i := 21) 13 rfl rfl ?_
      exact g_less (L' := [some (.ref a0), some (.int v53), some (.int v54), none, none]) ⟨rfl, ⟨rfl, ⟨rfl, trivial⟩⟩⟩ (ih8 v53 v54 h)
def f_X12_tellFits (y : Lay) (a0 : Nat) (M : Mem) : Option (Int32 × Mem) := gK y a0 (0, 12) (lt (wI M a0 52 (0 : Int32)) fun (M2 : Mem) => fixN (fun _ _ => none) (fun (s5 : Int32 → Mem → Option (Int32 × Mem)) (v3 : Int32) (M4 : Mem) => gN (y.2.1 a0 5) (gA y (y.2.1 a0 5) 1 (2 : Int32) (br ((M4.1 (y.2.1 a0 5) (2 : Int32).toNatClampNeg) ≤ v3) (some (0, M4)) (gN (y.2.1 a0 13) (gA y (y.2.1 a0 13) 1 v3 (lt (M4.1 (y.2.1 a0 13) v3.toNatClampNeg) fun (v13 : Int32) => fixN (fun _ _ => none) (fun (s16 : Int32 → Mem → Option (Int32 × Mem)) (v14 : Int32) (M15 : Mem) => br ((10 : Int32) ≤ v14) (gA y (y.2.1 a0 13) 1 v3 (lt (wI M15 (y.2.1 a0 13) v3.toNatClampNeg v13) fun (M21 : Mem) => lt (v3 + (1 : Int32)) fun (v22 : Int32) => s5 v22 M21)) (gA y (y.2.1 a0 13) 1 v3 (lt (wI M15 (y.2.1 a0 13) v3.toNatClampNeg v14) fun (M24 : Mem) => jn (fun (M25 : Mem) => lt (v14 + (1 : Int32)) fun (v27 : Int32) => s16 v27 M25) fun j26 => br (v14 = v13) (j26 M24) (c0 (f_X12_isAsSeen y a0 M24) fun (r30 : Int32) (M31 : Mem) => br (r30 = 0) (j26 M31) (gN (y.2.1 a0 50) (gA y (y.2.1 a0 50) 1 (M31.1 a0 52) (lt (wI M31 (y.2.1 a0 50) (M31.1 a0 52).toNatClampNeg (((10 : Int32) * v3) + v14)) fun (M36 : Mem) => lt (wI M36 a0 52 ((M36.1 a0 52) + (1 : Int32))) fun (M37 : Mem) => j26 M37))))))) FUEL (0 : Int32) M4)))))) FUEL (0 : Int32) M2)
theorem w_X12_tellFits {g : GX} {l : Launch} (hG : GF g l) (y : Lay) (a0 : Nat) (M : Mem) : C0 g l yX12_tellFits cX12_tellFits 4 none 9 y [.ref a0] M (f_X12_tellFits y a0 M) := by
  refine C0_of hG (by decide) [some (.ref a0), none, none, none] rfl rfl (fun out h x Q C R => ?_)
  unfold f_X12_tellFits at h
  refine g_aload_n C tb_X12_tellFits_0_ok (i := 0) rfl rfl ?_
  refine g_iconstv C tb_X12_tellFits_0_ok (i := 1) 0 rfl k_iconstv_0 ?_
  obtain ⟨k1, h⟩ := gK_e h
  refine g_putI C tb_X12_tellFits_0_ok (i := 2) rfl fl_X12_472 ft_12_52 rfl k1 ?_
  refine g_mem (fun M2 eM2 => ?_)
  have h := lt_e eM2 h
  refine g_iconstv C tb_X12_tellFits_0_ok (i := 3) 0 rfl k_iconstv_0 ?_
  refine g_istore_n C tb_X12_tellFits_0_ok (i := 4) rfl rfl rfl ?_
  refine g_less (L' := [some (.ref a0), some (.int (0 : Int32)), none, none]) ⟨rfl, ⟨rfl, trivial⟩⟩ ?_
  refine fix_i (P := fun (f : Int32 → Mem → Option (Int32 × Mem)) => ∀ (v3 : Int32) (M4 : Mem), f v3 M4 = some out → GG g x 4 Q 0 0 y M4 7 [some (.ref a0), some (.int v3), none, none] []) ?_ ?_ _ (0 : Int32) M2 h
  · intro v3 M4 h; exact (nn_e h).elim
  · intro s5 ih6 v3 M4 h
    refine g_iload_n C tb_X12_tellFits_0_ok (i := 5) rfl rfl ?_
    refine g_aload_n C tb_X12_tellFits_0_ok (i := 6) rfl rfl ?_
    obtain ⟨n7, h⟩ := gN_e h
    refine g_getR C tb_X12_tellFits_0_ok (i := 7) rfl fl_X12_40 rfl k1 n7 ?_
    refine g_iconstv C tb_X12_tellFits_0_ok (i := 8) 2 rfl k_iconstv_2 ?_
    obtain ⟨b8, h⟩ := gA_e h
    refine g_iald C tb_X12_tellFits_0_ok (i := 9) rfl b8 ?_
    obtain ⟨t9, f10⟩ := br_e h
    refine g_icmp_ge C tb_X12_tellFits_0_ok (i := 10) 98 rfl rfl (fun c => ?_) (fun c => ?_)
    · have h := t9 c
      cases h
      exact g_vret0 C R tb_X12_tellFits_1_ok (i := 18) rfl
    · have h := f10 c
      refine g_aload_n C tb_X12_tellFits_0_ok (i := 11) rfl rfl ?_
      obtain ⟨n11, h⟩ := gN_e h
      refine g_getR C tb_X12_tellFits_0_ok (i := 12) rfl fl_X12_65 rfl k1 n11 ?_
      refine g_iload_n C tb_X12_tellFits_0_ok (i := 13) rfl rfl ?_
      obtain ⟨b12, h⟩ := gA_e h
      refine g_iald C tb_X12_tellFits_0_ok (i := 14) rfl b12 ?_
      refine g_topi (fun v13 ev13 => ?_)
      have h := lt_e ev13 h
      refine g_istore_n C tb_X12_tellFits_0_ok (i := 15) rfl rfl rfl ?_
      refine g_iconstv C tb_X12_tellFits_0_ok (i := 16) 0 rfl k_iconstv_0 ?_
      refine g_istore_n C tb_X12_tellFits_0_ok (i := 17) rfl rfl rfl ?_
      refine g_less (L' := [some (.ref a0), some (.int v3), some (.int v13), some (.int (0 : Int32))]) ⟨rfl, ⟨rfl, ⟨rfl, ⟨rfl, trivial⟩⟩⟩⟩ ?_
      refine fix_i (P := fun (f : Int32 → Mem → Option (Int32 × Mem)) => ∀ (v14 : Int32) (M15 : Mem), f v14 M15 = some out → GG g x 4 Q 0 0 y M15 26 [some (.ref a0), some (.int v3), some (.int v13), some (.int v14)] []) ?_ ?_ _ (0 : Int32) M4 h
      · intro v14 M15 h; exact (nn_e h).elim
      · intro s16 ih17 v14 M15 h
        refine g_iload_n C tb_X12_tellFits_0_ok (i := 18) rfl rfl ?_
        refine g_bipushv C tb_X12_tellFits_0_ok (i := 19) 10 rfl k_bipushv_10 ?_
        obtain ⟨t18, f19⟩ := br_e h
        refine g_icmp_ge C tb_X12_tellFits_0_ok (i := 20) 85 rfl rfl (fun c => ?_) (fun c => ?_)
        · have h := t18 c
          refine g_aload_n C tb_X12_tellFits_1_ok (i := 11) rfl rfl ?_
          refine g_getR C tb_X12_tellFits_1_ok (i := 12) rfl fl_X12_65 rfl k1 n11 ?_
          refine g_iload_n C tb_X12_tellFits_1_ok (i := 13) rfl rfl ?_
          refine g_iload_n C tb_X12_tellFits_1_ok (i := 14) rfl rfl ?_
          obtain ⟨b20, h⟩ := gA_e h
          refine g_iast C tb_X12_tellFits_1_ok (i := 15) rfl b20 ?_
          refine g_mem (fun M21 eM21 => ?_)
          have h := lt_e eM21 h
          obtain ⟨v22, ev22⟩ : ∃ w : Int32, w = v3 + (1 : Int32) := ⟨_, rfl⟩
          have h := lt_e ev22 h
          refine g_iincv C tb_X12_tellFits_1_ok (i := 16) (1 : Int32) ev22 rfl rfl k_iconstv_1 rfl rfl ?_
          refine g_goto C tb_X12_tellFits_1_ok (i := 17) 7 rfl rfl ?_
          exact g_less (L' := [some (.ref a0), some (.int v22), none, none]) ⟨rfl, ⟨rfl, trivial⟩⟩ (ih6 v22 M21 h)
        · have h := f19 c
          refine g_aload_n C tb_X12_tellFits_0_ok (i := 21) rfl rfl ?_
          refine g_getR C tb_X12_tellFits_0_ok (i := 22) rfl fl_X12_65 rfl k1 n11 ?_
          refine g_iload_n C tb_X12_tellFits_0_ok (i := 23) rfl rfl ?_
          refine g_iload_n C tb_X12_tellFits_0_ok (i := 24) rfl rfl ?_
          obtain ⟨b23, h⟩ := gA_e h
          refine g_iast C tb_X12_tellFits_0_ok (i := 25) rfl b23 ?_
          refine g_mem (fun M24 eM24 => ?_)
          have h := lt_e eM24 h
          refine g_iload_n C tb_X12_tellFits_0_ok (i := 26) rfl rfl ?_
          refine g_iload_n C tb_X12_tellFits_0_ok (i := 27) rfl rfl ?_
          obtain ⟨j26, ej26, h⟩ := jn_e h
          have J79 : ∀ (M25 : Mem), j26 M25 = some out → GG g x 4 Q 0 0 y M25 79 [some (.ref a0), some (.int v3), some (.int v13), some (.int v14)] [] := by
            intro M25 h; subst ej26
            obtain ⟨v27, ev27⟩ : ∃ w : Int32, w = v14 + (1 : Int32) := ⟨_, rfl⟩
            have h := lt_e ev27 h
            refine g_iincv C tb_X12_tellFits_1_ok (i := 9) (1 : Int32) ev27 rfl rfl k_iconstv_1 rfl rfl ?_
            refine g_goto C tb_X12_tellFits_1_ok (i := 10) 26 rfl rfl ?_
            exact g_less (L' := [some (.ref a0), some (.int v3), some (.int v13), some (.int v27)]) ⟨rfl, ⟨rfl, ⟨rfl, ⟨rfl, trivial⟩⟩⟩⟩ (ih17 v27 M25 h)
          obtain ⟨t28, f29⟩ := br_e h
          refine g_icmp_eq C tb_X12_tellFits_0_ok (i := 28) 79 rfl rfl (fun c => ?_) (fun c => ?_)
          · have h := t28 c
            exact g_less (L' := [some (.ref a0), some (.int v3), some (.int v13), some (.int v14)]) ⟨rfl, ⟨rfl, ⟨rfl, ⟨rfl, trivial⟩⟩⟩⟩ (J79 M24 h)
          · have h := f29 c
            refine g_aload_n C tb_X12_tellFits_0_ok (i := 29) rfl rfl ?_
            obtain ⟨r30, M31, er30, h⟩ := c0_e h
            refine g_callV0 C tb_X12_tellFits_0_ok (i := 30) [] rfl mw_X12_isAsSeen mv_X12_isAsSeen ml_X12_475 k1 rfl rfl rfl rfl (w_X12_isAsSeen C.G y a0 M24) er30 rfl rfl rfl ?_
            obtain ⟨t32, f33⟩ := br_e h
            refine g_if_ne C tb_X12_tellFits_0_ok (i := 31) 54 rfl rfl (fun c => ?_) (fun c => ?_)
            · have h := f33 c
              refine g_aload_n C tb_X12_tellFits_0_ok (i := 33) rfl rfl ?_
              obtain ⟨n34, h⟩ := gN_e h
              refine g_getR C tb_X12_tellFits_0_ok (i := 34) rfl fl_X12_116 rfl k1 n34 ?_
              refine g_aload_n C tb_X12_tellFits_0_ok (i := 35) rfl rfl ?_
              refine g_getI C tb_X12_tellFits_0_ok (i := 36) rfl fl_X12_472 rfl k1 ?_
              refine g_bipushv C tb_X12_tellFits_0_ok (i := 37) 10 rfl k_bipushv_10 ?_
              refine g_iload_n C tb_X12_tellFits_0_ok (i := 38) rfl rfl ?_
              refine g_imul C tb_X12_tellFits_0_ok (i := 39) rfl ?_
              refine g_iload_n C tb_X12_tellFits_1_ok (i := 0) rfl rfl ?_
              refine g_iadd C tb_X12_tellFits_1_ok (i := 1) rfl ?_
              obtain ⟨b35, h⟩ := gA_e h
              refine g_iast C tb_X12_tellFits_1_ok (i := 2) rfl b35 ?_
              refine g_mem (fun M36 eM36 => ?_)
              have h := lt_e eM36 h
              refine g_aload_n C tb_X12_tellFits_1_ok (i := 3) rfl rfl ?_
              refine g_dup C tb_X12_tellFits_1_ok (i := 4) rfl rfl ?_
              refine g_getI C tb_X12_tellFits_1_ok (i := 5) rfl fl_X12_472 rfl k1 ?_
              refine g_iconstv C tb_X12_tellFits_1_ok (i := 6) 1 rfl k_iconstv_1 ?_
              refine g_iadd C tb_X12_tellFits_1_ok (i := 7) rfl ?_
              refine g_putI C tb_X12_tellFits_1_ok (i := 8) rfl fl_X12_472 ft_12_52 rfl k1 ?_
              refine g_mem (fun M37 eM37 => ?_)
              have h := lt_e eM37 h
              exact g_less (L' := [some (.ref a0), some (.int v3), some (.int v13), some (.int v14)]) ⟨rfl, ⟨rfl, ⟨rfl, ⟨rfl, trivial⟩⟩⟩⟩ (J79 M37 h)
            · have h := t32 c
              refine g_goto C tb_X12_tellFits_0_ok (i := 32) 79 rfl rfl ?_
              exact g_less (L' := [some (.ref a0), some (.int v3), some (.int v13), some (.int v14)]) ⟨rfl, ⟨rfl, ⟨rfl, ⟨rfl, trivial⟩⟩⟩⟩ (J79 M31 h)
def f_X12_skilled (y : Lay) (a0 : Nat) (a1 : Int32) (M : Mem) : Option (Int32 × Mem) := gK y a0 (0, 12) (lt (wI M a0 4 (0 : Int32)) fun (M2 : Mem) => cp (f_X12_isIn y (a1.toInt64) (0 : Int64) (2 : Int64) M2) fun (r3 : Int32) => br (r3 = 0) (c0 (f_X12_fail y a0 (1 : Int32) M2) fun (r24 : Int32) (M25 : Mem) => some (r24, M25)) (br (a1 = (2 : Int32)) (c0 (f_X12_isAsSeen y a0 M2) fun (r18 : Int32) (M19 : Mem) => jn (fun (v20 : Int32) => some (v20, M19)) fun j21 => br (r18 = 0) (j21 (0 : Int32)) (j21 (1 : Int32))) (c0 (f_X12_tellFits y a0 M2) fun (r8 : Int32) (M9 : Mem) => jn (fun (v10 : Int32) => some (v10, M9)) fun j11 => br (a1 = 0) (j11 (M9.1 a0 52)) (br ((M9.1 a0 52) = 0) (j11 ((-1) : Int32)) (gN (y.2.1 a0 50) (gA y (y.2.1 a0 50) 1 (0 : Int32) (j11 (M9.1 (y.2.1 a0 50) (0 : Int32).toNatClampNeg))))))))
theorem w_X12_skilled {g : GX} {l : Launch} (hG : GF g l) (y : Lay) (a0 : Nat) (a1 : Int32) (M : Mem) : C0 g l yX12_skilled cX12_skilled 2 (some .int) 10 y [.ref a0, .int a1] M (f_X12_skilled y a0 a1 M) := by
  refine C0_of hG (by decide) [some (.ref a0), some (.int a1)] rfl rfl (fun out h x Q C R => ?_)
  unfold f_X12_skilled at h
  refine g_aload_n C tb_X12_skilled_0_ok (i := 0) rfl rfl ?_
  refine g_iconstv C tb_X12_skilled_0_ok (i := 1) 0 rfl k_iconstv_0 ?_
  obtain ⟨k1, h⟩ := gK_e h
  refine g_putI C tb_X12_skilled_0_ok (i := 2) rfl fl_X12_150 ft_12_4 rfl k1 ?_
  refine g_mem (fun M2 eM2 => ?_)
  have h := lt_e eM2 h
  refine g_iload_n C tb_X12_skilled_0_ok (i := 3) rfl rfl ?_
  refine g_i2l C tb_X12_skilled_0_ok (i := 4) rfl ?_
  refine g_lconst C tb_X12_skilled_0_ok (i := 5) 0 rfl rfl ?_
  refine g_ldc2 C tb_X12_skilled_0_ok (i := 6) rfl cl_X12_479 ?_
  obtain ⟨r3, er3, h⟩ := cp_e h
  refine g_callS0 C tb_X12_skilled_0_ok (i := 7) [.long (a1.toInt64), .long (0 : Int64), .long (2 : Int64)] rfl mw_X12_isIn mst_X12_isIn ml_X12_157 rfl rfl rfl rfl (w_X12_isIn C.G y (a1.toInt64) (0 : Int64) (2 : Int64) M2) (pm_s er3) rfl rfl rfl ?_
  obtain ⟨t4, f5⟩ := br_e h
  refine g_if_ne C tb_X12_skilled_0_ok (i := 8) 23 rfl rfl (fun c => ?_) (fun c => ?_)
  · have h := f5 c
    refine g_iload_n C tb_X12_skilled_0_ok (i := 13) rfl rfl ?_
    refine g_iconstv C tb_X12_skilled_0_ok (i := 14) 2 rfl k_iconstv_2 ?_
    obtain ⟨t6, f7⟩ := br_e h
    refine g_icmp_ne C tb_X12_skilled_0_ok (i := 15) 41 rfl rfl (fun c => ?_) (fun c => ?_)
    · have h := f7 c
      refine g_aload_n C tb_X12_skilled_0_ok (i := 23) rfl rfl ?_
      obtain ⟨r8, M9, er8, h⟩ := c0_e h
      refine g_callV0 C tb_X12_skilled_0_ok (i := 24) [] rfl mw_X12_tellFits mv_X12_tellFits ml_X12_481 k1 rfl rfl rfl rfl (w_X12_tellFits C.G y a0 M2) er8 rfl rfl rfl ?_
      refine g_iload_n C tb_X12_skilled_0_ok (i := 25) rfl rfl ?_
      obtain ⟨j11, ej11, h⟩ := jn_e h
      have J73 : ∀ (v10 : Int32), j11 v10 = some out → GG g x 2 Q 0 0 y M9 73 [none, none] [.int v10] := by
        intro v10 h; subst ej11
        cases h
        exact g_iret0 C R tb_X12_skilled_0_ok (i := 39) rfl
      obtain ⟨t12, f13⟩ := br_e h
      refine g_if_ne C tb_X12_skilled_0_ok (i := 26) 56 rfl rfl (fun c => ?_) (fun c => ?_)
      · have h := f13 c
        refine g_aload_n C tb_X12_skilled_0_ok (i := 30) rfl rfl ?_
        refine g_getI C tb_X12_skilled_0_ok (i := 31) rfl fl_X12_472 rfl k1 ?_
        obtain ⟨t14, f15⟩ := br_e h
        refine g_if_ne C tb_X12_skilled_0_ok (i := 32) 67 rfl rfl (fun c => ?_) (fun c => ?_)
        · have h := f15 c
          refine g_aload_n C tb_X12_skilled_0_ok (i := 35) rfl rfl ?_
          obtain ⟨n16, h⟩ := gN_e h
          refine g_getR C tb_X12_skilled_0_ok (i := 36) rfl fl_X12_116 rfl k1 n16 ?_
          refine g_iconstv C tb_X12_skilled_0_ok (i := 37) 0 rfl k_iconstv_0 ?_
          obtain ⟨b17, h⟩ := gA_e h
          refine g_iald C tb_X12_skilled_0_ok (i := 38) rfl b17 ?_
          exact g_less (L' := [none, none]) trivial (J73 (M9.1 (y.2.1 a0 50) (0 : Int32).toNatClampNeg) h)
        · have h := t14 c
          refine g_iconstv C tb_X12_skilled_0_ok (i := 33) (-1) rfl k_iconstv_m1 ?_
          refine g_goto C tb_X12_skilled_0_ok (i := 34) 73 rfl rfl ?_
          exact g_less (L' := [none, none]) trivial (J73 ((-1) : Int32) h)
      · have h := t12 c
        refine g_aload_n C tb_X12_skilled_0_ok (i := 27) rfl rfl ?_
        refine g_getI C tb_X12_skilled_0_ok (i := 28) rfl fl_X12_472 rfl k1 ?_
        refine g_goto C tb_X12_skilled_0_ok (i := 29) 73 rfl rfl ?_
        exact g_less (L' := [none, none]) trivial (J73 (M9.1 a0 52) h)
    · have h := t6 c
      refine g_aload_n C tb_X12_skilled_0_ok (i := 16) rfl rfl ?_
      obtain ⟨r18, M19, er18, h⟩ := c0_e h
      refine g_callV0 C tb_X12_skilled_0_ok (i := 17) [] rfl mw_X12_isAsSeen mv_X12_isAsSeen ml_X12_475 k1 rfl rfl rfl rfl (w_X12_isAsSeen C.G y a0 M2) er18 rfl rfl rfl ?_
      obtain ⟨j21, ej21, h⟩ := jn_e h
      have J40 : ∀ (v20 : Int32), j21 v20 = some out → GG g x 2 Q 0 0 y M19 40 [none, none] [.int v20] := by
        intro v20 h; subst ej21
        cases h
        exact g_iret0 C R tb_X12_skilled_0_ok (i := 22) rfl
      obtain ⟨t22, f23⟩ := br_e h
      refine g_if_eq C tb_X12_skilled_0_ok (i := 18) 39 rfl rfl (fun c => ?_) (fun c => ?_)
      · have h := t22 c
        refine g_iconstv C tb_X12_skilled_0_ok (i := 21) 0 rfl k_iconstv_0 ?_
        exact g_less (L' := [none, none]) trivial (J40 (0 : Int32) h)
      · have h := f23 c
        refine g_iconstv C tb_X12_skilled_0_ok (i := 19) 1 rfl k_iconstv_1 ?_
        refine g_goto C tb_X12_skilled_0_ok (i := 20) 40 rfl rfl ?_
        exact g_less (L' := [none, none]) trivial (J40 (1 : Int32) h)
  · have h := t4 c
    refine g_aload_n C tb_X12_skilled_0_ok (i := 9) rfl rfl ?_
    refine g_iconstv C tb_X12_skilled_0_ok (i := 10) 1 rfl k_iconstv_1 ?_
    obtain ⟨r24, M25, er24, h⟩ := c0_e h
    refine g_callV0 C tb_X12_skilled_0_ok (i := 11) [.int (1 : Int32)] rfl mw_X12_fail mv_X12_fail ml_X12_318 k1 rfl rfl rfl rfl (w_X12_fail C.G y a0 (1 : Int32) M2) er24 rfl rfl rfl ?_
    cases h
    exact g_iret0 C R tb_X12_skilled_0_ok (i := 12) rfl
def f_X12_unlike (y : Lay) (a0 : Nat) (a1 : Int32) (M : Mem) : Option Int32 := fixN (fun _ _ => none) (fun (s3 : Int32 → Int32 → Option Int32) (v1 : Int32) (v2 : Int32) => gK y a0 (0, 12) (br ((M.1 a0 52) ≤ v2) (some v1) (fixN (fun _ _ => none) (fun (s10 : Int32 → Int32 → Option Int32) (v8 : Int32) (v9 : Int32) => jn (fun (_u : Unit) => jn (fun (v13 : Int32) => lt (v1 + v13) fun (v15 : Int32) => lt (v2 + (1 : Int32)) fun (v16 : Int32) => s3 v15 v16) fun j14 => br (v8 = 0) (j14 (0 : Int32)) (j14 (1 : Int32))) fun j12 => br (v2 ≤ v9) (j12 ()) (br (v8 = 0) (j12 ()) (gN (y.2.1 a0 51) (gA y (y.2.1 a0 51) 1 (((30 : Int32) * v9) + a1) (gA y (y.2.1 a0 51) 1 (((30 : Int32) * v2) + a1) (jn (fun (v26 : Int32) => lt (v9 + (1 : Int32)) fun (v28 : Int32) => s10 v26 v28) fun j27 => br ((M.1 (y.2.1 a0 51) (((30 : Int32) * v9) + a1).toNatClampNeg) = (M.1 (y.2.1 a0 51) (((30 : Int32) * v2) + a1).toNatClampNeg)) (j27 (0 : Int32)) (j27 (1 : Int32)))))))) FUEL (1 : Int32) (0 : Int32)))) FUEL (0 : Int32) (0 : Int32)
theorem w_X12_unlike {g : GX} {l : Launch} (hG : GF g l) (y : Lay) (a0 : Nat) (a1 : Int32) (M : Mem) : C0 g l yX12_unlike cX12_unlike 6 (some .int) 0 y [.ref a0, .int a1] M (pm M (f_X12_unlike y a0 a1 M)) := by
  refine CP_of hG (by decide) [some (.ref a0), some (.int a1), none, none, none, none] rfl rfl (fun out h x Q C R => ?_)
  unfold f_X12_unlike at h
  refine g_iconstv C tb_X12_unlike_0_ok (i := 0) 0 rfl k_iconstv_0 ?_
  refine g_istore_n C tb_X12_unlike_0_ok (i := 1) rfl rfl rfl ?_
  refine g_iconstv C tb_X12_unlike_0_ok (i := 2) 0 rfl k_iconstv_0 ?_
  refine g_istore_n C tb_X12_unlike_0_ok (i := 3) rfl rfl rfl ?_
  refine g_less (L' := [some (.ref a0), some (.int a1), some (.int (0 : Int32)), some (.int (0 : Int32)), none, none]) ⟨rfl, ⟨rfl, ⟨rfl, ⟨rfl, trivial⟩⟩⟩⟩ ?_
  refine fix_i (P := fun (f : Int32 → Int32 → Option Int32) => ∀ (v1 : Int32) (v2 : Int32), f v1 v2 = some out → GG g x 6 Q 0 0 y M 4 [some (.ref a0), some (.int a1), some (.int v1), some (.int v2), none, none] []) ?_ ?_ _ (0 : Int32) (0 : Int32) h
  · intro v1 v2 h; exact (nn_e h).elim
  · intro s3 ih4 v1 v2 h
    refine g_iload_n C tb_X12_unlike_0_ok (i := 4) rfl rfl ?_
    refine g_aload_n C tb_X12_unlike_0_ok (i := 5) rfl rfl ?_
    obtain ⟨k5, h⟩ := gK_e h
    refine g_getI C tb_X12_unlike_0_ok (i := 6) rfl fl_X12_472 rfl k5 ?_
    obtain ⟨t6, f7⟩ := br_e h
    refine g_icmp_ge C tb_X12_unlike_0_ok (i := 7) 87 rfl rfl (fun c => ?_) (fun c => ?_)
    · have h := t6 c
      refine g_iload_n C tb_X12_unlike_1_ok (i := 10) rfl rfl ?_
      cases h
      exact g_iret0 C R tb_X12_unlike_1_ok (i := 11) rfl
    · have h := f7 c
      refine g_iconstv C tb_X12_unlike_0_ok (i := 8) 1 rfl k_iconstv_1 ?_
      refine g_istore C tb_X12_unlike_0_ok (i := 9) rfl rfl rfl ?_
      refine g_iconstv C tb_X12_unlike_0_ok (i := 10) 0 rfl k_iconstv_0 ?_
      refine g_istore C tb_X12_unlike_0_ok (i := 11) rfl rfl rfl ?_
      refine g_less (L' := [some (.ref a0), some (.int a1), some (.int v1), some (.int v2), some (.int (1 : Int32)), some (.int (0 : Int32))]) ⟨rfl, ⟨rfl, ⟨rfl, ⟨rfl, ⟨rfl, ⟨rfl, trivial⟩⟩⟩⟩⟩⟩ ?_
      refine fix_i (P := fun (f : Int32 → Int32 → Option Int32) => ∀ (v8 : Int32) (v9 : Int32), f v8 v9 = some out → GG g x 6 Q 0 0 y M 18 [some (.ref a0), some (.int a1), some (.int v1), some (.int v2), some (.int v8), some (.int v9)] []) ?_ ?_ _ (1 : Int32) (0 : Int32) h
      · intro v8 v9 h; exact (nn_e h).elim
      · intro s10 ih11 v8 v9 h
        refine g_iload C tb_X12_unlike_0_ok (i := 12) rfl rfl ?_
        refine g_iload_n C tb_X12_unlike_0_ok (i := 13) rfl rfl ?_
        obtain ⟨j12, ej12, h⟩ := jn_e h
        have J68 : ∀ (_u : Unit), j12 _u = some out → GG g x 6 Q 0 0 y M 68 [some (.ref a0), some (.int a1), some (.int v1), some (.int v2), some (.int v8), none] [] := by
          intro _u h; subst ej12
          refine g_iload_n C tb_X12_unlike_1_ok (i := 0) rfl rfl ?_
          refine g_iload C tb_X12_unlike_1_ok (i := 1) rfl rfl ?_
          obtain ⟨j14, ej14, h⟩ := jn_e h
          have J79 : ∀ (v13 : Int32), j14 v13 = some out → GG g x 6 Q 0 0 y M 79 [some (.ref a0), some (.int a1), none, some (.int v2), none, none] [.int v13, .int v1] := by
            intro v13 h; subst ej14
            refine g_iadd C tb_X12_unlike_1_ok (i := 6) rfl ?_
            refine g_topi (fun v15 ev15 => ?_)
            have h := lt_e ev15 h
            refine g_istore_n C tb_X12_unlike_1_ok (i := 7) rfl rfl rfl ?_
            obtain ⟨v16, ev16⟩ : ∃ w : Int32, w = v2 + (1 : Int32) := ⟨_, rfl⟩
            have h := lt_e ev16 h
            refine g_iincv C tb_X12_unlike_1_ok (i := 8) (1 : Int32) ev16 rfl rfl k_iconstv_1 rfl rfl ?_
            refine g_goto C tb_X12_unlike_1_ok (i := 9) 4 rfl rfl ?_
            exact g_less (L' := [some (.ref a0), some (.int a1), some (.int v15), some (.int v16), none, none]) ⟨rfl, ⟨rfl, ⟨rfl, ⟨rfl, trivial⟩⟩⟩⟩ (ih4 v15 v16 h)
          obtain ⟨t17, f18⟩ := br_e h
          refine g_if_eq C tb_X12_unlike_1_ok (i := 2) 78 rfl rfl (fun c => ?_) (fun c => ?_)
          · have h := t17 c
            refine g_iconstv C tb_X12_unlike_1_ok (i := 5) 0 rfl k_iconstv_0 ?_
            exact g_less (L' := [some (.ref a0), some (.int a1), none, some (.int v2), none, none]) ⟨rfl, ⟨rfl, ⟨rfl, trivial⟩⟩⟩ (J79 (0 : Int32) h)
          · have h := f18 c
            refine g_iconstv C tb_X12_unlike_1_ok (i := 3) 1 rfl k_iconstv_1 ?_
            refine g_goto C tb_X12_unlike_1_ok (i := 4) 79 rfl rfl ?_
            exact g_less (L' := [some (.ref a0), some (.int a1), none, some (.int v2), none, none]) ⟨rfl, ⟨rfl, ⟨rfl, trivial⟩⟩⟩ (J79 (1 : Int32) h)
        obtain ⟨t19, f20⟩ := br_e h
        refine g_icmp_ge C tb_X12_unlike_0_ok (i := 14) 68 rfl rfl (fun c => ?_) (fun c => ?_)
        · have h := t19 c
          exact g_less (L' := [some (.ref a0), some (.int a1), some (.int v1), some (.int v2), some (.int v8), none]) ⟨rfl, ⟨rfl, ⟨rfl, ⟨rfl, ⟨rfl, trivial⟩⟩⟩⟩⟩ (J68 () h)
        · have h := f20 c
          refine g_iload C tb_X12_unlike_0_ok (i := 15) rfl rfl ?_
          obtain ⟨t21, f22⟩ := br_e h
          refine g_if_eq C tb_X12_unlike_0_ok (i := 16) 68 rfl rfl (fun c => ?_) (fun c => ?_)
          · have h := t21 c
            exact g_less (L' := [some (.ref a0), some (.int a1), some (.int v1), some (.int v2), some (.int v8), none]) ⟨rfl, ⟨rfl, ⟨rfl, ⟨rfl, ⟨rfl, trivial⟩⟩⟩⟩⟩ (J68 () h)
          · have h := f22 c
            refine g_aload_n C tb_X12_unlike_0_ok (i := 17) rfl rfl ?_
            obtain ⟨n23, h⟩ := gN_e h
            refine g_getR C tb_X12_unlike_0_ok (i := 18) rfl fl_X12_119 rfl k5 n23 ?_
            refine g_bipushv C tb_X12_unlike_0_ok (i := 19) 30 rfl k_bipushv_30 ?_
            refine g_iload C tb_X12_unlike_0_ok (i := 20) rfl rfl ?_
            refine g_imul C tb_X12_unlike_0_ok (i := 21) rfl ?_
            refine g_iload_n C tb_X12_unlike_0_ok (i := 22) rfl rfl ?_
            refine g_iadd C tb_X12_unlike_0_ok (i := 23) rfl ?_
            obtain ⟨b24, h⟩ := gA_e h
            refine g_iald C tb_X12_unlike_0_ok (i := 24) rfl b24 ?_
            refine g_aload_n C tb_X12_unlike_0_ok (i := 25) rfl rfl ?_
            refine g_getR C tb_X12_unlike_0_ok (i := 26) rfl fl_X12_119 rfl k5 n23 ?_
            refine g_bipushv C tb_X12_unlike_0_ok (i := 27) 30 rfl k_bipushv_30 ?_
            refine g_iload_n C tb_X12_unlike_0_ok (i := 28) rfl rfl ?_
            refine g_imul C tb_X12_unlike_0_ok (i := 29) rfl ?_
            refine g_iload_n C tb_X12_unlike_0_ok (i := 30) rfl rfl ?_
            refine g_iadd C tb_X12_unlike_0_ok (i := 31) rfl ?_
            obtain ⟨b25, h⟩ := gA_e h
            refine g_iald C tb_X12_unlike_0_ok (i := 32) rfl b25 ?_
            obtain ⟨j27, ej27, h⟩ := jn_e h
            have J60 : ∀ (v26 : Int32), j27 v26 = some out → GG g x 6 Q 0 0 y M 60 [some (.ref a0), some (.int a1), some (.int v1), some (.int v2), none, some (.int v9)] [.int v26] := by
              intro v26 h; subst ej27
              refine g_istore C tb_X12_unlike_0_ok (i := 37) rfl rfl rfl ?_
              obtain ⟨v28, ev28⟩ : ∃ w : Int32, w = v9 + (1 : Int32) := ⟨_, rfl⟩
              have h := lt_e ev28 h
              refine g_iincv C tb_X12_unlike_0_ok (i := 38) (1 : Int32) ev28 rfl rfl k_iconstv_1 rfl rfl ?_
              refine g_goto C tb_X12_unlike_0_ok (i := 39) 18 rfl rfl ?_
              exact g_less (L' := [some (.ref a0), some (.int a1), some (.int v1), some (.int v2), some (.int v26), some (.int v28)]) ⟨rfl, ⟨rfl, ⟨rfl, ⟨rfl, ⟨rfl, ⟨rfl, trivial⟩⟩⟩⟩⟩⟩ (ih11 v26 v28 h)
            obtain ⟨t29, f30⟩ := br_e h
            refine g_icmp_eq C tb_X12_unlike_0_ok (i := 33) 59 rfl rfl (fun c => ?_) (fun c => ?_)
            · have h := t29 c
              refine g_iconstv C tb_X12_unlike_0_ok (i := 36) 0 rfl k_iconstv_0 ?_
              exact g_less (L' := [some (.ref a0), some (.int a1), some (.int v1), some (.int v2), none, some (.int v9)]) ⟨rfl, ⟨rfl, ⟨rfl, ⟨rfl, ⟨rfl, trivial⟩⟩⟩⟩⟩ (J60 (0 : Int32) h)
            · have h := f30 c
              refine g_iconstv C tb_X12_unlike_0_ok (i := 34) 1 rfl k_iconstv_1 ?_
              refine g_goto C tb_X12_unlike_0_ok (i := 35) 60 rfl rfl ?_
              exact g_less (L' := [some (.ref a0), some (.int a1), some (.int v1), some (.int v2), none, some (.int v9)]) ⟨rfl, ⟨rfl, ⟨rfl, ⟨rfl, ⟨rfl, trivial⟩⟩⟩⟩⟩ (J60 (1 : Int32) h)
def f_X12_look (y : Lay) (a0 : Nat) (a1 : Int32) (M : Mem) : Option (Int32 × Mem) := gK y a0 (0, 12) (lt (wI M a0 4 (0 : Int32)) fun (M2 : Mem) => jn (fun (_u : Unit) => c0 (f_X12_fail y a0 (1 : Int32) M2) fun (r4 : Int32) (M5 : Mem) => some (r4, M5)) fun j3 => br (a1 < 0) (j3 ()) (br (a1 ≤ (1 : Int32)) (c0 (f_X12_tellFits y a0 M2) fun (r10 : Int32) (M11 : Mem) => gN (y.2.1 a0 42) (c0 (f_X12_pack y a0 (y.2.1 a0 42) (0 : Int32) M11) fun (r13 : Int32) (M14 : Mem) => fixN (fun _ _ => none) (fun (s17 : Int32 → Mem → Option (Int32 × Mem)) (v15 : Int32) (M16 : Mem) => br ((M16.1 a0 52) ≤ v15) (lt ((-1) : Int32) fun (v21 : Int32) => fixN (fun _ _ _ => none) (fun (s25 : Int32 → Int32 → Int32 → Option (Int32 × Mem)) (v22 : Int32) (v23 : Int32) (v24 : Int32) => cp (f_X12_cells y a0 M16) fun (r27 : Int32) => br (r27 ≤ v24) (jn (fun (v30 : Int32) => some (v30, M16)) fun j31 => br (a1 = 0) (j31 v22) (j31 v23)) (cp (f_X12_unlike y a0 v24 M16) fun (r34 : Int32) => jn (fun (v35 : Int32) (v36 : Int32) => lt (v24 + (1 : Int32)) fun (v38 : Int32) => s25 v35 v36 v38) fun j37 => br (v23 < r34) (j37 v24 r34) (j37 v22 v23))) FUEL v21 (0 : Int32) (0 : Int32)) (gN (y.2.1 a0 50) (gA y (y.2.1 a0 50) 1 v15 (gd (¬ (10 : Int32) = 0) (lt ((M16.1 (y.2.1 a0 50) v15.toNatClampNeg) / (10 : Int32)) fun (v44 : Int32) => gN (y.2.1 a0 13) (gA y (y.2.1 a0 13) 1 v44 (lt (M16.1 (y.2.1 a0 13) v44.toNatClampNeg) fun (v47 : Int32) => gA y (y.2.1 a0 50) 1 v15 (gd (¬ (10 : Int32) = 0) (gA y (y.2.1 a0 13) 1 v44 (lt (wI M16 (y.2.1 a0 13) v44.toNatClampNeg ((M16.1 (y.2.1 a0 50) v15.toNatClampNeg) - (M16.1 (y.2.1 a0 50) v15.toNatClampNeg) / (10 : Int32) * (10 : Int32))) fun (M51 : Mem) => c0 (f_X12_goOn y a0 (5 : Int32) M51) fun (r52 : Int32) (M53 : Mem) => fixN (fun _ _ => none) (fun (s56 : Int32 → Mem → Option (Int32 × Mem)) (v54 : Int32) (M55 : Mem) => br ((30 : Int32) ≤ v54) (gA y (y.2.1 a0 13) 1 v44 (lt (wI M55 (y.2.1 a0 13) v44.toNatClampNeg v47) fun (M61 : Mem) => c0 (f_X12_unpack y a0 (y.2.1 a0 42) (0 : Int32) M61) fun (r62 : Int32) (M63 : Mem) => lt (v15 + (1 : Int32)) fun (v64 : Int32) => s17 v64 M63)) (gN (y.2.1 a0 51) (gN (y.2.1 a0 28) (gA y (y.2.1 a0 28) 1 v54 (gA y (y.2.1 a0 51) 1 (((30 : Int32) * v15) + v54) (lt (wI M55 (y.2.1 a0 51) (((30 : Int32) * v15) + v54).toNatClampNeg (M55.1 (y.2.1 a0 28) v54.toNatClampNeg)) fun (M69 : Mem) => lt (v54 + (1 : Int32)) fun (v70 : Int32) => s56 v70 M69)))))) FUEL (0 : Int32) M53)))))))))) FUEL (0 : Int32) M14)) (j3 ())))
theorem w_X12_look {g : GX} {l : Launch} (hG : GF g l) (y : Lay) (a0 : Nat) (a1 : Int32) (M : Mem) : C0 g l yX12_look cX12_look 6 (some .int) 10 y [.ref a0, .int a1] M (f_X12_look y a0 a1 M) := by
  refine C0_of hG (by decide) [some (.ref a0), some (.int a1), none, none, none, none] rfl rfl (fun out h x Q C R => ?_)
  unfold f_X12_look at h
  refine g_aload_n C tb_X12_look_0_ok (i := 0) rfl rfl ?_
  refine g_iconstv C tb_X12_look_0_ok (i := 1) 0 rfl k_iconstv_0 ?_
  obtain ⟨k1, h⟩ := gK_e h
  refine g_putI C tb_X12_look_0_ok (i := 2) rfl fl_X12_150 ft_12_4 rfl k1 ?_
  refine g_mem (fun M2 eM2 => ?_)
  have h := lt_e eM2 h
  refine g_iload_n C tb_X12_look_0_ok (i := 3) rfl rfl ?_
  obtain ⟨j3, ej3, h⟩ := jn_e h
  have J14 : ∀ (_u : Unit), j3 _u = some out → GG g x 6 Q 0 0 y M2 14 [some (.ref a0), none, none, none, none, none] [] := by
    intro _u h; subst ej3
    refine g_aload_n C tb_X12_look_0_ok (i := 8) rfl rfl ?_
    refine g_iconstv C tb_X12_look_0_ok (i := 9) 1 rfl k_iconstv_1 ?_
    obtain ⟨r4, M5, er4, h⟩ := c0_e h
    refine g_callV0 C tb_X12_look_0_ok (i := 10) [.int (1 : Int32)] rfl mw_X12_fail mv_X12_fail ml_X12_318 k1 rfl rfl rfl rfl (w_X12_fail C.G y a0 (1 : Int32) M2) er4 rfl rfl rfl ?_
    cases h
    exact g_iret0 C R tb_X12_look_0_ok (i := 11) rfl
  obtain ⟨t6, f7⟩ := br_e h
  refine g_if_lt C tb_X12_look_0_ok (i := 4) 14 rfl rfl (fun c => ?_) (fun c => ?_)
  · have h := t6 c
    exact g_less (L' := [some (.ref a0), none, none, none, none, none]) ⟨rfl, trivial⟩ (J14 () h)
  · have h := f7 c
    refine g_iload_n C tb_X12_look_0_ok (i := 5) rfl rfl ?_
    refine g_iconstv C tb_X12_look_0_ok (i := 6) 1 rfl k_iconstv_1 ?_
    obtain ⟨t8, f9⟩ := br_e h
    refine g_icmp_le C tb_X12_look_0_ok (i := 7) 20 rfl rfl (fun c => ?_) (fun c => ?_)
    · have h := t8 c
      refine g_aload_n C tb_X12_look_0_ok (i := 12) rfl rfl ?_
      obtain ⟨r10, M11, er10, h⟩ := c0_e h
      refine g_callV0 C tb_X12_look_0_ok (i := 13) [] rfl mw_X12_tellFits mv_X12_tellFits ml_X12_481 k1 rfl rfl rfl rfl (w_X12_tellFits C.G y a0 M2) er10 rfl rfl rfl ?_
      refine g_aload_n C tb_X12_look_0_ok (i := 14) rfl rfl ?_
      refine g_aload_n C tb_X12_look_0_ok (i := 15) rfl rfl ?_
      obtain ⟨n12, h⟩ := gN_e h
      refine g_getR C tb_X12_look_0_ok (i := 16) rfl fl_X12_92 rfl k1 n12 ?_
      refine g_iconstv C tb_X12_look_0_ok (i := 17) 0 rfl k_iconstv_0 ?_
      obtain ⟨r13, M14, er13, h⟩ := c0_e h
      refine g_callV0 C tb_X12_look_0_ok (i := 18) [.ref (y.2.1 a0 42), .int (0 : Int32)] rfl mw_X12_pack mv_X12_pack ml_X12_420 k1 rfl rfl rfl rfl (w_X12_pack C.G y a0 (y.2.1 a0 42) (0 : Int32) M11) er13 rfl rfl rfl ?_
      refine g_iconstv C tb_X12_look_0_ok (i := 19) 0 rfl k_iconstv_0 ?_
      refine g_istore_n C tb_X12_look_0_ok (i := 20) rfl rfl rfl ?_
      refine g_less (L' := [some (.ref a0), some (.int a1), some (.int (0 : Int32)), none, none, none]) ⟨rfl, ⟨rfl, ⟨rfl, trivial⟩⟩⟩ ?_
      refine fix_i (P := fun (f : Int32 → Mem → Option (Int32 × Mem)) => ∀ (v15 : Int32) (M16 : Mem), f v15 M16 = some out → GG g x 6 Q 0 0 y M16 35 [some (.ref a0), some (.int a1), some (.int v15), none, none, none] []) ?_ ?_ _ (0 : Int32) M14 h
      · intro v15 M16 h; exact (nn_e h).elim
      · intro s17 ih18 v15 M16 h
        refine g_iload_n C tb_X12_look_0_ok (i := 21) rfl rfl ?_
        refine g_aload_n C tb_X12_look_0_ok (i := 22) rfl rfl ?_
        refine g_getI C tb_X12_look_0_ok (i := 23) rfl fl_X12_472 rfl k1 ?_
        obtain ⟨t19, f20⟩ := br_e h
        refine g_icmp_ge C tb_X12_look_0_ok (i := 24) 139 rfl rfl (fun c => ?_) (fun c => ?_)
        · have h := t19 c
          refine g_iconstv C tb_X12_look_2_ok (i := 1) (-1) rfl k_iconstv_m1 ?_
          refine g_topi (fun v21 ev21 => ?_)
          have h := lt_e ev21 h
          refine g_istore_n C tb_X12_look_2_ok (i := 2) rfl rfl rfl ?_
          refine g_iconstv C tb_X12_look_2_ok (i := 3) 0 rfl k_iconstv_0 ?_
          refine g_istore_n C tb_X12_look_2_ok (i := 4) rfl rfl rfl ?_
          refine g_iconstv C tb_X12_look_2_ok (i := 5) 0 rfl k_iconstv_0 ?_
          refine g_istore C tb_X12_look_2_ok (i := 6) rfl rfl rfl ?_
          refine g_less (L' := [some (.ref a0), some (.int a1), some (.int v21), some (.int (0 : Int32)), some (.int (0 : Int32)), none]) ⟨rfl, ⟨rfl, ⟨rfl, ⟨rfl, ⟨rfl, trivial⟩⟩⟩⟩⟩ ?_
          refine fix_i (P := fun (f : Int32 → Int32 → Int32 → Option (Int32 × Mem)) => ∀ (v22 : Int32) (v23 : Int32) (v24 : Int32), f v22 v23 v24 = some out → GG g x 6 Q 0 0 y M16 146 [some (.ref a0), some (.int a1), some (.int v22), some (.int v23), some (.int v24), none] []) ?_ ?_ _ v21 (0 : Int32) (0 : Int32) h
          · intro v22 v23 v24 h; exact (nn_e h).elim
          · intro s25 ih26 v22 v23 v24 h
            refine g_iload C tb_X12_look_2_ok (i := 7) rfl rfl ?_
            refine g_aload_n C tb_X12_look_2_ok (i := 8) rfl rfl ?_
            obtain ⟨r27, er27, h⟩ := cp_e h
            refine g_callV0 C tb_X12_look_2_ok (i := 9) [] rfl mw_X12_cells mv_X12_cells ml_X12_153 k1 rfl rfl rfl rfl (w_X12_cells C.G y a0 M16) (pm_s er27) rfl rfl rfl ?_
            obtain ⟨t28, f29⟩ := br_e h
            refine g_icmp_ge C tb_X12_look_2_ok (i := 10) 184 rfl rfl (fun c => ?_) (fun c => ?_)
            · have h := t28 c
              refine g_iload_n C tb_X12_look_2_ok (i := 25) rfl rfl ?_
              obtain ⟨j31, ej31, h⟩ := jn_e h
              have J193 : ∀ (v30 : Int32), j31 v30 = some out → GG g x 6 Q 0 0 y M16 193 [none, none, none, none, none, none] [.int v30] := by
                intro v30 h; subst ej31
                cases h
                exact g_iret0 C R tb_X12_look_2_ok (i := 30) rfl
              obtain ⟨t32, f33⟩ := br_e h
              refine g_if_ne C tb_X12_look_2_ok (i := 26) 192 rfl rfl (fun c => ?_) (fun c => ?_)
              · have h := f33 c
                refine g_iload_n C tb_X12_look_2_ok (i := 29) rfl rfl ?_
                exact g_less (L' := [none, none, none, none, none, none]) trivial (J193 v23 h)
              · have h := t32 c
                refine g_iload_n C tb_X12_look_2_ok (i := 27) rfl rfl ?_
                refine g_goto C tb_X12_look_2_ok (i := 28) 193 rfl rfl ?_
                exact g_less (L' := [none, none, none, none, none, none]) trivial (J193 v22 h)
            · have h := f29 c
              refine g_aload_n C tb_X12_look_2_ok (i := 11) rfl rfl ?_
              refine g_iload C tb_X12_look_2_ok (i := 12) rfl rfl ?_
              obtain ⟨r34, er34, h⟩ := cp_e h
              refine g_callV0 C tb_X12_look_2_ok (i := 13) [.int v24] rfl mw_X12_unlike mv_X12_unlike ml_X12_484 k1 rfl rfl rfl rfl (w_X12_unlike C.G y a0 v24 M16) (pm_s er34) rfl rfl rfl ?_
              refine g_istore C tb_X12_look_2_ok (i := 14) rfl rfl rfl ?_
              refine g_iload C tb_X12_look_2_ok (i := 15) rfl rfl ?_
              refine g_iload_n C tb_X12_look_2_ok (i := 16) rfl rfl ?_
              obtain ⟨j37, ej37, h⟩ := jn_e h
              have J178 : ∀ (v35 : Int32) (v36 : Int32), j37 v35 v36 = some out → GG g x 6 Q 0 0 y M16 178 [some (.ref a0), some (.int a1), some (.int v35), some (.int v36), some (.int v24), none] [] := by
                intro v35 v36 h; subst ej37
                obtain ⟨v38, ev38⟩ : ∃ w : Int32, w = v24 + (1 : Int32) := ⟨_, rfl⟩
                have h := lt_e ev38 h
                refine g_iincv C tb_X12_look_2_ok (i := 23) (1 : Int32) ev38 rfl rfl k_iconstv_1 rfl rfl ?_
                refine g_goto C tb_X12_look_2_ok (i := 24) 146 rfl rfl ?_
                exact g_less (L' := [some (.ref a0), some (.int a1), some (.int v35), some (.int v36), some (.int v38), none]) ⟨rfl, ⟨rfl, ⟨rfl, ⟨rfl, ⟨rfl, trivial⟩⟩⟩⟩⟩ (ih26 v35 v36 v38 h)
              obtain ⟨t39, f40⟩ := br_e h
              refine g_icmp_gt C tb_X12_look_2_ok (i := 17) 172 rfl rfl (fun c => ?_) (fun c => ?_)
              · have h := t39 c
                refine g_iload C tb_X12_look_2_ok (i := 19) rfl rfl ?_
                refine g_istore_n C tb_X12_look_2_ok (i := 20) rfl rfl rfl ?_
                refine g_iload C tb_X12_look_2_ok (i := 21) rfl rfl ?_
                refine g_istore_n C tb_X12_look_2_ok (i := 22) rfl rfl rfl ?_
                exact g_less (L' := [some (.ref a0), some (.int a1), some (.int v24), some (.int r34), some (.int v24), none]) ⟨rfl, ⟨rfl, ⟨rfl, ⟨rfl, ⟨rfl, trivial⟩⟩⟩⟩⟩ (J178 v24 r34 h)
              · have h := f40 c
                refine g_goto C tb_X12_look_2_ok (i := 18) 178 rfl rfl ?_
                exact g_less (L' := [some (.ref a0), some (.int a1), some (.int v22), some (.int v23), some (.int v24), none]) ⟨rfl, ⟨rfl, ⟨rfl, ⟨rfl, ⟨rfl, trivial⟩⟩⟩⟩⟩ (J178 v22 v23 h)
        · have h := f20 c
          refine g_aload_n C tb_X12_look_0_ok (i := 25) rfl rfl ?_
          obtain ⟨n41, h⟩ := gN_e h
          refine g_getR C tb_X12_look_0_ok (i := 26) rfl fl_X12_116 rfl k1 n41 ?_
          refine g_iload_n C tb_X12_look_0_ok (i := 27) rfl rfl ?_
          obtain ⟨b42, h⟩ := gA_e h
          refine g_iald C tb_X12_look_0_ok (i := 28) rfl b42 ?_
          refine g_bipushv C tb_X12_look_0_ok (i := 29) 10 rfl k_bipushv_10 ?_
          obtain ⟨n43, h⟩ := gd_e h
          refine g_idiv C tb_X12_look_0_ok (i := 30) rfl n43 ?_
          refine g_topi (fun v44 ev44 => ?_)
          have h := lt_e ev44 h
          refine g_istore_n C tb_X12_look_0_ok (i := 31) rfl rfl rfl ?_
          refine g_aload_n C tb_X12_look_0_ok (i := 32) rfl rfl ?_
          obtain ⟨n45, h⟩ := gN_e h
          refine g_getR C tb_X12_look_0_ok (i := 33) rfl fl_X12_65 rfl k1 n45 ?_
          refine g_iload_n C tb_X12_look_0_ok (i := 34) rfl rfl ?_
          obtain ⟨b46, h⟩ := gA_e h
          refine g_iald C tb_X12_look_0_ok (i := 35) rfl b46 ?_
          refine g_topi (fun v47 ev47 => ?_)
          have h := lt_e ev47 h
          refine g_istore C tb_X12_look_0_ok (i := 36) rfl rfl rfl ?_
          refine g_aload_n C tb_X12_look_0_ok (i := 37) rfl rfl ?_
          refine g_getR C tb_X12_look_0_ok (i := 38) rfl fl_X12_65 rfl k1 n45 ?_
          refine g_iload_n C tb_X12_look_0_ok (i := 39) rfl rfl ?_
          refine g_aload_n C tb_X12_look_1_ok (i := 0) rfl rfl ?_
          refine g_getR C tb_X12_look_1_ok (i := 1) rfl fl_X12_116 rfl k1 n41 ?_
          refine g_iload_n C tb_X12_look_1_ok (i := 2) rfl rfl ?_
          obtain ⟨b48, h⟩ := gA_e h
          refine g_iald C tb_X12_look_1_ok (i := 3) rfl b48 ?_
          refine g_bipushv C tb_X12_look_1_ok (i := 4) 10 rfl k_bipushv_10 ?_
          obtain ⟨n49, h⟩ := gd_e h
          refine g_irem C tb_X12_look_1_ok (i := 5) rfl n49 ?_
          obtain ⟨b50, h⟩ := gA_e h
          refine g_iast C tb_X12_look_1_ok (i := 6) rfl b50 ?_
          refine g_mem (fun M51 eM51 => ?_)
          have h := lt_e eM51 h
          refine g_aload_n C tb_X12_look_1_ok (i := 7) rfl rfl ?_
          refine g_iconstv C tb_X12_look_1_ok (i := 8) 5 rfl k_iconstv_5 ?_
          obtain ⟨r52, M53, er52, h⟩ := c0_e h
          refine g_callV0 C tb_X12_look_1_ok (i := 9) [.int (5 : Int32)] rfl mw_X12_goOn mv_X12_goOn ml_X12_432 k1 rfl rfl rfl rfl (w_X12_goOn C.G y a0 (5 : Int32) M51) er52 rfl rfl rfl ?_
          refine g_iconstv C tb_X12_look_1_ok (i := 10) 0 rfl k_iconstv_0 ?_
          refine g_istore C tb_X12_look_1_ok (i := 11) rfl rfl rfl ?_
          refine g_less (L' := [some (.ref a0), some (.int a1), some (.int v15), some (.int v44), some (.int v47), some (.int (0 : Int32))]) ⟨rfl, ⟨rfl, ⟨rfl, ⟨rfl, ⟨rfl, ⟨rfl, trivial⟩⟩⟩⟩⟩⟩ ?_
          refine fix_i (P := fun (f : Int32 → Mem → Option (Int32 × Mem)) => ∀ (v54 : Int32) (M55 : Mem), f v54 M55 = some out → GG g x 6 Q 0 0 y M55 84 [some (.ref a0), some (.int a1), some (.int v15), some (.int v44), some (.int v47), some (.int v54)] []) ?_ ?_ _ (0 : Int32) M53 h
          · intro v54 M55 h; exact (nn_e h).elim
          · intro s56 ih57 v54 M55 h
            refine g_iload C tb_X12_look_1_ok (i := 12) rfl rfl ?_
            refine g_bipushv C tb_X12_look_1_ok (i := 13) 30 rfl k_bipushv_30 ?_
            obtain ⟨t58, f59⟩ := br_e h
            refine g_icmp_ge C tb_X12_look_1_ok (i := 14) 116 rfl rfl (fun c => ?_) (fun c => ?_)
            · have h := t58 c
              refine g_aload_n C tb_X12_look_1_ok (i := 29) rfl rfl ?_
              refine g_getR C tb_X12_look_1_ok (i := 30) rfl fl_X12_65 rfl k1 n45 ?_
              refine g_iload_n C tb_X12_look_1_ok (i := 31) rfl rfl ?_
              refine g_iload C tb_X12_look_1_ok (i := 32) rfl rfl ?_
              obtain ⟨b60, h⟩ := gA_e h
              refine g_iast C tb_X12_look_1_ok (i := 33) rfl b60 ?_
              refine g_mem (fun M61 eM61 => ?_)
              have h := lt_e eM61 h
              refine g_aload_n C tb_X12_look_1_ok (i := 34) rfl rfl ?_
              refine g_aload_n C tb_X12_look_1_ok (i := 35) rfl rfl ?_
              refine g_getR C tb_X12_look_1_ok (i := 36) rfl fl_X12_92 rfl k1 n12 ?_
              refine g_iconstv C tb_X12_look_1_ok (i := 37) 0 rfl k_iconstv_0 ?_
              obtain ⟨r62, M63, er62, h⟩ := c0_e h
              refine g_callV0 C tb_X12_look_1_ok (i := 38) [.ref (y.2.1 a0 42), .int (0 : Int32)] rfl mw_X12_unpack mv_X12_unpack ml_X12_440 k1 rfl rfl rfl rfl (w_X12_unpack C.G y a0 (y.2.1 a0 42) (0 : Int32) M61) er62 rfl rfl rfl ?_
              obtain ⟨v64, ev64⟩ : ∃ w : Int32, w = v15 + (1 : Int32) := ⟨_, rfl⟩
              have h := lt_e ev64 h
              refine g_iincv C tb_X12_look_1_ok (i := 39) (1 : Int32) ev64 rfl rfl k_iconstv_1 rfl rfl ?_
              refine g_goto C tb_X12_look_2_ok (i := 0) 35 rfl rfl ?_
              exact g_less (L' := [some (.ref a0), some (.int a1), some (.int v64), none, none, none]) ⟨rfl, ⟨rfl, ⟨rfl, trivial⟩⟩⟩ (ih18 v64 M63 h)
            · have h := f59 c
              refine g_aload_n C tb_X12_look_1_ok (i := 15) rfl rfl ?_
              obtain ⟨n65, h⟩ := gN_e h
              refine g_getR C tb_X12_look_1_ok (i := 16) rfl fl_X12_119 rfl k1 n65 ?_
              refine g_bipushv C tb_X12_look_1_ok (i := 17) 30 rfl k_bipushv_30 ?_
              refine g_iload_n C tb_X12_look_1_ok (i := 18) rfl rfl ?_
              refine g_imul C tb_X12_look_1_ok (i := 19) rfl ?_
              refine g_iload C tb_X12_look_1_ok (i := 20) rfl rfl ?_
              refine g_iadd C tb_X12_look_1_ok (i := 21) rfl ?_
              refine g_aload_n C tb_X12_look_1_ok (i := 22) rfl rfl ?_
              obtain ⟨n66, h⟩ := gN_e h
              refine g_getR C tb_X12_look_1_ok (i := 23) rfl fl_X12_75 rfl k1 n66 ?_
              refine g_iload C tb_X12_look_1_ok (i := 24) rfl rfl ?_
              obtain ⟨b67, h⟩ := gA_e h
              refine g_iald C tb_X12_look_1_ok (i := 25) rfl b67 ?_
              obtain ⟨b68, h⟩ := gA_e h
              refine g_iast C tb_X12_look_1_ok (i := 26) rfl b68 ?_
              refine g_mem (fun M69 eM69 => ?_)
              have h := lt_e eM69 h
              obtain ⟨v70, ev70⟩ : ∃ w : Int32, w = v54 + (1 : Int32) := ⟨_, rfl⟩
              have h := lt_e ev70 h
              refine g_iincv C tb_X12_look_1_ok (i := 27) (1 : Int32) ev70 rfl rfl k_iconstv_1 rfl rfl ?_
              refine g_goto C tb_X12_look_1_ok (i := 28) 84 rfl rfl ?_
              exact g_less (L' := [some (.ref a0), some (.int a1), some (.int v15), some (.int v44), some (.int v47), some (.int v70)]) ⟨rfl, ⟨rfl, ⟨rfl, ⟨rfl, ⟨rfl, ⟨rfl, trivial⟩⟩⟩⟩⟩⟩ (ih57 v70 M69 h)
    · have h := f9 c
      exact g_less (L' := [some (.ref a0), none, none, none, none, none]) ⟨rfl, trivial⟩ (J14 () h)
def f_X12_forget (y : Lay) (a0 : Nat) (M : Mem) : Option (Int32 × Mem) := gK y a0 (0, 12) (lt (wI M a0 4 (0 : Int32)) fun (M2 : Mem) => lt (wI M2 a0 37 (0 : Int32)) fun (M3 : Mem) => some (0, M3))
theorem w_X12_forget {g : GX} {l : Launch} (hG : GF g l) (y : Lay) (a0 : Nat) (M : Mem) : C0 g l yX12_forget cX12_forget 1 none 0 y [.ref a0] M (f_X12_forget y a0 M) := by
  refine C0_of hG (by decide) [some (.ref a0)] rfl rfl (fun out h x Q C R => ?_)
  unfold f_X12_forget at h
  refine g_aload_n C tb_X12_forget_0_ok (i := 0) rfl rfl ?_
  refine g_iconstv C tb_X12_forget_0_ok (i := 1) 0 rfl k_iconstv_0 ?_
  obtain ⟨k1, h⟩ := gK_e h
  refine g_putI C tb_X12_forget_0_ok (i := 2) rfl fl_X12_150 ft_12_4 rfl k1 ?_
  refine g_mem (fun M2 eM2 => ?_)
  have h := lt_e eM2 h
  refine g_aload_n C tb_X12_forget_0_ok (i := 3) rfl rfl ?_
  refine g_iconstv C tb_X12_forget_0_ok (i := 4) 0 rfl k_iconstv_0 ?_
  refine g_putI C tb_X12_forget_0_ok (i := 5) rfl fl_X12_345 ft_12_37 rfl k1 ?_
  refine g_mem (fun M3 eM3 => ?_)
  have h := lt_e eM3 h
  cases h
  exact g_vret0 C R tb_X12_forget_0_ok (i := 6) rfl
def f_X12_tellGains (y : Lay) (a0 : Nat) (a1 : Int32) (a2 : Int32) (M : Mem) : Option (Int32 × Mem) := gK y a0 (0, 12) (gN (y.2.1 a0 42) (c0 (f_X12_pack y a0 (y.2.1 a0 42) (0 : Int32) M) fun (r3 : Int32) (M4 : Mem) => fixN (fun _ _ => none) (fun (s7 : Int32 → Mem → Option (Int32 × Mem)) (v5 : Int32) (M6 : Mem) => br ((4 : Int32) ≤ v5) (some (0, M6)) (gd (¬ (2 : Int32) = 0) (jn (fun (v12 : Int32) => gd (¬ (2 : Int32) = 0) (jn (fun (v15 : Int32) => lt (wI M6 a0 35 ((((M6.1 a0 35) &&& ((((1 : Int32) <<< (a1 &&& 31)) ||| ((1 : Int32) <<< (a2 &&& 31))) ^^^ ((-1) : Int32))) ||| v12) ||| v15)) fun (M17 : Mem) => c0 (f_X12_aDay y a0 M17) fun (r18 : Int32) (M19 : Mem) => gN (y.2.1 a0 53) (gN (y.2.1 a0 28) (gN (y.2.1 a0 29) (gA y (y.2.1 a0 29) 1 a1 (gA y (y.2.1 a0 28) 1 (M19.1 (y.2.1 a0 29) a1.toNatClampNeg) (cp (f_X12_bitsOf y (M19.1 a0 41) M19) fun (r25 : Int32) => gd (¬ (2 : Int32) = 0) (gA y (y.2.1 a0 53) 1 ((2 : Int32) * v5) (lt (wI M19 (y.2.1 a0 53) ((2 : Int32) * v5).toNatClampNeg (((M19.1 (y.2.1 a0 28) (M19.1 (y.2.1 a0 29) a1.toNatClampNeg).toNatClampNeg) - ((10 : Int32) * r25)) - ((2 : Int32) * (v5 / (2 : Int32))))) fun (M28 : Mem) => gA y (y.2.1 a0 29) 1 a2 (gA y (y.2.1 a0 28) 1 (M28.1 (y.2.1 a0 29) a2.toNatClampNeg) (cp (f_X12_bitsOf y (M28.1 a0 41) M28) fun (r31 : Int32) => gd (¬ (2 : Int32) = 0) (gA y (y.2.1 a0 53) 1 (((2 : Int32) * v5) + (1 : Int32)) (lt (wI M28 (y.2.1 a0 53) (((2 : Int32) * v5) + (1 : Int32)).toNatClampNeg (((M28.1 (y.2.1 a0 28) (M28.1 (y.2.1 a0 29) a2.toNatClampNeg).toNatClampNeg) - ((10 : Int32) * r31)) - ((2 : Int32) * (v5 - v5 / (2 : Int32) * (2 : Int32))))) fun (M34 : Mem) => c0 (f_X12_unpack y a0 (y.2.1 a0 42) (0 : Int32) M34) fun (r35 : Int32) (M36 : Mem) => lt (v5 + (1 : Int32)) fun (v37 : Int32) => s7 v37 M36)))))))))))) fun j16 => br ((v5 - v5 / (2 : Int32) * (2 : Int32)) = (1 : Int32)) (j16 (0 : Int32)) (j16 ((1 : Int32) <<< (a2 &&& 31))))) fun j13 => br ((v5 / (2 : Int32)) = (1 : Int32)) (j13 (0 : Int32)) (j13 ((1 : Int32) <<< (a1 &&& 31)))))) FUEL (0 : Int32) M4))
theorem w_X12_tellGains {g : GX} {l : Launch} (hG : GF g l) (y : Lay) (a0 : Nat) (a1 : Int32) (a2 : Int32) (M : Mem) : C0 g l yX12_tellGains cX12_tellGains 4 none 8 y [.ref a0, .int a1, .int a2] M (f_X12_tellGains y a0 a1 a2 M) := by
  refine C0_of hG (by decide) [some (.ref a0), some (.int a1), some (.int a2), none] rfl rfl (fun out h x Q C R => ?_)
  unfold f_X12_tellGains at h
  refine g_aload_n C tb_X12_tellGains_0_ok (i := 0) rfl rfl ?_
  refine g_aload_n C tb_X12_tellGains_0_ok (i := 1) rfl rfl ?_
  obtain ⟨k1, h⟩ := gK_e h
  obtain ⟨n2, h⟩ := gN_e h
  refine g_getR C tb_X12_tellGains_0_ok (i := 2) rfl fl_X12_92 rfl k1 n2 ?_
  refine g_iconstv C tb_X12_tellGains_0_ok (i := 3) 0 rfl k_iconstv_0 ?_
  obtain ⟨r3, M4, er3, h⟩ := c0_e h
  refine g_callV0 C tb_X12_tellGains_0_ok (i := 4) [.ref (y.2.1 a0 42), .int (0 : Int32)] rfl mw_X12_pack mv_X12_pack ml_X12_420 k1 rfl rfl rfl rfl (w_X12_pack C.G y a0 (y.2.1 a0 42) (0 : Int32) M) er3 rfl rfl rfl ?_
  refine g_iconstv C tb_X12_tellGains_0_ok (i := 5) 0 rfl k_iconstv_0 ?_
  refine g_istore_n C tb_X12_tellGains_0_ok (i := 6) rfl rfl rfl ?_
  refine g_less (L' := [some (.ref a0), some (.int a1), some (.int a2), some (.int (0 : Int32))]) ⟨rfl, ⟨rfl, ⟨rfl, ⟨rfl, trivial⟩⟩⟩⟩ ?_
  refine fix_i (P := fun (f : Int32 → Mem → Option (Int32 × Mem)) => ∀ (v5 : Int32) (M6 : Mem), f v5 M6 = some out → GG g x 4 Q 0 0 y M6 11 [some (.ref a0), some (.int a1), some (.int a2), some (.int v5)] []) ?_ ?_ _ (0 : Int32) M4 h
  · intro v5 M6 h; exact (nn_e h).elim
  · intro s7 ih8 v5 M6 h
    refine g_iload_n C tb_X12_tellGains_0_ok (i := 7) rfl rfl ?_
    refine g_iconstv C tb_X12_tellGains_0_ok (i := 8) 4 rfl k_iconstv_4 ?_
    obtain ⟨t9, f10⟩ := br_e h
    refine g_icmp_ge C tb_X12_tellGains_0_ok (i := 9) 157 rfl rfl (fun c => ?_) (fun c => ?_)
    · have h := t9 c
      cases h
      exact g_vret0 C R tb_X12_tellGains_2_ok (i := 27) rfl
    · have h := f10 c
      refine g_aload_n C tb_X12_tellGains_0_ok (i := 10) rfl rfl ?_
      refine g_aload_n C tb_X12_tellGains_0_ok (i := 11) rfl rfl ?_
      refine g_getI C tb_X12_tellGains_0_ok (i := 12) rfl fl_X12_339 rfl k1 ?_
      refine g_iconstv C tb_X12_tellGains_0_ok (i := 13) 1 rfl k_iconstv_1 ?_
      refine g_iload_n C tb_X12_tellGains_0_ok (i := 14) rfl rfl ?_
      refine g_ishl C tb_X12_tellGains_0_ok (i := 15) rfl ?_
      refine g_iconstv C tb_X12_tellGains_0_ok (i := 16) 1 rfl k_iconstv_1 ?_
      refine g_iload_n C tb_X12_tellGains_0_ok (i := 17) rfl rfl ?_
      refine g_ishl C tb_X12_tellGains_0_ok (i := 18) rfl ?_
      refine g_ior C tb_X12_tellGains_0_ok (i := 19) rfl ?_
      refine g_iconstv C tb_X12_tellGains_0_ok (i := 20) (-1) rfl k_iconstv_m1 ?_
      refine g_ixor C tb_X12_tellGains_0_ok (i := 21) rfl ?_
      refine g_iand C tb_X12_tellGains_0_ok (i := 22) rfl ?_
      refine g_iload_n C tb_X12_tellGains_0_ok (i := 23) rfl rfl ?_
      refine g_iconstv C tb_X12_tellGains_0_ok (i := 24) 2 rfl k_iconstv_2 ?_
      obtain ⟨n11, h⟩ := gd_e h
      refine g_idiv C tb_X12_tellGains_0_ok (i := 25) rfl n11 ?_
      refine g_iconstv C tb_X12_tellGains_0_ok (i := 26) 1 rfl k_iconstv_1 ?_
      obtain ⟨j13, ej13, h⟩ := jn_e h
      have J45 : ∀ (v12 : Int32), j13 v12 = some out → GG g x 4 Q 0 0 y M6 45 [some (.ref a0), some (.int a1), some (.int a2), some (.int v5)] [.int v12, .int ((M6.1 a0 35) &&& ((((1 : Int32) <<< (a1 &&& 31)) ||| ((1 : Int32) <<< (a2 &&& 31))) ^^^ ((-1) : Int32))), .ref a0] := by
        intro v12 h; subst ej13
        refine g_ior C tb_X12_tellGains_0_ok (i := 33) rfl ?_
        refine g_iload_n C tb_X12_tellGains_0_ok (i := 34) rfl rfl ?_
        refine g_iconstv C tb_X12_tellGains_0_ok (i := 35) 2 rfl k_iconstv_2 ?_
        obtain ⟨n14, h⟩ := gd_e h
        refine g_irem C tb_X12_tellGains_0_ok (i := 36) rfl n14 ?_
        refine g_iconstv C tb_X12_tellGains_0_ok (i := 37) 1 rfl k_iconstv_1 ?_
        obtain ⟨j16, ej16, h⟩ := jn_e h
        have J60 : ∀ (v15 : Int32), j16 v15 = some out → GG g x 4 Q 0 0 y M6 60 [some (.ref a0), some (.int a1), some (.int a2), some (.int v5)] [.int v15, .int (((M6.1 a0 35) &&& ((((1 : Int32) <<< (a1 &&& 31)) ||| ((1 : Int32) <<< (a2 &&& 31))) ^^^ ((-1) : Int32))) ||| v12), .ref a0] := by
          intro v15 h; subst ej16
          refine g_ior C tb_X12_tellGains_1_ok (i := 4) rfl ?_
          refine g_putI C tb_X12_tellGains_1_ok (i := 5) rfl fl_X12_339 ft_12_35 rfl k1 ?_
          refine g_mem (fun M17 eM17 => ?_)
          have h := lt_e eM17 h
          refine g_aload_n C tb_X12_tellGains_1_ok (i := 6) rfl rfl ?_
          obtain ⟨r18, M19, er18, h⟩ := c0_e h
          refine g_callV0 C tb_X12_tellGains_1_ok (i := 7) [] rfl mw_X12_aDay mv_X12_aDay ml_X12_402 k1 rfl rfl rfl rfl (w_X12_aDay C.G y a0 M17) er18 rfl rfl rfl ?_
          refine g_aload_n C tb_X12_tellGains_1_ok (i := 8) rfl rfl ?_
          obtain ⟨n20, h⟩ := gN_e h
          refine g_getR C tb_X12_tellGains_1_ok (i := 9) rfl fl_X12_122 rfl k1 n20 ?_
          refine g_iconstv C tb_X12_tellGains_1_ok (i := 10) 2 rfl k_iconstv_2 ?_
          refine g_iload_n C tb_X12_tellGains_1_ok (i := 11) rfl rfl ?_
          refine g_imul C tb_X12_tellGains_1_ok (i := 12) rfl ?_
          refine g_aload_n C tb_X12_tellGains_1_ok (i := 13) rfl rfl ?_
          obtain ⟨n21, h⟩ := gN_e h
          refine g_getR C tb_X12_tellGains_1_ok (i := 14) rfl fl_X12_75 rfl k1 n21 ?_
          refine g_aload_n C tb_X12_tellGains_1_ok (i := 15) rfl rfl ?_
          obtain ⟨n22, h⟩ := gN_e h
          refine g_getR C tb_X12_tellGains_1_ok (i := 16) rfl fl_X12_77 rfl k1 n22 ?_
          refine g_iload_n C tb_X12_tellGains_1_ok (i := 17) rfl rfl ?_
          obtain ⟨b23, h⟩ := gA_e h
          refine g_iald C tb_X12_tellGains_1_ok (i := 18) rfl b23 ?_
          obtain ⟨b24, h⟩ := gA_e h
          refine g_iald C tb_X12_tellGains_1_ok (i := 19) rfl b24 ?_
          refine g_bipushv C tb_X12_tellGains_1_ok (i := 20) 10 rfl k_bipushv_10 ?_
          refine g_aload_n C tb_X12_tellGains_1_ok (i := 21) rfl rfl ?_
          refine g_getI C tb_X12_tellGains_1_ok (i := 22) rfl fl_X12_393 rfl k1 ?_
          obtain ⟨r25, er25, h⟩ := cp_e h
          refine g_callS0 C tb_X12_tellGains_1_ok (i := 23) [.int (M19.1 a0 41)] rfl mw_X12_bitsOf mst_X12_bitsOf ml_X12_396 rfl rfl rfl rfl (w_X12_bitsOf C.G y (M19.1 a0 41) M19) (pm_s er25) rfl rfl rfl ?_
          refine g_imul C tb_X12_tellGains_1_ok (i := 24) rfl ?_
          refine g_isub C tb_X12_tellGains_1_ok (i := 25) rfl ?_
          refine g_iconstv C tb_X12_tellGains_1_ok (i := 26) 2 rfl k_iconstv_2 ?_
          refine g_iload_n C tb_X12_tellGains_1_ok (i := 27) rfl rfl ?_
          refine g_iconstv C tb_X12_tellGains_1_ok (i := 28) 2 rfl k_iconstv_2 ?_
          obtain ⟨n26, h⟩ := gd_e h
          refine g_idiv C tb_X12_tellGains_1_ok (i := 29) rfl n26 ?_
          refine g_imul C tb_X12_tellGains_1_ok (i := 30) rfl ?_
          refine g_isub C tb_X12_tellGains_1_ok (i := 31) rfl ?_
          obtain ⟨b27, h⟩ := gA_e h
          refine g_iast C tb_X12_tellGains_1_ok (i := 32) rfl b27 ?_
          refine g_mem (fun M28 eM28 => ?_)
          have h := lt_e eM28 h
          refine g_aload_n C tb_X12_tellGains_1_ok (i := 33) rfl rfl ?_
          refine g_getR C tb_X12_tellGains_1_ok (i := 34) rfl fl_X12_122 rfl k1 n20 ?_
          refine g_iconstv C tb_X12_tellGains_1_ok (i := 35) 2 rfl k_iconstv_2 ?_
          refine g_iload_n C tb_X12_tellGains_1_ok (i := 36) rfl rfl ?_
          refine g_imul C tb_X12_tellGains_1_ok (i := 37) rfl ?_
          refine g_iconstv C tb_X12_tellGains_1_ok (i := 38) 1 rfl k_iconstv_1 ?_
          refine g_iadd C tb_X12_tellGains_1_ok (i := 39) rfl ?_
          refine g_aload_n C tb_X12_tellGains_2_ok (i := 0) rfl rfl ?_
          refine g_getR C tb_X12_tellGains_2_ok (i := 1) rfl fl_X12_75 rfl k1 n21 ?_
          refine g_aload_n C tb_X12_tellGains_2_ok (i := 2) rfl rfl ?_
          refine g_getR C tb_X12_tellGains_2_ok (i := 3) rfl fl_X12_77 rfl k1 n22 ?_
          refine g_iload_n C tb_X12_tellGains_2_ok (i := 4) rfl rfl ?_
          obtain ⟨b29, h⟩ := gA_e h
          refine g_iald C tb_X12_tellGains_2_ok (i := 5) rfl b29 ?_
          obtain ⟨b30, h⟩ := gA_e h
          refine g_iald C tb_X12_tellGains_2_ok (i := 6) rfl b30 ?_
          refine g_bipushv C tb_X12_tellGains_2_ok (i := 7) 10 rfl k_bipushv_10 ?_
          refine g_aload_n C tb_X12_tellGains_2_ok (i := 8) rfl rfl ?_
          refine g_getI C tb_X12_tellGains_2_ok (i := 9) rfl fl_X12_393 rfl k1 ?_
          obtain ⟨r31, er31, h⟩ := cp_e h
          refine g_callS0 C tb_X12_tellGains_2_ok (i := 10) [.int (M28.1 a0 41)] rfl mw_X12_bitsOf mst_X12_bitsOf ml_X12_396 rfl rfl rfl rfl (w_X12_bitsOf C.G y (M28.1 a0 41) M28) (pm_s er31) rfl rfl rfl ?_
          refine g_imul C tb_X12_tellGains_2_ok (i := 11) rfl ?_
          refine g_isub C tb_X12_tellGains_2_ok (i := 12) rfl ?_
          refine g_iconstv C tb_X12_tellGains_2_ok (i := 13) 2 rfl k_iconstv_2 ?_
          refine g_iload_n C tb_X12_tellGains_2_ok (i := 14) rfl rfl ?_
          refine g_iconstv C tb_X12_tellGains_2_ok (i := 15) 2 rfl k_iconstv_2 ?_
          obtain ⟨n32, h⟩ := gd_e h
          refine g_irem C tb_X12_tellGains_2_ok (i := 16) rfl n32 ?_
          refine g_imul C tb_X12_tellGains_2_ok (i := 17) rfl ?_
          refine g_isub C tb_X12_tellGains_2_ok (i := 18) rfl ?_
          obtain ⟨b33, h⟩ := gA_e h
          refine g_iast C tb_X12_tellGains_2_ok (i := 19) rfl b33 ?_
          refine g_mem (fun M34 eM34 => ?_)
          have h := lt_e eM34 h
          refine g_aload_n C tb_X12_tellGains_2_ok (i := 20) rfl rfl ?_
          refine g_aload_n C tb_X12_tellGains_2_ok (i := 21) rfl rfl ?_
          refine g_getR C tb_X12_tellGains_2_ok (i := 22) rfl fl_X12_92 rfl k1 n2 ?_
          refine g_iconstv C tb_X12_tellGains_2_ok (i := 23) 0 rfl k_iconstv_0 ?_
          obtain ⟨r35, M36, er35, h⟩ := c0_e h
          refine g_callV0 C tb_X12_tellGains_2_ok (i := 24) [.ref (y.2.1 a0 42), .int (0 : Int32)] rfl mw_X12_unpack mv_X12_unpack ml_X12_440 k1 rfl rfl rfl rfl (w_X12_unpack C.G y a0 (y.2.1 a0 42) (0 : Int32) M34) er35 rfl rfl rfl ?_
          obtain ⟨v37, ev37⟩ : ∃ w : Int32, w = v5 + (1 : Int32) := ⟨_, rfl⟩
          have h := lt_e ev37 h
          refine g_iincv C tb_X12_tellGains_2_ok (i := 25) (1 : Int32) ev37 rfl rfl k_iconstv_1 rfl rfl ?_
          refine g_goto C tb_X12_tellGains_2_ok (i := 26) 11 rfl rfl ?_
          exact g_less (L' := [some (.ref a0), some (.int a1), some (.int a2), some (.int v37)]) ⟨rfl, ⟨rfl, ⟨rfl, ⟨rfl, trivial⟩⟩⟩⟩ (ih8 v37 M36 h)
        obtain ⟨t38, f39⟩ := br_e h
        refine g_icmp_ne C tb_X12_tellGains_0_ok (i := 38) 57 rfl rfl (fun c => ?_) (fun c => ?_)
        · have h := f39 c
          refine g_iconstv C tb_X12_tellGains_1_ok (i := 1) 1 rfl k_iconstv_1 ?_
          refine g_iload_n C tb_X12_tellGains_1_ok (i := 2) rfl rfl ?_
          refine g_ishl C tb_X12_tellGains_1_ok (i := 3) rfl ?_
          exact g_less (L' := [some (.ref a0), some (.int a1), some (.int a2), some (.int v5)]) ⟨rfl, ⟨rfl, ⟨rfl, ⟨rfl, trivial⟩⟩⟩⟩ (J60 ((1 : Int32) <<< (a2 &&& 31)) h)
        · have h := t38 c
          refine g_iconstv C tb_X12_tellGains_0_ok (i := 39) 0 rfl k_iconstv_0 ?_
          refine g_goto C tb_X12_tellGains_1_ok (i := 0) 60 rfl rfl ?_
          exact g_less (L' := [some (.ref a0), some (.int a1), some (.int a2), some (.int v5)]) ⟨rfl, ⟨rfl, ⟨rfl, ⟨rfl, trivial⟩⟩⟩⟩ (J60 (0 : Int32) h)
      obtain ⟨t40, f41⟩ := br_e h
      refine g_icmp_ne C tb_X12_tellGains_0_ok (i := 27) 42 rfl rfl (fun c => ?_) (fun c => ?_)
      · have h := f41 c
        refine g_iconstv C tb_X12_tellGains_0_ok (i := 30) 1 rfl k_iconstv_1 ?_
        refine g_iload_n C tb_X12_tellGains_0_ok (i := 31) rfl rfl ?_
        refine g_ishl C tb_X12_tellGains_0_ok (i := 32) rfl ?_
        exact g_less (L' := [some (.ref a0), some (.int a1), some (.int a2), some (.int v5)]) ⟨rfl, ⟨rfl, ⟨rfl, ⟨rfl, trivial⟩⟩⟩⟩ (J45 ((1 : Int32) <<< (a1 &&& 31)) h)
      · have h := t40 c
        refine g_iconstv C tb_X12_tellGains_0_ok (i := 28) 0 rfl k_iconstv_0 ?_
        refine g_goto C tb_X12_tellGains_0_ok (i := 29) 45 rfl rfl ?_
        exact g_less (L' := [some (.ref a0), some (.int a1), some (.int a2), some (.int v5)]) ⟨rfl, ⟨rfl, ⟨rfl, ⟨rfl, trivial⟩⟩⟩⟩ (J45 (0 : Int32) h)
def f_X12_game (y : Lay) (a0 : Nat) (a1 : Int32) (a2 : Int32) (a3 : Int32) (M : Mem) : Option (Int32 × Mem) := gK y a0 (0, 12) (lt (wI M a0 4 (0 : Int32)) fun (M2 : Mem) => cp (f_X12_isGirl y a0 a1 M2) fun (r3 : Int32) => jn (fun (_u : Unit) => c0 (f_X12_fail y a0 (1 : Int32) M2) fun (r5 : Int32) (M6 : Mem) => some (r5, M6)) fun j4 => br (r3 = 0) (j4 ()) (cp (f_X12_isGirl y a0 a2 M2) fun (r9 : Int32) => br (r9 = 0) (j4 ()) (br (a3 < 0) (j4 ()) (br (a3 ≤ (1 : Int32)) (br (a1 = a2) (c0 (f_X12_fail y a0 (2 : Int32) M2) fun (r52 : Int32) (M53 : Mem) => some (r52, M53)) (c0 (f_X12_tellGains y a0 a1 a2 M2) fun (r18 : Int32) (M19 : Mem) => lt ((-1) : Int32) fun (v20 : Int32) => fixN (fun _ _ _ => none) (fun (s24 : Int32 → Int32 → Int32 → Option (Int32 × Mem)) (v21 : Int32) (v22 : Int32) (v23 : Int32) => br ((4 : Int32) ≤ v23) (jn (fun (v28 : Int32) => some (v28, M19)) fun j29 => br (a3 = 0) (j29 v21) (j29 v22)) (gN (y.2.1 a0 53) (gA y (y.2.1 a0 53) 1 ((2 : Int32) * (v23 ^^^ (2 : Int32))) (gA y (y.2.1 a0 53) 1 ((2 : Int32) * v23) (jn (fun (v35 : Int32) (v36 : Int32) => lt (v23 + (1 : Int32)) fun (v38 : Int32) => s24 v35 v36 v38) fun j37 => br ((M19.1 (y.2.1 a0 53) ((2 : Int32) * v23).toNatClampNeg) < (M19.1 (y.2.1 a0 53) ((2 : Int32) * (v23 ^^^ (2 : Int32))).toNatClampNeg)) (j37 v21 v22) (gA y (y.2.1 a0 53) 1 (((2 : Int32) * (v23 ^^^ (1 : Int32))) + (1 : Int32)) (gA y (y.2.1 a0 53) 1 (((2 : Int32) * v23) + (1 : Int32)) (br ((M19.1 (y.2.1 a0 53) (((2 : Int32) * (v23 ^^^ (1 : Int32))) + (1 : Int32)).toNatClampNeg) ≤ (M19.1 (y.2.1 a0 53) (((2 : Int32) * v23) + (1 : Int32)).toNatClampNeg)) (lt (v21 + (1 : Int32)) fun (v45 : Int32) => jn (fun (v46 : Int32) => j37 v45 v46) fun j47 => br (v22 = ((-1) : Int32)) (gd (¬ (2 : Int32) = 0) (gd (¬ (2 : Int32) = 0) (j47 (((10 : Int32) * (v23 / (2 : Int32))) + (v23 - v23 / (2 : Int32) * (2 : Int32)))))) (j47 v22)) (j37 v21 v22))))))))) FUEL (0 : Int32) v20 (0 : Int32))) (j4 ())))))
theorem w_X12_game {g : GX} {l : Launch} (hG : GF g l) (y : Lay) (a0 : Nat) (a1 : Int32) (a2 : Int32) (a3 : Int32) (M : Mem) : C0 g l yX12_game cX12_game 7 (some .int) 9 y [.ref a0, .int a1, .int a2, .int a3] M (f_X12_game y a0 a1 a2 a3 M) := by
  refine C0_of hG (by decide) [some (.ref a0), some (.int a1), some (.int a2), some (.int a3), none, none, none] rfl rfl (fun out h x Q C R => ?_)
  unfold f_X12_game at h
  refine g_aload_n C tb_X12_game_0_ok (i := 0) rfl rfl ?_
  refine g_iconstv C tb_X12_game_0_ok (i := 1) 0 rfl k_iconstv_0 ?_
  obtain ⟨k1, h⟩ := gK_e h
  refine g_putI C tb_X12_game_0_ok (i := 2) rfl fl_X12_150 ft_12_4 rfl k1 ?_
  refine g_mem (fun M2 eM2 => ?_)
  have h := lt_e eM2 h
  refine g_aload_n C tb_X12_game_0_ok (i := 3) rfl rfl ?_
  refine g_iload_n C tb_X12_game_0_ok (i := 4) rfl rfl ?_
  obtain ⟨r3, er3, h⟩ := cp_e h
  refine g_callV0 C tb_X12_game_0_ok (i := 5) [.int a1] rfl mw_X12_isGirl mv_X12_isGirl ml_X12_417 k1 rfl rfl rfl rfl (w_X12_isGirl C.G y a0 a1 M2) (pm_s er3) rfl rfl rfl ?_
  obtain ⟨j4, ej4, h⟩ := jn_e h
  have J30 : ∀ (_u : Unit), j4 _u = some out → GG g x 7 Q 0 0 y M2 30 [some (.ref a0), none, none, none, none, none, none] [] := by
    intro _u h; subst ej4
    refine g_aload_n C tb_X12_game_0_ok (i := 16) rfl rfl ?_
    refine g_iconstv C tb_X12_game_0_ok (i := 17) 1 rfl k_iconstv_1 ?_
    obtain ⟨r5, M6, er5, h⟩ := c0_e h
    refine g_callV0 C tb_X12_game_0_ok (i := 18) [.int (1 : Int32)] rfl mw_X12_fail mv_X12_fail ml_X12_318 k1 rfl rfl rfl rfl (w_X12_fail C.G y a0 (1 : Int32) M2) er5 rfl rfl rfl ?_
    cases h
    exact g_iret0 C R tb_X12_game_0_ok (i := 19) rfl
  obtain ⟨t7, f8⟩ := br_e h
  refine g_if_eq C tb_X12_game_0_ok (i := 6) 30 rfl rfl (fun c => ?_) (fun c => ?_)
  · have h := t7 c
    exact g_less (L' := [some (.ref a0), none, none, none, none, none, none]) ⟨rfl, trivial⟩ (J30 () h)
  · have h := f8 c
    refine g_aload_n C tb_X12_game_0_ok (i := 7) rfl rfl ?_
    refine g_iload_n C tb_X12_game_0_ok (i := 8) rfl rfl ?_
    obtain ⟨r9, er9, h⟩ := cp_e h
    refine g_callV0 C tb_X12_game_0_ok (i := 9) [.int a2] rfl mw_X12_isGirl mv_X12_isGirl ml_X12_417 k1 rfl rfl rfl rfl (w_X12_isGirl C.G y a0 a2 M2) (pm_s er9) rfl rfl rfl ?_
    obtain ⟨t10, f11⟩ := br_e h
    refine g_if_eq C tb_X12_game_0_ok (i := 10) 30 rfl rfl (fun c => ?_) (fun c => ?_)
    · have h := t10 c
      exact g_less (L' := [some (.ref a0), none, none, none, none, none, none]) ⟨rfl, trivial⟩ (J30 () h)
    · have h := f11 c
      refine g_iload_n C tb_X12_game_0_ok (i := 11) rfl rfl ?_
      obtain ⟨t12, f13⟩ := br_e h
      refine g_if_lt C tb_X12_game_0_ok (i := 12) 30 rfl rfl (fun c => ?_) (fun c => ?_)
      · have h := t12 c
        exact g_less (L' := [some (.ref a0), none, none, none, none, none, none]) ⟨rfl, trivial⟩ (J30 () h)
      · have h := f13 c
        refine g_iload_n C tb_X12_game_0_ok (i := 13) rfl rfl ?_
        refine g_iconstv C tb_X12_game_0_ok (i := 14) 1 rfl k_iconstv_1 ?_
        obtain ⟨t14, f15⟩ := br_e h
        refine g_icmp_le C tb_X12_game_0_ok (i := 15) 36 rfl rfl (fun c => ?_) (fun c => ?_)
        · have h := t14 c
          refine g_iload_n C tb_X12_game_0_ok (i := 20) rfl rfl ?_
          refine g_iload_n C tb_X12_game_0_ok (i := 21) rfl rfl ?_
          obtain ⟨t16, f17⟩ := br_e h
          refine g_icmp_ne C tb_X12_game_0_ok (i := 22) 47 rfl rfl (fun c => ?_) (fun c => ?_)
          · have h := f17 c
            refine g_aload_n C tb_X12_game_0_ok (i := 27) rfl rfl ?_
            refine g_iload_n C tb_X12_game_0_ok (i := 28) rfl rfl ?_
            refine g_iload_n C tb_X12_game_0_ok (i := 29) rfl rfl ?_
            obtain ⟨r18, M19, er18, h⟩ := c0_e h
            refine g_callV0 C tb_X12_game_0_ok (i := 30) [.int a1, .int a2] rfl mw_X12_tellGains mv_X12_tellGains ml_X12_487 k1 rfl rfl rfl rfl (w_X12_tellGains C.G y a0 a1 a2 M2) er18 rfl rfl rfl ?_
            refine g_iconstv C tb_X12_game_0_ok (i := 31) 0 rfl k_iconstv_0 ?_
            refine g_istore C tb_X12_game_0_ok (i := 32) rfl rfl rfl ?_
            refine g_iconstv C tb_X12_game_0_ok (i := 33) (-1) rfl k_iconstv_m1 ?_
            refine g_topi (fun v20 ev20 => ?_)
            have h := lt_e ev20 h
            refine g_istore C tb_X12_game_0_ok (i := 34) rfl rfl rfl ?_
            refine g_iconstv C tb_X12_game_0_ok (i := 35) 0 rfl k_iconstv_0 ?_
            refine g_istore C tb_X12_game_0_ok (i := 36) rfl rfl rfl ?_
            refine g_less (L' := [some (.ref a0), none, none, some (.int a3), some (.int (0 : Int32)), some (.int v20), some (.int (0 : Int32))]) ⟨rfl, ⟨rfl, ⟨rfl, ⟨rfl, ⟨rfl, trivial⟩⟩⟩⟩⟩ ?_
            refine fix_i (P := fun (f : Int32 → Int32 → Int32 → Option (Int32 × Mem)) => ∀ (v21 : Int32) (v22 : Int32) (v23 : Int32), f v21 v22 v23 = some out → GG g x 7 Q 0 0 y M19 62 [some (.ref a0), none, none, some (.int a3), some (.int v21), some (.int v22), some (.int v23)] []) ?_ ?_ _ (0 : Int32) v20 (0 : Int32) h
            · intro v21 v22 v23 h; exact (nn_e h).elim
            · intro s24 ih25 v21 v22 v23 h
              refine g_iload C tb_X12_game_0_ok (i := 37) rfl rfl ?_
              refine g_iconstv C tb_X12_game_0_ok (i := 38) 4 rfl k_iconstv_4 ?_
              obtain ⟨t26, f27⟩ := br_e h
              refine g_icmp_ge C tb_X12_game_0_ok (i := 39) 155 rfl rfl (fun c => ?_) (fun c => ?_)
              · have h := t26 c
                refine g_iload_n C tb_X12_game_2_ok (i := 13) rfl rfl ?_
                obtain ⟨j29, ej29, h⟩ := jn_e h
                have J166 : ∀ (v28 : Int32), j29 v28 = some out → GG g x 7 Q 0 0 y M19 166 [none, none, none, none, none, none, none] [.int v28] := by
                  intro v28 h; subst ej29
                  cases h
                  exact g_iret0 C R tb_X12_game_2_ok (i := 18) rfl
                obtain ⟨t30, f31⟩ := br_e h
                refine g_if_ne C tb_X12_game_2_ok (i := 14) 164 rfl rfl (fun c => ?_) (fun c => ?_)
                · have h := f31 c
                  refine g_iload C tb_X12_game_2_ok (i := 17) rfl rfl ?_
                  exact g_less (L' := [none, none, none, none, none, none, none]) trivial (J166 v22 h)
                · have h := t30 c
                  refine g_iload C tb_X12_game_2_ok (i := 15) rfl rfl ?_
                  refine g_goto C tb_X12_game_2_ok (i := 16) 166 rfl rfl ?_
                  exact g_less (L' := [none, none, none, none, none, none, none]) trivial (J166 v21 h)
              · have h := f27 c
                refine g_aload_n C tb_X12_game_1_ok (i := 0) rfl rfl ?_
                obtain ⟨n32, h⟩ := gN_e h
                refine g_getR C tb_X12_game_1_ok (i := 1) rfl fl_X12_122 rfl k1 n32 ?_
                refine g_iconstv C tb_X12_game_1_ok (i := 2) 2 rfl k_iconstv_2 ?_
                refine g_iload C tb_X12_game_1_ok (i := 3) rfl rfl ?_
                refine g_iconstv C tb_X12_game_1_ok (i := 4) 2 rfl k_iconstv_2 ?_
                refine g_ixor C tb_X12_game_1_ok (i := 5) rfl ?_
                refine g_imul C tb_X12_game_1_ok (i := 6) rfl ?_
                obtain ⟨b33, h⟩ := gA_e h
                refine g_iald C tb_X12_game_1_ok (i := 7) rfl b33 ?_
                refine g_aload_n C tb_X12_game_1_ok (i := 8) rfl rfl ?_
                refine g_getR C tb_X12_game_1_ok (i := 9) rfl fl_X12_122 rfl k1 n32 ?_
                refine g_iconstv C tb_X12_game_1_ok (i := 10) 2 rfl k_iconstv_2 ?_
                refine g_iload C tb_X12_game_1_ok (i := 11) rfl rfl ?_
                refine g_imul C tb_X12_game_1_ok (i := 12) rfl ?_
                obtain ⟨b34, h⟩ := gA_e h
                refine g_iald C tb_X12_game_1_ok (i := 13) rfl b34 ?_
                obtain ⟨j37, ej37, h⟩ := jn_e h
                have J149 : ∀ (v35 : Int32) (v36 : Int32), j37 v35 v36 = some out → GG g x 7 Q 0 0 y M19 149 [some (.ref a0), none, none, some (.int a3), some (.int v35), some (.int v36), some (.int v23)] [] := by
                  intro v35 v36 h; subst ej37
                  obtain ⟨v38, ev38⟩ : ∃ w : Int32, w = v23 + (1 : Int32) := ⟨_, rfl⟩
                  have h := lt_e ev38 h
                  refine g_iincv C tb_X12_game_2_ok (i := 11) (1 : Int32) ev38 rfl rfl k_iconstv_1 rfl rfl ?_
                  refine g_goto C tb_X12_game_2_ok (i := 12) 62 rfl rfl ?_
                  exact g_less (L' := [some (.ref a0), none, none, some (.int a3), some (.int v35), some (.int v36), some (.int v38)]) ⟨rfl, ⟨rfl, ⟨rfl, ⟨rfl, ⟨rfl, trivial⟩⟩⟩⟩⟩ (ih25 v35 v36 v38 h)
                obtain ⟨t39, f40⟩ := br_e h
                refine g_icmp_gt C tb_X12_game_1_ok (i := 14) 149 rfl rfl (fun c => ?_) (fun c => ?_)
                · have h := t39 c
                  exact g_less (L' := [some (.ref a0), none, none, some (.int a3), some (.int v21), some (.int v22), some (.int v23)]) ⟨rfl, ⟨rfl, ⟨rfl, ⟨rfl, ⟨rfl, trivial⟩⟩⟩⟩⟩ (J149 v21 v22 h)
                · have h := f40 c
                  refine g_aload_n C tb_X12_game_1_ok (i := 15) rfl rfl ?_
                  refine g_getR C tb_X12_game_1_ok (i := 16) rfl fl_X12_122 rfl k1 n32 ?_
                  refine g_iconstv C tb_X12_game_1_ok (i := 17) 2 rfl k_iconstv_2 ?_
                  refine g_iload C tb_X12_game_1_ok (i := 18) rfl rfl ?_
                  refine g_iconstv C tb_X12_game_1_ok (i := 19) 1 rfl k_iconstv_1 ?_
                  refine g_ixor C tb_X12_game_1_ok (i := 20) rfl ?_
                  refine g_imul C tb_X12_game_1_ok (i := 21) rfl ?_
                  refine g_iconstv C tb_X12_game_1_ok (i := 22) 1 rfl k_iconstv_1 ?_
                  refine g_iadd C tb_X12_game_1_ok (i := 23) rfl ?_
                  obtain ⟨b41, h⟩ := gA_e h
                  refine g_iald C tb_X12_game_1_ok (i := 24) rfl b41 ?_
                  refine g_aload_n C tb_X12_game_1_ok (i := 25) rfl rfl ?_
                  refine g_getR C tb_X12_game_1_ok (i := 26) rfl fl_X12_122 rfl k1 n32 ?_
                  refine g_iconstv C tb_X12_game_1_ok (i := 27) 2 rfl k_iconstv_2 ?_
                  refine g_iload C tb_X12_game_1_ok (i := 28) rfl rfl ?_
                  refine g_imul C tb_X12_game_1_ok (i := 29) rfl ?_
                  refine g_iconstv C tb_X12_game_1_ok (i := 30) 1 rfl k_iconstv_1 ?_
                  refine g_iadd C tb_X12_game_1_ok (i := 31) rfl ?_
                  obtain ⟨b42, h⟩ := gA_e h
                  refine g_iald C tb_X12_game_1_ok (i := 32) rfl b42 ?_
                  obtain ⟨t43, f44⟩ := br_e h
                  refine g_icmp_le C tb_X12_game_1_ok (i := 33) 121 rfl rfl (fun c => ?_) (fun c => ?_)
                  · have h := t43 c
                    obtain ⟨v45, ev45⟩ : ∃ w : Int32, w = v21 + (1 : Int32) := ⟨_, rfl⟩
                    have h := lt_e ev45 h
                    refine g_iincv C tb_X12_game_1_ok (i := 35) (1 : Int32) ev45 rfl rfl k_iconstv_1 rfl rfl ?_
                    refine g_iload C tb_X12_game_1_ok (i := 36) rfl rfl ?_
                    refine g_iconstv C tb_X12_game_1_ok (i := 37) (-1) rfl k_iconstv_m1 ?_
                    obtain ⟨j47, ej47, h⟩ := jn_e h
                    have J147 : ∀ (v46 : Int32), j47 v46 = some out → GG g x 7 Q 0 0 y M19 147 [some (.ref a0), none, none, some (.int a3), some (.int v45), none, some (.int v23)] [.int v46] := by
                      intro v46 h; subst ej47
                      refine g_istore C tb_X12_game_2_ok (i := 10) rfl rfl rfl ?_
                      exact g_less (L' := [some (.ref a0), none, none, some (.int a3), some (.int v45), some (.int v46), some (.int v23)]) ⟨rfl, ⟨rfl, ⟨rfl, ⟨rfl, ⟨rfl, trivial⟩⟩⟩⟩⟩ (J149 v45 v46 h)
                    obtain ⟨t48, f49⟩ := br_e h
                    refine g_icmp_ne C tb_X12_game_1_ok (i := 38) 145 rfl rfl (fun c => ?_) (fun c => ?_)
                    · have h := f49 c
                      refine g_iload C tb_X12_game_2_ok (i := 9) rfl rfl ?_
                      exact g_less (L' := [some (.ref a0), none, none, some (.int a3), some (.int v45), none, some (.int v23)]) ⟨rfl, ⟨rfl, ⟨rfl, ⟨rfl, trivial⟩⟩⟩⟩ (J147 v22 h)
                    · have h := t48 c
                      refine g_bipushv C tb_X12_game_1_ok (i := 39) 10 rfl k_bipushv_10 ?_
                      refine g_iload C tb_X12_game_2_ok (i := 0) rfl rfl ?_
                      refine g_iconstv C tb_X12_game_2_ok (i := 1) 2 rfl k_iconstv_2 ?_
                      obtain ⟨n50, h⟩ := gd_e h
                      refine g_idiv C tb_X12_game_2_ok (i := 2) rfl n50 ?_
                      refine g_imul C tb_X12_game_2_ok (i := 3) rfl ?_
                      refine g_iload C tb_X12_game_2_ok (i := 4) rfl rfl ?_
                      refine g_iconstv C tb_X12_game_2_ok (i := 5) 2 rfl k_iconstv_2 ?_
                      obtain ⟨n51, h⟩ := gd_e h
                      refine g_irem C tb_X12_game_2_ok (i := 6) rfl n51 ?_
                      refine g_iadd C tb_X12_game_2_ok (i := 7) rfl ?_
                      refine g_goto C tb_X12_game_2_ok (i := 8) 147 rfl rfl ?_
                      exact g_less (L' := [some (.ref a0), none, none, some (.int a3), some (.int v45), none, some (.int v23)]) ⟨rfl, ⟨rfl, ⟨rfl, ⟨rfl, trivial⟩⟩⟩⟩ (J147 (((10 : Int32) * (v23 / (2 : Int32))) + (v23 - v23 / (2 : Int32) * (2 : Int32))) h)
                  · have h := f44 c
                    refine g_goto C tb_X12_game_1_ok (i := 34) 149 rfl rfl ?_
                    exact g_less (L' := [some (.ref a0), none, none, some (.int a3), some (.int v21), some (.int v22), some (.int v23)]) ⟨rfl, ⟨rfl, ⟨rfl, ⟨rfl, ⟨rfl, trivial⟩⟩⟩⟩⟩ (J149 v21 v22 h)
          · have h := t16 c
            refine g_aload_n C tb_X12_game_0_ok (i := 23) rfl rfl ?_
            refine g_iconstv C tb_X12_game_0_ok (i := 24) 2 rfl k_iconstv_2 ?_
            obtain ⟨r52, M53, er52, h⟩ := c0_e h
            refine g_callV0 C tb_X12_game_0_ok (i := 25) [.int (2 : Int32)] rfl mw_X12_fail mv_X12_fail ml_X12_318 k1 rfl rfl rfl rfl (w_X12_fail C.G y a0 (2 : Int32) M2) er52 rfl rfl rfl ?_
            cases h
            exact g_iret0 C R tb_X12_game_0_ok (i := 26) rfl
        · have h := f15 c
          exact g_less (L' := [some (.ref a0), none, none, none, none, none, none]) ⟨rfl, trivial⟩ (J30 () h)
def f_X12_drawOf (y : Lay) (a0 : Nat) (a1 : Int32) (M : Mem) : Option (Int32 × Mem) := gK y a0 (0, 12) (lt (wI M a0 54 (((M.1 a0 54) * (1103515245 : Int32)) + (12345 : Int32))) fun (M2 : Mem) => gd (¬ a1 = 0) (some (((((M2.1 a0 54) >>> ((16 : Int32) &&& 31)) &&& (32767 : Int32)) - (((M2.1 a0 54) >>> ((16 : Int32) &&& 31)) &&& (32767 : Int32)) / a1 * a1), M2)))
theorem w_X12_drawOf {g : GX} {l : Launch} (hG : GF g l) (y : Lay) (a0 : Nat) (a1 : Int32) (M : Mem) : C0 g l yX12_drawOf cX12_drawOf 2 (some .int) 0 y [.ref a0, .int a1] M (f_X12_drawOf y a0 a1 M) := by
  refine C0_of hG (by decide) [some (.ref a0), some (.int a1)] rfl rfl (fun out h x Q C R => ?_)
  unfold f_X12_drawOf at h
  refine g_aload_n C tb_X12_drawOf_0_ok (i := 0) rfl rfl ?_
  refine g_aload_n C tb_X12_drawOf_0_ok (i := 1) rfl rfl ?_
  obtain ⟨k1, h⟩ := gK_e h
  refine g_getI C tb_X12_drawOf_0_ok (i := 2) rfl fl_X12_490 rfl k1 ?_
  refine g_ldcIw C tb_X12_drawOf_0_ok (i := 3) rfl cl_X12_493 ?_
  refine g_imul C tb_X12_drawOf_0_ok (i := 4) rfl ?_
  refine g_sipushv C tb_X12_drawOf_0_ok (i := 5) 12345 rfl k_sipushv_12345 ?_
  refine g_iadd C tb_X12_drawOf_0_ok (i := 6) rfl ?_
  refine g_putI C tb_X12_drawOf_0_ok (i := 7) rfl fl_X12_490 ft_12_54 rfl k1 ?_
  refine g_mem (fun M2 eM2 => ?_)
  have h := lt_e eM2 h
  refine g_aload_n C tb_X12_drawOf_0_ok (i := 8) rfl rfl ?_
  refine g_getI C tb_X12_drawOf_0_ok (i := 9) rfl fl_X12_490 rfl k1 ?_
  refine g_bipushv C tb_X12_drawOf_0_ok (i := 10) 16 rfl k_bipushv_16 ?_
  refine g_ishr C tb_X12_drawOf_0_ok (i := 11) rfl ?_
  refine g_sipushv C tb_X12_drawOf_0_ok (i := 12) 32767 rfl k_sipushv_32767 ?_
  refine g_iand C tb_X12_drawOf_0_ok (i := 13) rfl ?_
  refine g_iload_n C tb_X12_drawOf_0_ok (i := 14) rfl rfl ?_
  obtain ⟨n3, h⟩ := gd_e h
  refine g_irem C tb_X12_drawOf_0_ok (i := 15) rfl n3 ?_
  cases h
  exact g_iret0 C R tb_X12_drawOf_0_ok (i := 16) rfl
def f_X12_something (y : Lay) (a0 : Nat) (M : Mem) : Option (Int32 × Mem) := gK y a0 (0, 12) (c0 (f_X12_drawOf y a0 (5 : Int32) M) fun (r2 : Int32) (M3 : Mem) => jn (fun (M4 : Mem) => jn (fun (M6 : Mem) => jn (fun (M8 : Mem) => some (0, M8)) fun j9 => br (r2 = (2 : Int32)) (lt (wI M6 a0 32 (jmin (99 : Int32) ((M6.1 a0 32) + (5 : Int32)))) fun (M12 : Mem) => j9 M12) (j9 M6)) fun j7 => br (r2 = (1 : Int32)) (gN (y.2.1 a0 5) (gA y (y.2.1 a0 5) 1 (2 : Int32) (br ((M4.1 (y.2.1 a0 5) (2 : Int32).toNatClampNeg) ≤ 0) (j7 M4) (gA y (y.2.1 a0 5) 1 (2 : Int32) (c0 (f_X12_drawOf y a0 (M4.1 (y.2.1 a0 5) (2 : Int32).toNatClampNeg) M4) fun (r20 : Int32) (M21 : Mem) => gN (y.2.1 a0 29) (cp (f_X12_cells y a0 M21) fun (r23 : Int32) => c0 (f_X12_drawOf y a0 r23 M21) fun (r24 : Int32) (M25 : Mem) => gA y (y.2.1 a0 29) 1 r20 (lt (wI M25 (y.2.1 a0 29) r20.toNatClampNeg r24) fun (M27 : Mem) => j7 M27))))))) (j7 M4)) fun j5 => br (r2 = 0) (cp (f_X12_cells y a0 M3) fun (r30 : Int32) => c0 (f_X12_drawOf y a0 r30 M3) fun (r31 : Int32) (M32 : Mem) => c0 (f_X12_dye y a0 r31 (20 : Int32) M32) fun (r33 : Int32) (M34 : Mem) => j5 M34) (j5 M3))
theorem w_X12_something {g : GX} {l : Launch} (hG : GF g l) (y : Lay) (a0 : Nat) (M : Mem) : C0 g l yX12_something cX12_something 3 none 2 y [.ref a0] M (f_X12_something y a0 M) := by
  refine C0_of hG (by decide) [some (.ref a0), none, none] rfl rfl (fun out h x Q C R => ?_)
  unfold f_X12_something at h
  refine g_aload_n C tb_X12_something_0_ok (i := 0) rfl rfl ?_
  refine g_iconstv C tb_X12_something_0_ok (i := 1) 5 rfl k_iconstv_5 ?_
  obtain ⟨k1, h⟩ := gK_e h
  obtain ⟨r2, M3, er2, h⟩ := c0_e h
  refine g_callV0 C tb_X12_something_0_ok (i := 2) [.int (5 : Int32)] rfl mw_X12_drawOf mv_X12_drawOf ml_X12_494 k1 rfl rfl rfl rfl (w_X12_drawOf C.G y a0 (5 : Int32) M) er2 rfl rfl rfl ?_
  refine g_istore_n C tb_X12_something_0_ok (i := 3) rfl rfl rfl ?_
  refine g_iload_n C tb_X12_something_0_ok (i := 4) rfl rfl ?_
  obtain ⟨j5, ej5, h⟩ := jn_e h
  have J24 : ∀ (M4 : Mem), j5 M4 = some out → GG g x 3 Q 0 0 y M4 24 [some (.ref a0), some (.int r2), none] [] := by
    intro M4 h; subst ej5
    refine g_iload_n C tb_X12_something_0_ok (i := 13) rfl rfl ?_
    refine g_iconstv C tb_X12_something_0_ok (i := 14) 1 rfl k_iconstv_1 ?_
    obtain ⟨j7, ej7, h⟩ := jn_e h
    have J63 : ∀ (M6 : Mem), j7 M6 = some out → GG g x 3 Q 0 0 y M6 63 [some (.ref a0), some (.int r2), none] [] := by
      intro M6 h; subst ej7
      refine g_iload_n C tb_X12_something_0_ok (i := 36) rfl rfl ?_
      refine g_iconstv C tb_X12_something_0_ok (i := 37) 2 rfl k_iconstv_2 ?_
      obtain ⟨j9, ej9, h⟩ := jn_e h
      have J83 : ∀ (M8 : Mem), j9 M8 = some out → GG g x 3 Q 0 0 y M8 83 [none, none, none] [] := by
        intro M8 h; subst ej9
        cases h
        exact g_vret0 C R tb_X12_something_1_ok (i := 7) rfl
      obtain ⟨t10, f11⟩ := br_e h
      refine g_icmp_ne C tb_X12_something_0_ok (i := 38) 83 rfl rfl (fun c => ?_) (fun c => ?_)
      · have h := f11 c
        exact g_less (L' := [none, none, none]) trivial (J83 M6 h)
      · have h := t10 c
        refine g_aload_n C tb_X12_something_0_ok (i := 39) rfl rfl ?_
        refine g_bipushv C tb_X12_something_1_ok (i := 0) 99 rfl k_bipushv_99 ?_
        refine g_aload_n C tb_X12_something_1_ok (i := 1) rfl rfl ?_
        refine g_getI C tb_X12_something_1_ok (i := 2) rfl fl_X12_147 rfl k1 ?_
        refine g_iconstv C tb_X12_something_1_ok (i := 3) 5 rfl k_iconstv_5 ?_
        refine g_iadd C tb_X12_something_1_ok (i := 4) rfl ?_
        refine g_min C tb_X12_something_1_ok (i := 5) rfl mt_X12_191 rfl rfl rfl ?_
        refine g_putI C tb_X12_something_1_ok (i := 6) rfl fl_X12_147 ft_12_32 rfl k1 ?_
        refine g_mem (fun M12 eM12 => ?_)
        have h := lt_e eM12 h
        exact g_less (L' := [none, none, none]) trivial (J83 M12 h)
    obtain ⟨t13, f14⟩ := br_e h
    refine g_icmp_ne C tb_X12_something_0_ok (i := 15) 63 rfl rfl (fun c => ?_) (fun c => ?_)
    · have h := f14 c
      exact g_less (L' := [some (.ref a0), some (.int r2), none]) ⟨rfl, ⟨rfl, trivial⟩⟩ (J63 M4 h)
    · have h := t13 c
      refine g_aload_n C tb_X12_something_0_ok (i := 16) rfl rfl ?_
      obtain ⟨n15, h⟩ := gN_e h
      refine g_getR C tb_X12_something_0_ok (i := 17) rfl fl_X12_40 rfl k1 n15 ?_
      refine g_iconstv C tb_X12_something_0_ok (i := 18) 2 rfl k_iconstv_2 ?_
      obtain ⟨b16, h⟩ := gA_e h
      refine g_iald C tb_X12_something_0_ok (i := 19) rfl b16 ?_
      obtain ⟨t17, f18⟩ := br_e h
      refine g_if_le C tb_X12_something_0_ok (i := 20) 63 rfl rfl (fun c => ?_) (fun c => ?_)
      · have h := t17 c
        exact g_less (L' := [some (.ref a0), some (.int r2), none]) ⟨rfl, ⟨rfl, trivial⟩⟩ (J63 M4 h)
      · have h := f18 c
        refine g_aload_n C tb_X12_something_0_ok (i := 21) rfl rfl ?_
        refine g_aload_n C tb_X12_something_0_ok (i := 22) rfl rfl ?_
        refine g_getR C tb_X12_something_0_ok (i := 23) rfl fl_X12_40 rfl k1 n15 ?_
        refine g_iconstv C tb_X12_something_0_ok (i := 24) 2 rfl k_iconstv_2 ?_
        obtain ⟨b19, h⟩ := gA_e h
        refine g_iald C tb_X12_something_0_ok (i := 25) rfl b19 ?_
        obtain ⟨r20, M21, er20, h⟩ := c0_e h
        refine g_callV0 C tb_X12_something_0_ok (i := 26) [.int (M4.1 (y.2.1 a0 5) (2 : Int32).toNatClampNeg)] rfl mw_X12_drawOf mv_X12_drawOf ml_X12_494 k1 rfl rfl rfl rfl (w_X12_drawOf C.G y a0 (M4.1 (y.2.1 a0 5) (2 : Int32).toNatClampNeg) M4) er20 rfl rfl rfl ?_
        refine g_istore_n C tb_X12_something_0_ok (i := 27) rfl rfl rfl ?_
        refine g_aload_n C tb_X12_something_0_ok (i := 28) rfl rfl ?_
        obtain ⟨n22, h⟩ := gN_e h
        refine g_getR C tb_X12_something_0_ok (i := 29) rfl fl_X12_77 rfl k1 n22 ?_
        refine g_iload_n C tb_X12_something_0_ok (i := 30) rfl rfl ?_
        refine g_aload_n C tb_X12_something_0_ok (i := 31) rfl rfl ?_
        refine g_aload_n C tb_X12_something_0_ok (i := 32) rfl rfl ?_
        obtain ⟨r23, er23, h⟩ := cp_e h
        refine g_callV0 C tb_X12_something_0_ok (i := 33) [] rfl mw_X12_cells mv_X12_cells ml_X12_153 k1 rfl rfl rfl rfl (w_X12_cells C.G y a0 M21) (pm_s er23) rfl rfl rfl ?_
        obtain ⟨r24, M25, er24, h⟩ := c0_e h
        refine g_callV0 C tb_X12_something_0_ok (i := 34) [.int r23] rfl mw_X12_drawOf mv_X12_drawOf ml_X12_494 k1 rfl rfl rfl rfl (w_X12_drawOf C.G y a0 r23 M21) er24 rfl rfl rfl ?_
        obtain ⟨b26, h⟩ := gA_e h
        refine g_iast C tb_X12_something_0_ok (i := 35) rfl b26 ?_
        refine g_mem (fun M27 eM27 => ?_)
        have h := lt_e eM27 h
        exact g_less (L' := [some (.ref a0), some (.int r2), none]) ⟨rfl, ⟨rfl, trivial⟩⟩ (J63 M27 h)
  obtain ⟨t28, f29⟩ := br_e h
  refine g_if_ne C tb_X12_something_0_ok (i := 5) 24 rfl rfl (fun c => ?_) (fun c => ?_)
  · have h := f29 c
    exact g_less (L' := [some (.ref a0), some (.int r2), none]) ⟨rfl, ⟨rfl, trivial⟩⟩ (J24 M3 h)
  · have h := t28 c
    refine g_aload_n C tb_X12_something_0_ok (i := 6) rfl rfl ?_
    refine g_aload_n C tb_X12_something_0_ok (i := 7) rfl rfl ?_
    refine g_aload_n C tb_X12_something_0_ok (i := 8) rfl rfl ?_
    obtain ⟨r30, er30, h⟩ := cp_e h
    refine g_callV0 C tb_X12_something_0_ok (i := 9) [] rfl mw_X12_cells mv_X12_cells ml_X12_153 k1 rfl rfl rfl rfl (w_X12_cells C.G y a0 M3) (pm_s er30) rfl rfl rfl ?_
    obtain ⟨r31, M32, er31, h⟩ := c0_e h
    refine g_callV0 C tb_X12_something_0_ok (i := 10) [.int r30] rfl mw_X12_drawOf mv_X12_drawOf ml_X12_494 k1 rfl rfl rfl rfl (w_X12_drawOf C.G y a0 r30 M3) er31 rfl rfl rfl ?_
    refine g_bipushv C tb_X12_something_0_ok (i := 11) 20 rfl k_bipushv_20 ?_
    obtain ⟨r33, M34, er33, h⟩ := c0_e h
    refine g_callV0 C tb_X12_something_0_ok (i := 12) [.int r31, .int (20 : Int32)] rfl mw_X12_dye mv_X12_dye ml_X12_386 k1 rfl rfl rfl rfl (w_X12_dye C.G y a0 r31 (20 : Int32) M32) er33 rfl rfl rfl ?_
    exact g_less (L' := [some (.ref a0), some (.int r2), none]) ⟨rfl, ⟨rfl, trivial⟩⟩ (J24 M34 h)
def f_X12_skies (y : Lay) (a0 : Nat) (a1 : Int32) (a2 : Int32) (a3 : Int32) (M : Mem) : Option (Int32 × Mem) := gK y a0 (0, 12) (lt (wI M a0 4 (0 : Int32)) fun (M2 : Mem) => cp (f_X12_isIn y (a3.toInt64) (0 : Int64) (2 : Int64) M2) fun (r3 : Int32) => br (r3 = 0) (c0 (f_X12_fail y a0 (1 : Int32) M2) fun (r38 : Int32) (M39 : Mem) => some (r38, M39)) (cp (f_X12_isIn y (a2.toInt64) (0 : Int64) (40 : Int64) M2) fun (r6 : Int32) => br (r6 = 0) (c0 (f_X12_fail y a0 (2 : Int32) M2) fun (r36 : Int32) (M37 : Mem) => some (r36, M37)) (gN (y.2.1 a0 42) (c0 (f_X12_pack y a0 (y.2.1 a0 42) (0 : Int32) M2) fun (r10 : Int32) (M11 : Mem) => lt (wI M11 a0 54 a1) fun (M12 : Mem) => fixN (fun _ _ _ => none) (fun (s16 : Int32 → Int32 → Mem → Option (Int32 × Mem)) (v13 : Int32) (v14 : Int32) (M15 : Mem) => br (a2 ≤ v14) (jn (fun (v20 : Int32) => c0 (f_X12_unpack y a0 (y.2.1 a0 42) (0 : Int32) M15) fun (r22 : Int32) (M23 : Mem) => some (v20, M23)) fun j21 => br (a3 = 0) (j21 v13) (br (a3 = (1 : Int32)) (cp (f_X12_allBlue y a0 M15) fun (r28 : Int32) => j21 r28) (j21 (M15.1 a0 32)))) (c0 (f_X12_something y a0 M15) fun (r29 : Int32) (M30 : Mem) => c0 (f_X12_aDay y a0 M30) fun (r31 : Int32) (M32 : Mem) => cp (f_X12_bitsOf y (M32.1 a0 41) M32) fun (r33 : Int32) => lt (v13 + r33) fun (v34 : Int32) => lt (v14 + (1 : Int32)) fun (v35 : Int32) => s16 v34 v35 M32)) FUEL (0 : Int32) (0 : Int32) M12))))
theorem w_X12_skies {g : GX} {l : Launch} (hG : GF g l) (y : Lay) (a0 : Nat) (a1 : Int32) (a2 : Int32) (a3 : Int32) (M : Mem) : C0 g l yX12_skies cX12_skies 6 (some .int) 8 y [.ref a0, .int a1, .int a2, .int a3] M (f_X12_skies y a0 a1 a2 a3 M) := by
  refine C0_of hG (by decide) [some (.ref a0), some (.int a1), some (.int a2), some (.int a3), none, none] rfl rfl (fun out h x Q C R => ?_)
  unfold f_X12_skies at h
  refine g_aload_n C tb_X12_skies_0_ok (i := 0) rfl rfl ?_
  refine g_iconstv C tb_X12_skies_0_ok (i := 1) 0 rfl k_iconstv_0 ?_
  obtain ⟨k1, h⟩ := gK_e h
  refine g_putI C tb_X12_skies_0_ok (i := 2) rfl fl_X12_150 ft_12_4 rfl k1 ?_
  refine g_mem (fun M2 eM2 => ?_)
  have h := lt_e eM2 h
  refine g_iload_n C tb_X12_skies_0_ok (i := 3) rfl rfl ?_
  refine g_i2l C tb_X12_skies_0_ok (i := 4) rfl ?_
  refine g_lconst C tb_X12_skies_0_ok (i := 5) 0 rfl rfl ?_
  refine g_ldc2 C tb_X12_skies_0_ok (i := 6) rfl cl_X12_479 ?_
  obtain ⟨r3, er3, h⟩ := cp_e h
  refine g_callS0 C tb_X12_skies_0_ok (i := 7) [.long (a3.toInt64), .long (0 : Int64), .long (2 : Int64)] rfl mw_X12_isIn mst_X12_isIn ml_X12_157 rfl rfl rfl rfl (w_X12_isIn C.G y (a3.toInt64) (0 : Int64) (2 : Int64) M2) (pm_s er3) rfl rfl rfl ?_
  obtain ⟨t4, f5⟩ := br_e h
  refine g_if_ne C tb_X12_skies_0_ok (i := 8) 23 rfl rfl (fun c => ?_) (fun c => ?_)
  · have h := f5 c
    refine g_iload_n C tb_X12_skies_0_ok (i := 13) rfl rfl ?_
    refine g_i2l C tb_X12_skies_0_ok (i := 14) rfl ?_
    refine g_lconst C tb_X12_skies_0_ok (i := 15) 0 rfl rfl ?_
    refine g_ldc2 C tb_X12_skies_0_ok (i := 16) rfl cl_X12_443 ?_
    obtain ⟨r6, er6, h⟩ := cp_e h
    refine g_callS0 C tb_X12_skies_0_ok (i := 17) [.long (a2.toInt64), .long (0 : Int64), .long (40 : Int64)] rfl mw_X12_isIn mst_X12_isIn ml_X12_157 rfl rfl rfl rfl (w_X12_isIn C.G y (a2.toInt64) (0 : Int64) (40 : Int64) M2) (pm_s er6) rfl rfl rfl ?_
    obtain ⟨t7, f8⟩ := br_e h
    refine g_if_ne C tb_X12_skies_0_ok (i := 18) 41 rfl rfl (fun c => ?_) (fun c => ?_)
    · have h := f8 c
      refine g_aload_n C tb_X12_skies_0_ok (i := 23) rfl rfl ?_
      refine g_aload_n C tb_X12_skies_0_ok (i := 24) rfl rfl ?_
      obtain ⟨n9, h⟩ := gN_e h
      refine g_getR C tb_X12_skies_0_ok (i := 25) rfl fl_X12_92 rfl k1 n9 ?_
      refine g_iconstv C tb_X12_skies_0_ok (i := 26) 0 rfl k_iconstv_0 ?_
      obtain ⟨r10, M11, er10, h⟩ := c0_e h
      refine g_callV0 C tb_X12_skies_0_ok (i := 27) [.ref (y.2.1 a0 42), .int (0 : Int32)] rfl mw_X12_pack mv_X12_pack ml_X12_420 k1 rfl rfl rfl rfl (w_X12_pack C.G y a0 (y.2.1 a0 42) (0 : Int32) M2) er10 rfl rfl rfl ?_
      refine g_aload_n C tb_X12_skies_0_ok (i := 28) rfl rfl ?_
      refine g_iload_n C tb_X12_skies_0_ok (i := 29) rfl rfl ?_
      refine g_putI C tb_X12_skies_0_ok (i := 30) rfl fl_X12_490 ft_12_54 rfl k1 ?_
      refine g_mem (fun M12 eM12 => ?_)
      have h := lt_e eM12 h
      refine g_iconstv C tb_X12_skies_0_ok (i := 31) 0 rfl k_iconstv_0 ?_
      refine g_istore C tb_X12_skies_0_ok (i := 32) rfl rfl rfl ?_
      refine g_iconstv C tb_X12_skies_0_ok (i := 33) 0 rfl k_iconstv_0 ?_
      refine g_istore C tb_X12_skies_0_ok (i := 34) rfl rfl rfl ?_
      refine g_less (L' := [some (.ref a0), none, some (.int a2), some (.int a3), some (.int (0 : Int32)), some (.int (0 : Int32))]) ⟨rfl, ⟨rfl, ⟨rfl, ⟨rfl, ⟨rfl, trivial⟩⟩⟩⟩⟩ ?_
      refine fix_i (P := fun (f : Int32 → Int32 → Mem → Option (Int32 × Mem)) => ∀ (v13 : Int32) (v14 : Int32) (M15 : Mem), f v13 v14 M15 = some out → GG g x 6 Q 0 0 y M15 61 [some (.ref a0), none, some (.int a2), some (.int a3), some (.int v13), some (.int v14)] []) ?_ ?_ _ (0 : Int32) (0 : Int32) M12 h
      · intro v13 v14 M15 h; exact (nn_e h).elim
      · intro s16 ih17 v13 v14 M15 h
        refine g_iload C tb_X12_skies_0_ok (i := 35) rfl rfl ?_
        refine g_iload_n C tb_X12_skies_0_ok (i := 36) rfl rfl ?_
        obtain ⟨t18, f19⟩ := br_e h
        refine g_icmp_ge C tb_X12_skies_0_ok (i := 37) 93 rfl rfl (fun c => ?_) (fun c => ?_)
        · have h := t18 c
          refine g_iload_n C tb_X12_skies_1_ok (i := 10) rfl rfl ?_
          obtain ⟨j21, ej21, h⟩ := jn_e h
          have J118 : ∀ (v20 : Int32), j21 v20 = some out → GG g x 6 Q 0 0 y M15 118 [some (.ref a0), none, none, none, none, none] [.int v20] := by
            intro v20 h; subst ej21
            refine g_istore C tb_X12_skies_1_ok (i := 22) rfl rfl rfl ?_
            refine g_aload_n C tb_X12_skies_1_ok (i := 23) rfl rfl ?_
            refine g_aload_n C tb_X12_skies_1_ok (i := 24) rfl rfl ?_
            refine g_getR C tb_X12_skies_1_ok (i := 25) rfl fl_X12_92 rfl k1 n9 ?_
            refine g_iconstv C tb_X12_skies_1_ok (i := 26) 0 rfl k_iconstv_0 ?_
            obtain ⟨r22, M23, er22, h⟩ := c0_e h
            refine g_callV0 C tb_X12_skies_1_ok (i := 27) [.ref (y.2.1 a0 42), .int (0 : Int32)] rfl mw_X12_unpack mv_X12_unpack ml_X12_440 k1 rfl rfl rfl rfl (w_X12_unpack C.G y a0 (y.2.1 a0 42) (0 : Int32) M15) er22 rfl rfl rfl ?_
            refine g_iload C tb_X12_skies_1_ok (i := 28) rfl rfl ?_
            cases h
            exact g_iret0 C R tb_X12_skies_1_ok (i := 29) rfl
          obtain ⟨t24, f25⟩ := br_e h
          refine g_if_ne C tb_X12_skies_1_ok (i := 11) 102 rfl rfl (fun c => ?_) (fun c => ?_)
          · have h := f25 c
            refine g_iload_n C tb_X12_skies_1_ok (i := 14) rfl rfl ?_
            refine g_iconstv C tb_X12_skies_1_ok (i := 15) 1 rfl k_iconstv_1 ?_
            obtain ⟨t26, f27⟩ := br_e h
            refine g_icmp_ne C tb_X12_skies_1_ok (i := 16) 114 rfl rfl (fun c => ?_) (fun c => ?_)
            · have h := f27 c
              refine g_aload_n C tb_X12_skies_1_ok (i := 20) rfl rfl ?_
              refine g_getI C tb_X12_skies_1_ok (i := 21) rfl fl_X12_147 rfl k1 ?_
              exact g_less (L' := [some (.ref a0), none, none, none, none, none]) ⟨rfl, trivial⟩ (J118 (M15.1 a0 32) h)
            · have h := t26 c
              refine g_aload_n C tb_X12_skies_1_ok (i := 17) rfl rfl ?_
              obtain ⟨r28, er28, h⟩ := cp_e h
              refine g_callV0 C tb_X12_skies_1_ok (i := 18) [] rfl mw_X12_allBlue mv_X12_allBlue ml_X12_405 k1 rfl rfl rfl rfl (w_X12_allBlue C.G y a0 M15) (pm_s er28) rfl rfl rfl ?_
              refine g_goto C tb_X12_skies_1_ok (i := 19) 118 rfl rfl ?_
              exact g_less (L' := [some (.ref a0), none, none, none, none, none]) ⟨rfl, trivial⟩ (J118 r28 h)
          · have h := t24 c
            refine g_iload C tb_X12_skies_1_ok (i := 12) rfl rfl ?_
            refine g_goto C tb_X12_skies_1_ok (i := 13) 118 rfl rfl ?_
            exact g_less (L' := [some (.ref a0), none, none, none, none, none]) ⟨rfl, trivial⟩ (J118 v13 h)
        · have h := f19 c
          refine g_aload_n C tb_X12_skies_0_ok (i := 38) rfl rfl ?_
          obtain ⟨r29, M30, er29, h⟩ := c0_e h
          refine g_callV0 C tb_X12_skies_0_ok (i := 39) [] rfl mw_X12_something mv_X12_something ml_X12_497 k1 rfl rfl rfl rfl (w_X12_something C.G y a0 M15) er29 rfl rfl rfl ?_
          refine g_aload_n C tb_X12_skies_1_ok (i := 0) rfl rfl ?_
          obtain ⟨r31, M32, er31, h⟩ := c0_e h
          refine g_callV0 C tb_X12_skies_1_ok (i := 1) [] rfl mw_X12_aDay mv_X12_aDay ml_X12_402 k1 rfl rfl rfl rfl (w_X12_aDay C.G y a0 M30) er31 rfl rfl rfl ?_
          refine g_iload C tb_X12_skies_1_ok (i := 2) rfl rfl ?_
          refine g_aload_n C tb_X12_skies_1_ok (i := 3) rfl rfl ?_
          refine g_getI C tb_X12_skies_1_ok (i := 4) rfl fl_X12_393 rfl k1 ?_
          obtain ⟨r33, er33, h⟩ := cp_e h
          refine g_callS0 C tb_X12_skies_1_ok (i := 5) [.int (M32.1 a0 41)] rfl mw_X12_bitsOf mst_X12_bitsOf ml_X12_396 rfl rfl rfl rfl (w_X12_bitsOf C.G y (M32.1 a0 41) M32) (pm_s er33) rfl rfl rfl ?_
          refine g_iadd C tb_X12_skies_1_ok (i := 6) rfl ?_
          refine g_topi (fun v34 ev34 => ?_)
          have h := lt_e ev34 h
          refine g_istore C tb_X12_skies_1_ok (i := 7) rfl rfl rfl ?_
          obtain ⟨v35, ev35⟩ : ∃ w : Int32, w = v14 + (1 : Int32) := ⟨_, rfl⟩
          have h := lt_e ev35 h
          refine g_iincv C tb_X12_skies_1_ok (i := 8) (1 : Int32) ev35 rfl rfl k_iconstv_1 rfl rfl ?_
          refine g_goto C tb_X12_skies_1_ok (i := 9) 61 rfl rfl ?_
          exact g_less (L' := [some (.ref a0), none, some (.int a2), some (.int a3), some (.int v34), some (.int v35)]) ⟨rfl, ⟨rfl, ⟨rfl, ⟨rfl, ⟨rfl, trivial⟩⟩⟩⟩⟩ (ih17 v34 v35 M32 h)
    · have h := t7 c
      refine g_aload_n C tb_X12_skies_0_ok (i := 19) rfl rfl ?_
      refine g_iconstv C tb_X12_skies_0_ok (i := 20) 2 rfl k_iconstv_2 ?_
      obtain ⟨r36, M37, er36, h⟩ := c0_e h
      refine g_callV0 C tb_X12_skies_0_ok (i := 21) [.int (2 : Int32)] rfl mw_X12_fail mv_X12_fail ml_X12_318 k1 rfl rfl rfl rfl (w_X12_fail C.G y a0 (2 : Int32) M2) er36 rfl rfl rfl ?_
      cases h
      exact g_iret0 C R tb_X12_skies_0_ok (i := 22) rfl
  · have h := t4 c
    refine g_aload_n C tb_X12_skies_0_ok (i := 9) rfl rfl ?_
    refine g_iconstv C tb_X12_skies_0_ok (i := 10) 1 rfl k_iconstv_1 ?_
    obtain ⟨r38, M39, er38, h⟩ := c0_e h
    refine g_callV0 C tb_X12_skies_0_ok (i := 11) [.int (1 : Int32)] rfl mw_X12_fail mv_X12_fail ml_X12_318 k1 rfl rfl rfl rfl (w_X12_fail C.G y a0 (1 : Int32) M2) er38 rfl rfl rfl ?_
    cases h
    exact g_iret0 C R tb_X12_skies_0_ok (i := 12) rfl
def f_X12_image (y : Lay) (a0 : Nat) (M : Mem) : Option (Int32 × Mem) := gK y a0 (0, 12) (lt (wI M a0 4 (0 : Int32)) fun (M2 : Mem) => lt (wI M2 a0 55 (1 : Int32)) fun (M3 : Mem) => lt (wI M3 a0 56 (M3.1 a0 36)) fun (M4 : Mem) => lt (wI M4 a0 57 (M4.1 a0 37)) fun (M5 : Mem) => gN (y.2.1 a0 58) (c0 (f_X12_pack y a0 (y.2.1 a0 58) (0 : Int32) M5) fun (r7 : Int32) (M8 : Mem) => gN (y.2.1 a0 59) (gN (y.2.1 a0 30) (c0 (f_X12_copyTo y (y.2.1 a0 59) (y.2.1 a0 30) M8) fun (r11 : Int32) (M12 : Mem) => gN (y.2.1 a0 60) (gN (y.2.1 a0 46) (c0 (f_X12_copyTo y (y.2.1 a0 60) (y.2.1 a0 46) M12) fun (r15 : Int32) (M16 : Mem) => gN (y.2.1 a0 61) (gN (y.2.1 a0 47) (c0 (f_X12_copyTo y (y.2.1 a0 61) (y.2.1 a0 47) M16) fun (r19 : Int32) (M20 : Mem) => gN (y.2.1 a0 62) (gN (y.2.1 a0 48) (c0 (f_X12_copyTo y (y.2.1 a0 62) (y.2.1 a0 48) M20) fun (r23 : Int32) (M24 : Mem) => gN (y.2.1 a0 63) (gN (y.2.1 a0 12) (c0 (f_X12_copyTo y (y.2.1 a0 63) (y.2.1 a0 12) M24) fun (r27 : Int32) (M28 : Mem) => some (0, M28)))))))))))))
theorem w_X12_image {g : GX} {l : Launch} (hG : GF g l) (y : Lay) (a0 : Nat) (M : Mem) : C0 g l yX12_image cX12_image 1 none 1 y [.ref a0] M (f_X12_image y a0 M) := by
  refine C0_of hG (by decide) [some (.ref a0)] rfl rfl (fun out h x Q C R => ?_)
  unfold f_X12_image at h
  refine g_aload_n C tb_X12_image_0_ok (i := 0) rfl rfl ?_
  refine g_iconstv C tb_X12_image_0_ok (i := 1) 0 rfl k_iconstv_0 ?_
  obtain ⟨k1, h⟩ := gK_e h
  refine g_putI C tb_X12_image_0_ok (i := 2) rfl fl_X12_150 ft_12_4 rfl k1 ?_
  refine g_mem (fun M2 eM2 => ?_)
  have h := lt_e eM2 h
  refine g_aload_n C tb_X12_image_0_ok (i := 3) rfl rfl ?_
  refine g_iconstv C tb_X12_image_0_ok (i := 4) 1 rfl k_iconstv_1 ?_
  refine g_putZ C tb_X12_image_0_ok (i := 5) rfl fl_X12_348 ft_12_55 rfl (by decide) k1 ?_
  refine g_mem (fun M3 eM3 => ?_)
  have h := lt_e eM3 h
  refine g_aload_n C tb_X12_image_0_ok (i := 6) rfl rfl ?_
  refine g_aload_n C tb_X12_image_0_ok (i := 7) rfl rfl ?_
  refine g_getI C tb_X12_image_0_ok (i := 8) rfl fl_X12_342 rfl k1 ?_
  refine g_putI C tb_X12_image_0_ok (i := 9) rfl fl_X12_500 ft_12_56 rfl k1 ?_
  refine g_mem (fun M4 eM4 => ?_)
  have h := lt_e eM4 h
  refine g_aload_n C tb_X12_image_0_ok (i := 10) rfl rfl ?_
  refine g_aload_n C tb_X12_image_0_ok (i := 11) rfl rfl ?_
  refine g_getI C tb_X12_image_0_ok (i := 12) rfl fl_X12_345 rfl k1 ?_
  refine g_putI C tb_X12_image_0_ok (i := 13) rfl fl_X12_503 ft_12_57 rfl k1 ?_
  refine g_mem (fun M5 eM5 => ?_)
  have h := lt_e eM5 h
  refine g_aload_n C tb_X12_image_0_ok (i := 14) rfl rfl ?_
  refine g_aload_n C tb_X12_image_0_ok (i := 15) rfl rfl ?_
  obtain ⟨n6, h⟩ := gN_e h
  refine g_getR C tb_X12_image_0_ok (i := 16) rfl fl_X12_125 rfl k1 n6 ?_
  refine g_iconstv C tb_X12_image_0_ok (i := 17) 0 rfl k_iconstv_0 ?_
  obtain ⟨r7, M8, er7, h⟩ := c0_e h
  refine g_callV0 C tb_X12_image_0_ok (i := 18) [.ref (y.2.1 a0 58), .int (0 : Int32)] rfl mw_X12_pack mv_X12_pack ml_X12_420 k1 rfl rfl rfl rfl (w_X12_pack C.G y a0 (y.2.1 a0 58) (0 : Int32) M5) er7 rfl rfl rfl ?_
  refine g_aload_n C tb_X12_image_0_ok (i := 19) rfl rfl ?_
  obtain ⟨n9, h⟩ := gN_e h
  refine g_getR C tb_X12_image_0_ok (i := 20) rfl fl_X12_128 rfl k1 n9 ?_
  refine g_aload_n C tb_X12_image_0_ok (i := 21) rfl rfl ?_
  obtain ⟨n10, h⟩ := gN_e h
  refine g_getR C tb_X12_image_0_ok (i := 22) rfl fl_X12_80 rfl k1 n10 ?_
  obtain ⟨r11, M12, er11, h⟩ := c0_e h
  refine g_callS0 C tb_X12_image_0_ok (i := 23) [.ref (y.2.1 a0 59), .ref (y.2.1 a0 30)] rfl mw_X12_copyTo mst_X12_copyTo ml_X12_454 rfl rfl rfl rfl (w_X12_copyTo C.G y (y.2.1 a0 59) (y.2.1 a0 30) M8) er11 rfl rfl rfl ?_
  refine g_aload_n C tb_X12_image_0_ok (i := 24) rfl rfl ?_
  obtain ⟨n13, h⟩ := gN_e h
  refine g_getR C tb_X12_image_0_ok (i := 25) rfl fl_X12_131 rfl k1 n13 ?_
  refine g_aload_n C tb_X12_image_0_ok (i := 26) rfl rfl ?_
  obtain ⟨n14, h⟩ := gN_e h
  refine g_getR C tb_X12_image_0_ok (i := 27) rfl fl_X12_104 rfl k1 n14 ?_
  obtain ⟨r15, M16, er15, h⟩ := c0_e h
  refine g_callS0 C tb_X12_image_0_ok (i := 28) [.ref (y.2.1 a0 60), .ref (y.2.1 a0 46)] rfl mw_X12_copyTo mst_X12_copyTo ml_X12_454 rfl rfl rfl rfl (w_X12_copyTo C.G y (y.2.1 a0 60) (y.2.1 a0 46) M12) er15 rfl rfl rfl ?_
  refine g_aload_n C tb_X12_image_0_ok (i := 29) rfl rfl ?_
  obtain ⟨n17, h⟩ := gN_e h
  refine g_getR C tb_X12_image_0_ok (i := 30) rfl fl_X12_134 rfl k1 n17 ?_
  refine g_aload_n C tb_X12_image_0_ok (i := 31) rfl rfl ?_
  obtain ⟨n18, h⟩ := gN_e h
  refine g_getR C tb_X12_image_0_ok (i := 32) rfl fl_X12_107 rfl k1 n18 ?_
  obtain ⟨r19, M20, er19, h⟩ := c0_e h
  refine g_callS0 C tb_X12_image_0_ok (i := 33) [.ref (y.2.1 a0 61), .ref (y.2.1 a0 47)] rfl mw_X12_copyTo mst_X12_copyTo ml_X12_454 rfl rfl rfl rfl (w_X12_copyTo C.G y (y.2.1 a0 61) (y.2.1 a0 47) M16) er19 rfl rfl rfl ?_
  refine g_aload_n C tb_X12_image_0_ok (i := 34) rfl rfl ?_
  obtain ⟨n21, h⟩ := gN_e h
  refine g_getR C tb_X12_image_0_ok (i := 35) rfl fl_X12_137 rfl k1 n21 ?_
  refine g_aload_n C tb_X12_image_0_ok (i := 36) rfl rfl ?_
  obtain ⟨n22, h⟩ := gN_e h
  refine g_getR C tb_X12_image_0_ok (i := 37) rfl fl_X12_110 rfl k1 n22 ?_
  obtain ⟨r23, M24, er23, h⟩ := c0_e h
  refine g_callS0 C tb_X12_image_0_ok (i := 38) [.ref (y.2.1 a0 62), .ref (y.2.1 a0 48)] rfl mw_X12_copyTo mst_X12_copyTo ml_X12_454 rfl rfl rfl rfl (w_X12_copyTo C.G y (y.2.1 a0 62) (y.2.1 a0 48) M20) er23 rfl rfl rfl ?_
  refine g_aload_n C tb_X12_image_0_ok (i := 39) rfl rfl ?_
  obtain ⟨n25, h⟩ := gN_e h
  refine g_getR C tb_X12_image_1_ok (i := 0) rfl fl_X12_140 rfl k1 n25 ?_
  refine g_aload_n C tb_X12_image_1_ok (i := 1) rfl rfl ?_
  obtain ⟨n26, h⟩ := gN_e h
  refine g_getR C tb_X12_image_1_ok (i := 2) rfl fl_X12_62 rfl k1 n26 ?_
  obtain ⟨r27, M28, er27, h⟩ := c0_e h
  refine g_callS0 C tb_X12_image_1_ok (i := 3) [.ref (y.2.1 a0 63), .ref (y.2.1 a0 12)] rfl mw_X12_copyTo mst_X12_copyTo ml_X12_454 rfl rfl rfl rfl (w_X12_copyTo C.G y (y.2.1 a0 63) (y.2.1 a0 12) M24) er27 rfl rfl rfl ?_
  cases h
  exact g_vret0 C R tb_X12_image_1_ok (i := 4) rfl
def f_X12_restore (y : Lay) (a0 : Nat) (M : Mem) : Option (Int32 × Mem) := gK y a0 (0, 12) (lt (wI M a0 4 (0 : Int32)) fun (M2 : Mem) => br ((M2.1 a0 55) = 0) (some ((0 : Int32), M2)) (lt (wI M2 a0 36 (M2.1 a0 56)) fun (M5 : Mem) => lt (wI M5 a0 37 (M5.1 a0 57)) fun (M6 : Mem) => gN (y.2.1 a0 58) (c0 (f_X12_unpack y a0 (y.2.1 a0 58) (0 : Int32) M6) fun (r8 : Int32) (M9 : Mem) => gN (y.2.1 a0 30) (gN (y.2.1 a0 59) (c0 (f_X12_copyTo y (y.2.1 a0 30) (y.2.1 a0 59) M9) fun (r12 : Int32) (M13 : Mem) => gN (y.2.1 a0 46) (gN (y.2.1 a0 60) (c0 (f_X12_copyTo y (y.2.1 a0 46) (y.2.1 a0 60) M13) fun (r16 : Int32) (M17 : Mem) => gN (y.2.1 a0 47) (gN (y.2.1 a0 61) (c0 (f_X12_copyTo y (y.2.1 a0 47) (y.2.1 a0 61) M17) fun (r20 : Int32) (M21 : Mem) => gN (y.2.1 a0 48) (gN (y.2.1 a0 62) (c0 (f_X12_copyTo y (y.2.1 a0 48) (y.2.1 a0 62) M21) fun (r24 : Int32) (M25 : Mem) => gN (y.2.1 a0 12) (gN (y.2.1 a0 63) (c0 (f_X12_copyTo y (y.2.1 a0 12) (y.2.1 a0 63) M25) fun (r28 : Int32) (M29 : Mem) => some ((1 : Int32), M29))))))))))))))
theorem w_X12_restore {g : GX} {l : Launch} (hG : GF g l) (y : Lay) (a0 : Nat) (M : Mem) : C0 g l yX12_restore cX12_restore 1 (some .boolean) 1 y [.ref a0] M (f_X12_restore y a0 M) := by
  refine C0_of hG (by decide) [some (.ref a0)] rfl rfl (fun out h x Q C R => ?_)
  unfold f_X12_restore at h
  refine g_aload_n C tb_X12_restore_0_ok (i := 0) rfl rfl ?_
  refine g_iconstv C tb_X12_restore_0_ok (i := 1) 0 rfl k_iconstv_0 ?_
  obtain ⟨k1, h⟩ := gK_e h
  refine g_putI C tb_X12_restore_0_ok (i := 2) rfl fl_X12_150 ft_12_4 rfl k1 ?_
  refine g_mem (fun M2 eM2 => ?_)
  have h := lt_e eM2 h
  refine g_aload_n C tb_X12_restore_0_ok (i := 3) rfl rfl ?_
  refine g_getI C tb_X12_restore_0_ok (i := 4) rfl fl_X12_348 rfl k1 ?_
  obtain ⟨t3, f4⟩ := br_e h
  refine g_if_ne C tb_X12_restore_0_ok (i := 5) 14 rfl rfl (fun c => ?_) (fun c => ?_)
  · have h := f4 c
    refine g_aload_n C tb_X12_restore_0_ok (i := 8) rfl rfl ?_
    refine g_aload_n C tb_X12_restore_0_ok (i := 9) rfl rfl ?_
    refine g_getI C tb_X12_restore_0_ok (i := 10) rfl fl_X12_500 rfl k1 ?_
    refine g_putI C tb_X12_restore_0_ok (i := 11) rfl fl_X12_342 ft_12_36 rfl k1 ?_
    refine g_mem (fun M5 eM5 => ?_)
    have h := lt_e eM5 h
    refine g_aload_n C tb_X12_restore_0_ok (i := 12) rfl rfl ?_
    refine g_aload_n C tb_X12_restore_0_ok (i := 13) rfl rfl ?_
    refine g_getI C tb_X12_restore_0_ok (i := 14) rfl fl_X12_503 rfl k1 ?_
    refine g_putI C tb_X12_restore_0_ok (i := 15) rfl fl_X12_345 ft_12_37 rfl k1 ?_
    refine g_mem (fun M6 eM6 => ?_)
    have h := lt_e eM6 h
    refine g_aload_n C tb_X12_restore_0_ok (i := 16) rfl rfl ?_
    refine g_aload_n C tb_X12_restore_0_ok (i := 17) rfl rfl ?_
    obtain ⟨n7, h⟩ := gN_e h
    refine g_getR C tb_X12_restore_0_ok (i := 18) rfl fl_X12_125 rfl k1 n7 ?_
    refine g_iconstv C tb_X12_restore_0_ok (i := 19) 0 rfl k_iconstv_0 ?_
    obtain ⟨r8, M9, er8, h⟩ := c0_e h
    refine g_callV0 C tb_X12_restore_0_ok (i := 20) [.ref (y.2.1 a0 58), .int (0 : Int32)] rfl mw_X12_unpack mv_X12_unpack ml_X12_440 k1 rfl rfl rfl rfl (w_X12_unpack C.G y a0 (y.2.1 a0 58) (0 : Int32) M6) er8 rfl rfl rfl ?_
    refine g_aload_n C tb_X12_restore_0_ok (i := 21) rfl rfl ?_
    obtain ⟨n10, h⟩ := gN_e h
    refine g_getR C tb_X12_restore_0_ok (i := 22) rfl fl_X12_80 rfl k1 n10 ?_
    refine g_aload_n C tb_X12_restore_0_ok (i := 23) rfl rfl ?_
    obtain ⟨n11, h⟩ := gN_e h
    refine g_getR C tb_X12_restore_0_ok (i := 24) rfl fl_X12_128 rfl k1 n11 ?_
    obtain ⟨r12, M13, er12, h⟩ := c0_e h
    refine g_callS0 C tb_X12_restore_0_ok (i := 25) [.ref (y.2.1 a0 30), .ref (y.2.1 a0 59)] rfl mw_X12_copyTo mst_X12_copyTo ml_X12_454 rfl rfl rfl rfl (w_X12_copyTo C.G y (y.2.1 a0 30) (y.2.1 a0 59) M9) er12 rfl rfl rfl ?_
    refine g_aload_n C tb_X12_restore_0_ok (i := 26) rfl rfl ?_
    obtain ⟨n14, h⟩ := gN_e h
    refine g_getR C tb_X12_restore_0_ok (i := 27) rfl fl_X12_104 rfl k1 n14 ?_
    refine g_aload_n C tb_X12_restore_0_ok (i := 28) rfl rfl ?_
    obtain ⟨n15, h⟩ := gN_e h
    refine g_getR C tb_X12_restore_0_ok (i := 29) rfl fl_X12_131 rfl k1 n15 ?_
    obtain ⟨r16, M17, er16, h⟩ := c0_e h
    refine g_callS0 C tb_X12_restore_0_ok (i := 30) [.ref (y.2.1 a0 46), .ref (y.2.1 a0 60)] rfl mw_X12_copyTo mst_X12_copyTo ml_X12_454 rfl rfl rfl rfl (w_X12_copyTo C.G y (y.2.1 a0 46) (y.2.1 a0 60) M13) er16 rfl rfl rfl ?_
    refine g_aload_n C tb_X12_restore_0_ok (i := 31) rfl rfl ?_
    obtain ⟨n18, h⟩ := gN_e h
    refine g_getR C tb_X12_restore_0_ok (i := 32) rfl fl_X12_107 rfl k1 n18 ?_
    refine g_aload_n C tb_X12_restore_0_ok (i := 33) rfl rfl ?_
    obtain ⟨n19, h⟩ := gN_e h
    refine g_getR C tb_X12_restore_0_ok (i := 34) rfl fl_X12_134 rfl k1 n19 ?_
    obtain ⟨r20, M21, er20, h⟩ := c0_e h
    refine g_callS0 C tb_X12_restore_0_ok (i := 35) [.ref (y.2.1 a0 47), .ref (y.2.1 a0 61)] rfl mw_X12_copyTo mst_X12_copyTo ml_X12_454 rfl rfl rfl rfl (w_X12_copyTo C.G y (y.2.1 a0 47) (y.2.1 a0 61) M17) er20 rfl rfl rfl ?_
    refine g_aload_n C tb_X12_restore_0_ok (i := 36) rfl rfl ?_
    obtain ⟨n22, h⟩ := gN_e h
    refine g_getR C tb_X12_restore_0_ok (i := 37) rfl fl_X12_110 rfl k1 n22 ?_
    refine g_aload_n C tb_X12_restore_0_ok (i := 38) rfl rfl ?_
    obtain ⟨n23, h⟩ := gN_e h
    refine g_getR C tb_X12_restore_0_ok (i := 39) rfl fl_X12_137 rfl k1 n23 ?_
    obtain ⟨r24, M25, er24, h⟩ := c0_e h
    refine g_callS0 C tb_X12_restore_1_ok (i := 0) [.ref (y.2.1 a0 48), .ref (y.2.1 a0 62)] rfl mw_X12_copyTo mst_X12_copyTo ml_X12_454 rfl rfl rfl rfl (w_X12_copyTo C.G y (y.2.1 a0 48) (y.2.1 a0 62) M21) er24 rfl rfl rfl ?_
    refine g_aload_n C tb_X12_restore_1_ok (i := 1) rfl rfl ?_
    obtain ⟨n26, h⟩ := gN_e h
    refine g_getR C tb_X12_restore_1_ok (i := 2) rfl fl_X12_62 rfl k1 n26 ?_
    refine g_aload_n C tb_X12_restore_1_ok (i := 3) rfl rfl ?_
    obtain ⟨n27, h⟩ := gN_e h
    refine g_getR C tb_X12_restore_1_ok (i := 4) rfl fl_X12_140 rfl k1 n27 ?_
    obtain ⟨r28, M29, er28, h⟩ := c0_e h
    refine g_callS0 C tb_X12_restore_1_ok (i := 5) [.ref (y.2.1 a0 12), .ref (y.2.1 a0 63)] rfl mw_X12_copyTo mst_X12_copyTo ml_X12_454 rfl rfl rfl rfl (w_X12_copyTo C.G y (y.2.1 a0 12) (y.2.1 a0 63) M25) er28 rfl rfl rfl ?_
    refine g_iconstv C tb_X12_restore_1_ok (i := 6) 1 rfl k_iconstv_1 ?_
    cases h
    exact g_zret0 C R (by decide) tb_X12_restore_1_ok (i := 7) rfl
  · have h := t3 c
    refine g_iconstv C tb_X12_restore_0_ok (i := 6) 0 rfl k_iconstv_0 ?_
    cases h
    exact g_zret0 C R (by decide) tb_X12_restore_0_ok (i := 7) rfl
def f_L_coast (y : Lay) (a0 : Nat) (a1 : Int32) (a2 : Nat) (M : Mem) : Option (Int32 × Mem) := gK y a0 (0, 11) (ct (f_X11_coast y a0 a1 M) (fun (_ : Mem) => none) (fun (M5 : Mem) => some ((1 : Int32), M5)) fun (r2 : Int32) (M3 : Mem) => gA y a2 3 (0 : Int32) (lt (wL M3 a2 (0 : Int32).toNatClampNeg (r2.toInt64)) fun (M7 : Mem) => some ((0 : Int32), M7)))
theorem w_L_coast {g : GX} {l : Launch} (hG : GF g l) (y : Lay) (a0 : Nat) (a1 : Int32) (a2 : Nat) (M : Mem) : CW g l yL_coast cL_coast 4 [((0 : Nat), (9 : Nat), (12 : Nat), (13 : Nat))] 95 1 6 y [.ref a0, .int a1, .ref a2] M (f_L_coast y a0 a1 a2 M) := by
  refine CW_of hG (by decide) [some (.ref a0), some (.int a1), some (.ref a2), none] rfl rfl (fun out h x Q C R => ?_)
  unfold f_L_coast at h
  refine g_aload_n C tb_L_coast_0_ok (i := 0) rfl rfl ?_
  refine g_iconstv C tb_L_coast_0_ok (i := 1) 0 rfl k_iconstv_0 ?_
  refine g_aload_n C tb_L_coast_0_ok (i := 2) rfl rfl ?_
  refine g_iload_n C tb_L_coast_0_ok (i := 3) rfl rfl ?_
  obtain ⟨k1, h⟩ := gK_e h
  refine g_callVC C tb_L_coast_0_ok (i := 4) R [.int a1] rfl mw_X11_coast mv_X11_coast ml_L_7 k1 rfl rfl rfl rfl (w_X11_coast C.G y a0 a1 M) h rfl rfl rfl ?_ ?_ (fun r2 M3 h => ?_)
  · intro M4 h; exact (nn_e h).elim
  · intro M5 h
    refine ⟨12, hd_L_coast_2, g_hst_n C tb_L_coast_0_ok (i := 8) rfl rfl rfl rfl ?_⟩
    refine g_iconstv C tb_L_coast_0_ok (i := 9) 1 rfl k_iconstv_1 ?_
    cases h
    exact g_iretW C R rfl rfl tb_L_coast_0_ok (i := 10) rfl
  refine g_i2l C tb_L_coast_0_ok (i := 5) rfl ?_
  obtain ⟨b6, h⟩ := gA_e h
  refine g_last C tb_L_coast_0_ok (i := 6) rfl b6 ?_
  refine g_mem (fun M7 eM7 => ?_)
  have h := lt_e eM7 h
  refine g_goto C tb_L_coast_0_ok (i := 7) 15 rfl rfl ?_
  refine g_iconstv C tb_L_coast_0_ok (i := 11) 0 rfl k_iconstv_0 ?_
  cases h
  exact g_iretW C R rfl rfl tb_L_coast_0_ok (i := 12) rfl
def f_L_count (y : Lay) (a0 : Nat) (a1 : Int32) (a2 : Nat) (M : Mem) : Option (Int32 × Mem) := gK y a0 (0, 11) (ct (f_X11_count y a0 a1 M) (fun (M4 : Mem) => some ((1 : Int32), M4)) (fun (_ : Mem) => none) fun (r2 : Int32) (M3 : Mem) => gA y a2 3 (0 : Int32) (lt (wL M3 a2 (0 : Int32).toNatClampNeg (r2.toInt64)) fun (M7 : Mem) => some ((0 : Int32), M7)))
theorem w_L_count {g : GX} {l : Launch} (hG : GF g l) (y : Lay) (a0 : Nat) (a1 : Int32) (a2 : Nat) (M : Mem) : CW g l yL_count cL_count 4 [((0 : Nat), (9 : Nat), (12 : Nat), (18 : Nat))] 2 1 6 y [.ref a0, .int a1, .ref a2] M (f_L_count y a0 a1 a2 M) := by
  refine CW_of hG (by decide) [some (.ref a0), some (.int a1), some (.ref a2), none] rfl rfl (fun out h x Q C R => ?_)
  unfold f_L_count at h
  refine g_aload_n C tb_L_count_0_ok (i := 0) rfl rfl ?_
  refine g_iconstv C tb_L_count_0_ok (i := 1) 0 rfl k_iconstv_0 ?_
  refine g_aload_n C tb_L_count_0_ok (i := 2) rfl rfl ?_
  refine g_iload_n C tb_L_count_0_ok (i := 3) rfl rfl ?_
  obtain ⟨k1, h⟩ := gK_e h
  refine g_callVC C tb_L_count_0_ok (i := 4) R [.int a1] rfl mw_X11_count mv_X11_count ml_L_15 k1 rfl rfl rfl rfl (w_X11_count C.G y a0 a1 M) h rfl rfl rfl ?_ ?_ (fun r2 M3 h => ?_)
  · intro M4 h
    refine ⟨12, hd_L_count_1, g_hst_n C tb_L_count_0_ok (i := 8) rfl rfl rfl rfl ?_⟩
    refine g_iconstv C tb_L_count_0_ok (i := 9) 1 rfl k_iconstv_1 ?_
    cases h
    exact g_iretW C R rfl rfl tb_L_count_0_ok (i := 10) rfl
  · intro M5 h; exact (nn_e h).elim
  refine g_i2l C tb_L_count_0_ok (i := 5) rfl ?_
  obtain ⟨b6, h⟩ := gA_e h
  refine g_last C tb_L_count_0_ok (i := 6) rfl b6 ?_
  refine g_mem (fun M7 eM7 => ?_)
  have h := lt_e eM7 h
  refine g_goto C tb_L_count_0_ok (i := 7) 15 rfl rfl ?_
  refine g_iconstv C tb_L_count_0_ok (i := 11) 0 rfl k_iconstv_0 ?_
  cases h
  exact g_iretW C R rfl rfl tb_L_count_0_ok (i := 12) rfl
def f_L_cell (y : Lay) (a0 : Nat) (a1 : Int32) (a2 : Int32) (a3 : Nat) (M : Mem) : Option (Int32 × Mem) := gK y a0 (0, 11) (ct (f_X11_cell y a0 a1 a2 M) (fun (M4 : Mem) => some ((1 : Int32), M4)) (fun (_ : Mem) => none) fun (r2 : Int32) (M3 : Mem) => gA y a3 3 (0 : Int32) (lt (wL M3 a3 (0 : Int32).toNatClampNeg (r2.toInt64)) fun (M7 : Mem) => some ((0 : Int32), M7)))
theorem w_L_cell {g : GX} {l : Launch} (hG : GF g l) (y : Lay) (a0 : Nat) (a1 : Int32) (a2 : Int32) (a3 : Nat) (M : Mem) : CW g l yL_cell cL_cell 5 [((0 : Nat), (10 : Nat), (13 : Nat), (18 : Nat))] 4 2 12 y [.ref a0, .int a1, .int a2, .ref a3] M (f_L_cell y a0 a1 a2 a3 M) := by
  refine CW_of hG (by decide) [some (.ref a0), some (.int a1), some (.int a2), some (.ref a3), none] rfl rfl (fun out h x Q C R => ?_)
  unfold f_L_cell at h
  refine g_aload_n C tb_L_cell_0_ok (i := 0) rfl rfl ?_
  refine g_iconstv C tb_L_cell_0_ok (i := 1) 0 rfl k_iconstv_0 ?_
  refine g_aload_n C tb_L_cell_0_ok (i := 2) rfl rfl ?_
  refine g_iload_n C tb_L_cell_0_ok (i := 3) rfl rfl ?_
  refine g_iload_n C tb_L_cell_0_ok (i := 4) rfl rfl ?_
  obtain ⟨k1, h⟩ := gK_e h
  refine g_callVC C tb_L_cell_0_ok (i := 5) R [.int a1, .int a2] rfl mw_X11_cell mv_X11_cell ml_L_20 k1 rfl rfl rfl rfl (w_X11_cell C.G y a0 a1 a2 M) h rfl rfl rfl ?_ ?_ (fun r2 M3 h => ?_)
  · intro M4 h
    refine ⟨13, hd_L_cell_1, g_hst C tb_L_cell_0_ok (i := 9) rfl rfl rfl rfl ?_⟩
    refine g_iconstv C tb_L_cell_0_ok (i := 10) 1 rfl k_iconstv_1 ?_
    cases h
    exact g_iretW C R rfl rfl tb_L_cell_0_ok (i := 11) rfl
  · intro M5 h; exact (nn_e h).elim
  refine g_i2l C tb_L_cell_0_ok (i := 6) rfl ?_
  obtain ⟨b6, h⟩ := gA_e h
  refine g_last C tb_L_cell_0_ok (i := 7) rfl b6 ?_
  refine g_mem (fun M7 eM7 => ?_)
  have h := lt_e eM7 h
  refine g_goto C tb_L_cell_0_ok (i := 8) 17 rfl rfl ?_
  refine g_iconstv C tb_L_cell_0_ok (i := 12) 0 rfl k_iconstv_0 ?_
  cases h
  exact g_iretW C R rfl rfl tb_L_cell_0_ok (i := 13) rfl
def f_L_girl (y : Lay) (a0 : Nat) (a1 : Int32) (a2 : Int32) (a3 : Nat) (M : Mem) : Option (Int32 × Mem) := gK y a0 (0, 11) (ct (f_X11_girl y a0 a1 a2 M) (fun (M4 : Mem) => some ((1 : Int32), M4)) (fun (_ : Mem) => none) fun (r2 : Int32) (M3 : Mem) => gA y a3 3 (0 : Int32) (lt (wL M3 a3 (0 : Int32).toNatClampNeg (r2.toInt64)) fun (M7 : Mem) => some ((0 : Int32), M7)))
theorem w_L_girl {g : GX} {l : Launch} (hG : GF g l) (y : Lay) (a0 : Nat) (a1 : Int32) (a2 : Int32) (a3 : Nat) (M : Mem) : CW g l yL_girl cL_girl 5 [((0 : Nat), (10 : Nat), (13 : Nat), (18 : Nat))] 4 2 12 y [.ref a0, .int a1, .int a2, .ref a3] M (f_L_girl y a0 a1 a2 a3 M) := by
  refine CW_of hG (by decide) [some (.ref a0), some (.int a1), some (.int a2), some (.ref a3), none] rfl rfl (fun out h x Q C R => ?_)
  unfold f_L_girl at h
  refine g_aload_n C tb_L_girl_0_ok (i := 0) rfl rfl ?_
  refine g_iconstv C tb_L_girl_0_ok (i := 1) 0 rfl k_iconstv_0 ?_
  refine g_aload_n C tb_L_girl_0_ok (i := 2) rfl rfl ?_
  refine g_iload_n C tb_L_girl_0_ok (i := 3) rfl rfl ?_
  refine g_iload_n C tb_L_girl_0_ok (i := 4) rfl rfl ?_
  obtain ⟨k1, h⟩ := gK_e h
  refine g_callVC C tb_L_girl_0_ok (i := 5) R [.int a1, .int a2] rfl mw_X11_girl mv_X11_girl ml_L_24 k1 rfl rfl rfl rfl (w_X11_girl C.G y a0 a1 a2 M) h rfl rfl rfl ?_ ?_ (fun r2 M3 h => ?_)
  · intro M4 h
    refine ⟨13, hd_L_girl_1, g_hst C tb_L_girl_0_ok (i := 9) rfl rfl rfl rfl ?_⟩
    refine g_iconstv C tb_L_girl_0_ok (i := 10) 1 rfl k_iconstv_1 ?_
    cases h
    exact g_iretW C R rfl rfl tb_L_girl_0_ok (i := 11) rfl
  · intro M5 h; exact (nn_e h).elim
  refine g_i2l C tb_L_girl_0_ok (i := 6) rfl ?_
  obtain ⟨b6, h⟩ := gA_e h
  refine g_last C tb_L_girl_0_ok (i := 7) rfl b6 ?_
  refine g_mem (fun M7 eM7 => ?_)
  have h := lt_e eM7 h
  refine g_goto C tb_L_girl_0_ok (i := 8) 17 rfl rfl ?_
  refine g_iconstv C tb_L_girl_0_ok (i := 12) 0 rfl k_iconstv_0 ?_
  cases h
  exact g_iretW C R rfl rfl tb_L_girl_0_ok (i := 13) rfl
def f_L_rest (y : Lay) (a0 : Nat) (a1 : Int32) (a2 : Int32) (a3 : Nat) (M : Mem) : Option (Int32 × Mem) := gK y a0 (0, 11) (ct (f_X11_rest y a0 a1 a2 M) (fun (M4 : Mem) => some ((1 : Int32), M4)) (fun (_ : Mem) => none) fun (r2 : Int32) (M3 : Mem) => jn (fun (v6 : Int64) => gA y a3 3 (0 : Int32) (lt (wL M3 a3 (0 : Int32).toNatClampNeg v6) fun (M9 : Mem) => some ((0 : Int32), M9))) fun j7 => br (r2 = 0) (j7 (0 : Int64)) (j7 (1 : Int64)))
theorem w_L_rest {g : GX} {l : Launch} (hG : GF g l) (y : Lay) (a0 : Nat) (a1 : Int32) (a2 : Int32) (a3 : Nat) (M : Mem) : CW g l yL_rest cL_rest 5 [((0 : Nat), (17 : Nat), (20 : Nat), (18 : Nat))] 4 1 6 y [.ref a0, .int a1, .int a2, .ref a3] M (f_L_rest y a0 a1 a2 a3 M) := by
  refine CW_of hG (by decide) [some (.ref a0), some (.int a1), some (.int a2), some (.ref a3), none] rfl rfl (fun out h x Q C R => ?_)
  unfold f_L_rest at h
  refine g_aload_n C tb_L_rest_0_ok (i := 0) rfl rfl ?_
  refine g_iconstv C tb_L_rest_0_ok (i := 1) 0 rfl k_iconstv_0 ?_
  refine g_aload_n C tb_L_rest_0_ok (i := 2) rfl rfl ?_
  refine g_iload_n C tb_L_rest_0_ok (i := 3) rfl rfl ?_
  refine g_iload_n C tb_L_rest_0_ok (i := 4) rfl rfl ?_
  obtain ⟨k1, h⟩ := gK_e h
  refine g_callVC C tb_L_rest_0_ok (i := 5) R [.int a1, .int a2] rfl mw_X11_rest mv_X11_rest ml_L_27 k1 rfl rfl rfl rfl (w_X11_rest C.G y a0 a1 a2 M) h rfl rfl rfl ?_ ?_ (fun r2 M3 h => ?_)
  · intro M4 h
    refine ⟨20, hd_L_rest_1, g_hst C tb_L_rest_0_ok (i := 12) rfl rfl rfl rfl ?_⟩
    refine g_iconstv C tb_L_rest_0_ok (i := 13) 1 rfl k_iconstv_1 ?_
    cases h
    exact g_iretW C R rfl rfl tb_L_rest_0_ok (i := 14) rfl
  · intro M5 h; exact (nn_e h).elim
  obtain ⟨j7, ej7, h⟩ := jn_e h
  have J16 : ∀ (v6 : Int64), j7 v6 = some out → GG g x 5 Q 1 6 y M3 16 [none, none, none, none, none] [.long v6, .int (0 : Int32), .ref a3] := by
    intro v6 h; subst ej7
    obtain ⟨b8, h⟩ := gA_e h
    refine g_last C tb_L_rest_0_ok (i := 10) rfl b8 ?_
    refine g_mem (fun M9 eM9 => ?_)
    have h := lt_e eM9 h
    refine g_goto C tb_L_rest_0_ok (i := 11) 24 rfl rfl ?_
    refine g_iconstv C tb_L_rest_0_ok (i := 15) 0 rfl k_iconstv_0 ?_
    cases h
    exact g_iretW C R rfl rfl tb_L_rest_0_ok (i := 16) rfl
  obtain ⟨t10, f11⟩ := br_e h
  refine g_if_eq C tb_L_rest_0_ok (i := 6) 15 rfl rfl (fun c => ?_) (fun c => ?_)
  · have h := t10 c
    refine g_lconst C tb_L_rest_0_ok (i := 9) 0 rfl rfl ?_
    exact g_less (L' := [none, none, none, none, none]) trivial (J16 (0 : Int64) h)
  · have h := f11 c
    refine g_lconst C tb_L_rest_0_ok (i := 7) 1 rfl rfl ?_
    refine g_goto C tb_L_rest_0_ok (i := 8) 16 rfl rfl ?_
    exact g_less (L' := [none, none, none, none, none]) trivial (J16 (1 : Int64) h)
def f_L_go (y : Lay) (a0 : Nat) (a1 : Int32) (a2 : Int32) (a3 : Nat) (M : Mem) : Option (Int32 × Mem) := gK y a0 (0, 11) (ct (f_X11_go y a0 a1 a2 M) (fun (M4 : Mem) => some ((1 : Int32), M4)) (fun (_ : Mem) => none) fun (r2 : Int32) (M3 : Mem) => gA y a3 3 (0 : Int32) (lt (wL M3 a3 (0 : Int32).toNatClampNeg (r2.toInt64)) fun (M7 : Mem) => some ((0 : Int32), M7)))
theorem w_L_go {g : GX} {l : Launch} (hG : GF g l) (y : Lay) (a0 : Nat) (a1 : Int32) (a2 : Int32) (a3 : Nat) (M : Mem) : CW g l yL_go cL_go 5 [((0 : Nat), (10 : Nat), (13 : Nat), (18 : Nat))] 4 2 12 y [.ref a0, .int a1, .int a2, .ref a3] M (f_L_go y a0 a1 a2 a3 M) := by
  refine CW_of hG (by decide) [some (.ref a0), some (.int a1), some (.int a2), some (.ref a3), none] rfl rfl (fun out h x Q C R => ?_)
  unfold f_L_go at h
  refine g_aload_n C tb_L_go_0_ok (i := 0) rfl rfl ?_
  refine g_iconstv C tb_L_go_0_ok (i := 1) 0 rfl k_iconstv_0 ?_
  refine g_aload_n C tb_L_go_0_ok (i := 2) rfl rfl ?_
  refine g_iload_n C tb_L_go_0_ok (i := 3) rfl rfl ?_
  refine g_iload_n C tb_L_go_0_ok (i := 4) rfl rfl ?_
  obtain ⟨k1, h⟩ := gK_e h
  refine g_callVC C tb_L_go_0_ok (i := 5) R [.int a1, .int a2] rfl mw_X11_go mv_X11_go ml_L_31 k1 rfl rfl rfl rfl (w_X11_go C.G y a0 a1 a2 M) h rfl rfl rfl ?_ ?_ (fun r2 M3 h => ?_)
  · intro M4 h
    refine ⟨13, hd_L_go_1, g_hst C tb_L_go_0_ok (i := 9) rfl rfl rfl rfl ?_⟩
    refine g_iconstv C tb_L_go_0_ok (i := 10) 1 rfl k_iconstv_1 ?_
    cases h
    exact g_iretW C R rfl rfl tb_L_go_0_ok (i := 11) rfl
  · intro M5 h; exact (nn_e h).elim
  refine g_i2l C tb_L_go_0_ok (i := 6) rfl ?_
  obtain ⟨b6, h⟩ := gA_e h
  refine g_last C tb_L_go_0_ok (i := 7) rfl b6 ?_
  refine g_mem (fun M7 eM7 => ?_)
  have h := lt_e eM7 h
  refine g_goto C tb_L_go_0_ok (i := 8) 17 rfl rfl ?_
  refine g_iconstv C tb_L_go_0_ok (i := 12) 0 rfl k_iconstv_0 ?_
  cases h
  exact g_iretW C R rfl rfl tb_L_go_0_ok (i := 13) rfl
def f_L_peg (y : Lay) (a0 : Nat) (a1 : Int32) (a2 : Int32) (a3 : Nat) (M : Mem) : Option (Int32 × Mem) := gK y a0 (0, 11) (ct (f_X11_peg y a0 a1 a2 M) (fun (M4 : Mem) => some ((1 : Int32), M4)) (fun (_ : Mem) => none) fun (r2 : Int32) (M3 : Mem) => gA y a3 3 (0 : Int32) (lt (wL M3 a3 (0 : Int32).toNatClampNeg (r2.toInt64)) fun (M7 : Mem) => some ((0 : Int32), M7)))
theorem w_L_peg {g : GX} {l : Launch} (hG : GF g l) (y : Lay) (a0 : Nat) (a1 : Int32) (a2 : Int32) (a3 : Nat) (M : Mem) : CW g l yL_peg cL_peg 5 [((0 : Nat), (10 : Nat), (13 : Nat), (18 : Nat))] 4 1 6 y [.ref a0, .int a1, .int a2, .ref a3] M (f_L_peg y a0 a1 a2 a3 M) := by
  refine CW_of hG (by decide) [some (.ref a0), some (.int a1), some (.int a2), some (.ref a3), none] rfl rfl (fun out h x Q C R => ?_)
  unfold f_L_peg at h
  refine g_aload_n C tb_L_peg_0_ok (i := 0) rfl rfl ?_
  refine g_iconstv C tb_L_peg_0_ok (i := 1) 0 rfl k_iconstv_0 ?_
  refine g_aload_n C tb_L_peg_0_ok (i := 2) rfl rfl ?_
  refine g_iload_n C tb_L_peg_0_ok (i := 3) rfl rfl ?_
  refine g_iload_n C tb_L_peg_0_ok (i := 4) rfl rfl ?_
  obtain ⟨k1, h⟩ := gK_e h
  refine g_callVC C tb_L_peg_0_ok (i := 5) R [.int a1, .int a2] rfl mw_X11_peg mv_X11_peg ml_L_34 k1 rfl rfl rfl rfl (w_X11_peg C.G y a0 a1 a2 M) h rfl rfl rfl ?_ ?_ (fun r2 M3 h => ?_)
  · intro M4 h
    refine ⟨13, hd_L_peg_1, g_hst C tb_L_peg_0_ok (i := 9) rfl rfl rfl rfl ?_⟩
    refine g_iconstv C tb_L_peg_0_ok (i := 10) 1 rfl k_iconstv_1 ?_
    cases h
    exact g_iretW C R rfl rfl tb_L_peg_0_ok (i := 11) rfl
  · intro M5 h; exact (nn_e h).elim
  refine g_i2l C tb_L_peg_0_ok (i := 6) rfl ?_
  obtain ⟨b6, h⟩ := gA_e h
  refine g_last C tb_L_peg_0_ok (i := 7) rfl b6 ?_
  refine g_mem (fun M7 eM7 => ?_)
  have h := lt_e eM7 h
  refine g_goto C tb_L_peg_0_ok (i := 8) 17 rfl rfl ?_
  refine g_iconstv C tb_L_peg_0_ok (i := 12) 0 rfl k_iconstv_0 ?_
  cases h
  exact g_iretW C R rfl rfl tb_L_peg_0_ok (i := 13) rfl
def f_L_then (y : Lay) (a0 : Nat) (a1 : Int32) (a2 : Int32) (a3 : Nat) (M : Mem) : Option (Int32 × Mem) := gK y a0 (0, 11) (ct (f_X11_then y a0 a1 a2 M) (fun (M4 : Mem) => some ((1 : Int32), M4)) (fun (M5 : Mem) => some ((2 : Int32), M5)) fun (r2 : Int32) (M3 : Mem) => gA y a3 3 (0 : Int32) (lt (wL M3 a3 (0 : Int32).toNatClampNeg (r2.toInt64)) fun (M7 : Mem) => some ((0 : Int32), M7)))
theorem w_L_then {g : GX} {l : Launch} (hG : GF g l) (y : Lay) (a0 : Nat) (a1 : Int32) (a2 : Int32) (a3 : Nat) (M : Mem) : CW g l yL_then cL_then 5 [((0 : Nat), (10 : Nat), (13 : Nat), (18 : Nat)), ((0 : Nat), (10 : Nat), (17 : Nat), (13 : Nat))] 7 2 12 y [.ref a0, .int a1, .int a2, .ref a3] M (f_L_then y a0 a1 a2 a3 M) := by
  refine CW_of hG (by decide) [some (.ref a0), some (.int a1), some (.int a2), some (.ref a3), none] rfl rfl (fun out h x Q C R => ?_)
  unfold f_L_then at h
  refine g_aload_n C tb_L_then_0_ok (i := 0) rfl rfl ?_
  refine g_iconstv C tb_L_then_0_ok (i := 1) 0 rfl k_iconstv_0 ?_
  refine g_aload_n C tb_L_then_0_ok (i := 2) rfl rfl ?_
  refine g_iload_n C tb_L_then_0_ok (i := 3) rfl rfl ?_
  refine g_iload_n C tb_L_then_0_ok (i := 4) rfl rfl ?_
  obtain ⟨k1, h⟩ := gK_e h
  refine g_callVC C tb_L_then_0_ok (i := 5) R [.int a1, .int a2] rfl mw_X11_then mv_X11_then ml_L_38 k1 rfl rfl rfl rfl (w_X11_then C.G y a0 a1 a2 M) h rfl rfl rfl ?_ ?_ (fun r2 M3 h => ?_)
  · intro M4 h
    refine ⟨13, hd_L_then_1, g_hst C tb_L_then_0_ok (i := 9) rfl rfl rfl rfl ?_⟩
    refine g_iconstv C tb_L_then_0_ok (i := 10) 1 rfl k_iconstv_1 ?_
    cases h
    exact g_iretW C R rfl rfl tb_L_then_0_ok (i := 11) rfl
  · intro M5 h
    refine ⟨17, hd_L_then_2, g_hst C tb_L_then_0_ok (i := 12) rfl rfl rfl rfl ?_⟩
    refine g_iconstv C tb_L_then_0_ok (i := 13) 2 rfl k_iconstv_2 ?_
    cases h
    exact g_iretW C R rfl rfl tb_L_then_0_ok (i := 14) rfl
  refine g_i2l C tb_L_then_0_ok (i := 6) rfl ?_
  obtain ⟨b6, h⟩ := gA_e h
  refine g_last C tb_L_then_0_ok (i := 7) rfl b6 ?_
  refine g_mem (fun M7 eM7 => ?_)
  have h := lt_e eM7 h
  refine g_goto C tb_L_then_0_ok (i := 8) 21 rfl rfl ?_
  refine g_iconstv C tb_L_then_0_ok (i := 15) 0 rfl k_iconstv_0 ?_
  cases h
  exact g_iretW C R rfl rfl tb_L_then_0_ok (i := 16) rfl
def f_L_sky (y : Lay) (a0 : Nat) (a1 : Int32) (a2 : Int32) (a3 : Nat) (M : Mem) : Option (Int32 × Mem) := gK y a0 (0, 11) (ct (f_X11_sky y a0 a1 a2 M) (fun (M4 : Mem) => some ((1 : Int32), M4)) (fun (M5 : Mem) => some ((2 : Int32), M5)) fun (r2 : Int32) (M3 : Mem) => gA y a3 3 (0 : Int32) (lt (wL M3 a3 (0 : Int32).toNatClampNeg (r2.toInt64)) fun (M7 : Mem) => some ((0 : Int32), M7)))
theorem w_L_sky {g : GX} {l : Launch} (hG : GF g l) (y : Lay) (a0 : Nat) (a1 : Int32) (a2 : Int32) (a3 : Nat) (M : Mem) : CW g l yL_sky cL_sky 5 [((0 : Nat), (10 : Nat), (13 : Nat), (18 : Nat)), ((0 : Nat), (10 : Nat), (17 : Nat), (13 : Nat))] 7 2 12 y [.ref a0, .int a1, .int a2, .ref a3] M (f_L_sky y a0 a1 a2 a3 M) := by
  refine CW_of hG (by decide) [some (.ref a0), some (.int a1), some (.int a2), some (.ref a3), none] rfl rfl (fun out h x Q C R => ?_)
  unfold f_L_sky at h
  refine g_aload_n C tb_L_sky_0_ok (i := 0) rfl rfl ?_
  refine g_iconstv C tb_L_sky_0_ok (i := 1) 0 rfl k_iconstv_0 ?_
  refine g_aload_n C tb_L_sky_0_ok (i := 2) rfl rfl ?_
  refine g_iload_n C tb_L_sky_0_ok (i := 3) rfl rfl ?_
  refine g_iload_n C tb_L_sky_0_ok (i := 4) rfl rfl ?_
  obtain ⟨k1, h⟩ := gK_e h
  refine g_callVC C tb_L_sky_0_ok (i := 5) R [.int a1, .int a2] rfl mw_X11_sky mv_X11_sky ml_L_41 k1 rfl rfl rfl rfl (w_X11_sky C.G y a0 a1 a2 M) h rfl rfl rfl ?_ ?_ (fun r2 M3 h => ?_)
  · intro M4 h
    refine ⟨13, hd_L_sky_1, g_hst C tb_L_sky_0_ok (i := 9) rfl rfl rfl rfl ?_⟩
    refine g_iconstv C tb_L_sky_0_ok (i := 10) 1 rfl k_iconstv_1 ?_
    cases h
    exact g_iretW C R rfl rfl tb_L_sky_0_ok (i := 11) rfl
  · intro M5 h
    refine ⟨17, hd_L_sky_2, g_hst C tb_L_sky_0_ok (i := 12) rfl rfl rfl rfl ?_⟩
    refine g_iconstv C tb_L_sky_0_ok (i := 13) 2 rfl k_iconstv_2 ?_
    cases h
    exact g_iretW C R rfl rfl tb_L_sky_0_ok (i := 14) rfl
  refine g_i2l C tb_L_sky_0_ok (i := 6) rfl ?_
  obtain ⟨b6, h⟩ := gA_e h
  refine g_last C tb_L_sky_0_ok (i := 7) rfl b6 ?_
  refine g_mem (fun M7 eM7 => ?_)
  have h := lt_e eM7 h
  refine g_goto C tb_L_sky_0_ok (i := 8) 21 rfl rfl ?_
  refine g_iconstv C tb_L_sky_0_ok (i := 15) 0 rfl k_iconstv_0 ?_
  cases h
  exact g_iretW C R rfl rfl tb_L_sky_0_ok (i := 16) rfl
def f_L_overdone (y : Lay) (a0 : Nat) (a1 : Int32) (a2 : Nat) (M : Mem) : Option (Int32 × Mem) := gK y a0 (0, 11) (ct (f_X11_overdone y a0 a1 M) (fun (_ : Mem) => none) (fun (M5 : Mem) => some ((1 : Int32), M5)) fun (r2 : Int32) (M3 : Mem) => gA y a2 3 (0 : Int32) (lt (wL M3 a2 (0 : Int32).toNatClampNeg (r2.toInt64)) fun (M7 : Mem) => some ((0 : Int32), M7)))
theorem w_L_overdone {g : GX} {l : Launch} (hG : GF g l) (y : Lay) (a0 : Nat) (a1 : Int32) (a2 : Nat) (M : Mem) : CW g l yL_overdone cL_overdone 4 [((0 : Nat), (9 : Nat), (12 : Nat), (13 : Nat))] 7 1 6 y [.ref a0, .int a1, .ref a2] M (f_L_overdone y a0 a1 a2 M) := by
  refine CW_of hG (by decide) [some (.ref a0), some (.int a1), some (.ref a2), none] rfl rfl (fun out h x Q C R => ?_)
  unfold f_L_overdone at h
  refine g_aload_n C tb_L_overdone_0_ok (i := 0) rfl rfl ?_
  refine g_iconstv C tb_L_overdone_0_ok (i := 1) 0 rfl k_iconstv_0 ?_
  refine g_aload_n C tb_L_overdone_0_ok (i := 2) rfl rfl ?_
  refine g_iload_n C tb_L_overdone_0_ok (i := 3) rfl rfl ?_
  obtain ⟨k1, h⟩ := gK_e h
  refine g_callVC C tb_L_overdone_0_ok (i := 4) R [.int a1] rfl mw_X11_overdone mv_X11_overdone ml_L_44 k1 rfl rfl rfl rfl (w_X11_overdone C.G y a0 a1 M) h rfl rfl rfl ?_ ?_ (fun r2 M3 h => ?_)
  · intro M4 h; exact (nn_e h).elim
  · intro M5 h
    refine ⟨12, hd_L_overdone_2, g_hst_n C tb_L_overdone_0_ok (i := 8) rfl rfl rfl rfl ?_⟩
    refine g_iconstv C tb_L_overdone_0_ok (i := 9) 1 rfl k_iconstv_1 ?_
    cases h
    exact g_iretW C R rfl rfl tb_L_overdone_0_ok (i := 10) rfl
  refine g_i2l C tb_L_overdone_0_ok (i := 5) rfl ?_
  obtain ⟨b6, h⟩ := gA_e h
  refine g_last C tb_L_overdone_0_ok (i := 6) rfl b6 ?_
  refine g_mem (fun M7 eM7 => ?_)
  have h := lt_e eM7 h
  refine g_goto C tb_L_overdone_0_ok (i := 7) 15 rfl rfl ?_
  refine g_iconstv C tb_L_overdone_0_ok (i := 11) 0 rfl k_iconstv_0 ?_
  cases h
  exact g_iretW C R rfl rfl tb_L_overdone_0_ok (i := 12) rfl
def f_L_first (y : Lay) (a0 : Nat) (a1 : Int32) (a2 : Nat) (M : Mem) : Option (Int32 × Mem) := gK y a0 (0, 11) (ct (f_X11_first y a0 a1 M) (fun (M4 : Mem) => some ((1 : Int32), M4)) (fun (_ : Mem) => none) fun (r2 : Int32) (M3 : Mem) => gA y a2 3 (0 : Int32) (lt (wL M3 a2 (0 : Int32).toNatClampNeg (r2.toInt64)) fun (M7 : Mem) => some ((0 : Int32), M7)))
theorem w_L_first {g : GX} {l : Launch} (hG : GF g l) (y : Lay) (a0 : Nat) (a1 : Int32) (a2 : Nat) (M : Mem) : CW g l yL_first cL_first 4 [((0 : Nat), (9 : Nat), (12 : Nat), (18 : Nat))] 7 1 6 y [.ref a0, .int a1, .ref a2] M (f_L_first y a0 a1 a2 M) := by
  refine CW_of hG (by decide) [some (.ref a0), some (.int a1), some (.ref a2), none] rfl rfl (fun out h x Q C R => ?_)
  unfold f_L_first at h
  refine g_aload_n C tb_L_first_0_ok (i := 0) rfl rfl ?_
  refine g_iconstv C tb_L_first_0_ok (i := 1) 0 rfl k_iconstv_0 ?_
  refine g_aload_n C tb_L_first_0_ok (i := 2) rfl rfl ?_
  refine g_iload_n C tb_L_first_0_ok (i := 3) rfl rfl ?_
  obtain ⟨k1, h⟩ := gK_e h
  refine g_callVC C tb_L_first_0_ok (i := 4) R [.int a1] rfl mw_X11_first mv_X11_first ml_L_47 k1 rfl rfl rfl rfl (w_X11_first C.G y a0 a1 M) h rfl rfl rfl ?_ ?_ (fun r2 M3 h => ?_)
  · intro M4 h
    refine ⟨12, hd_L_first_1, g_hst_n C tb_L_first_0_ok (i := 8) rfl rfl rfl rfl ?_⟩
    refine g_iconstv C tb_L_first_0_ok (i := 9) 1 rfl k_iconstv_1 ?_
    cases h
    exact g_iretW C R rfl rfl tb_L_first_0_ok (i := 10) rfl
  · intro M5 h; exact (nn_e h).elim
  refine g_i2l C tb_L_first_0_ok (i := 5) rfl ?_
  obtain ⟨b6, h⟩ := gA_e h
  refine g_last C tb_L_first_0_ok (i := 6) rfl b6 ?_
  refine g_mem (fun M7 eM7 => ?_)
  have h := lt_e eM7 h
  refine g_goto C tb_L_first_0_ok (i := 7) 15 rfl rfl ?_
  refine g_iconstv C tb_L_first_0_ok (i := 11) 0 rfl k_iconstv_0 ?_
  cases h
  exact g_iretW C R rfl rfl tb_L_first_0_ok (i := 12) rfl
def f_L_streak (y : Lay) (a0 : Nat) (a1 : Int32) (a2 : Nat) (M : Mem) : Option (Int32 × Mem) := gK y a0 (0, 11) (ct (f_X11_streak y a0 a1 M) (fun (M4 : Mem) => some ((1 : Int32), M4)) (fun (_ : Mem) => none) fun (r2 : Int32) (M3 : Mem) => gA y a2 3 (0 : Int32) (lt (wL M3 a2 (0 : Int32).toNatClampNeg (r2.toInt64)) fun (M7 : Mem) => some ((0 : Int32), M7)))
theorem w_L_streak {g : GX} {l : Launch} (hG : GF g l) (y : Lay) (a0 : Nat) (a1 : Int32) (a2 : Nat) (M : Mem) : CW g l yL_streak cL_streak 4 [((0 : Nat), (9 : Nat), (12 : Nat), (18 : Nat))] 3 1 6 y [.ref a0, .int a1, .ref a2] M (f_L_streak y a0 a1 a2 M) := by
  refine CW_of hG (by decide) [some (.ref a0), some (.int a1), some (.ref a2), none] rfl rfl (fun out h x Q C R => ?_)
  unfold f_L_streak at h
  refine g_aload_n C tb_L_streak_0_ok (i := 0) rfl rfl ?_
  refine g_iconstv C tb_L_streak_0_ok (i := 1) 0 rfl k_iconstv_0 ?_
  refine g_aload_n C tb_L_streak_0_ok (i := 2) rfl rfl ?_
  refine g_iload_n C tb_L_streak_0_ok (i := 3) rfl rfl ?_
  obtain ⟨k1, h⟩ := gK_e h
  refine g_callVC C tb_L_streak_0_ok (i := 4) R [.int a1] rfl mw_X11_streak mv_X11_streak ml_L_50 k1 rfl rfl rfl rfl (w_X11_streak C.G y a0 a1 M) h rfl rfl rfl ?_ ?_ (fun r2 M3 h => ?_)
  · intro M4 h
    refine ⟨12, hd_L_streak_1, g_hst_n C tb_L_streak_0_ok (i := 8) rfl rfl rfl rfl ?_⟩
    refine g_iconstv C tb_L_streak_0_ok (i := 9) 1 rfl k_iconstv_1 ?_
    cases h
    exact g_iretW C R rfl rfl tb_L_streak_0_ok (i := 10) rfl
  · intro M5 h; exact (nn_e h).elim
  refine g_i2l C tb_L_streak_0_ok (i := 5) rfl ?_
  obtain ⟨b6, h⟩ := gA_e h
  refine g_last C tb_L_streak_0_ok (i := 6) rfl b6 ?_
  refine g_mem (fun M7 eM7 => ?_)
  have h := lt_e eM7 h
  refine g_goto C tb_L_streak_0_ok (i := 7) 15 rfl rfl ?_
  refine g_iconstv C tb_L_streak_0_ok (i := 11) 0 rfl k_iconstv_0 ?_
  cases h
  exact g_iretW C R rfl rfl tb_L_streak_0_ok (i := 12) rfl
def f_L_patch (y : Lay) (a0 : Nat) (a1 : Int32) (a2 : Int32) (a3 : Nat) (M : Mem) : Option (Int32 × Mem) := gK y a0 (0, 11) (ct (f_X11_patch y a0 a1 a2 M) (fun (M4 : Mem) => some ((1 : Int32), M4)) (fun (M5 : Mem) => some ((2 : Int32), M5)) fun (r2 : Int32) (M3 : Mem) => gA y a3 3 (0 : Int32) (lt (wL M3 a3 (0 : Int32).toNatClampNeg (r2.toInt64)) fun (M7 : Mem) => some ((0 : Int32), M7)))
theorem w_L_patch {g : GX} {l : Launch} (hG : GF g l) (y : Lay) (a0 : Nat) (a1 : Int32) (a2 : Int32) (a3 : Nat) (M : Mem) : CW g l yL_patch cL_patch 5 [((0 : Nat), (10 : Nat), (13 : Nat), (18 : Nat)), ((0 : Nat), (10 : Nat), (17 : Nat), (13 : Nat))] 4 2 12 y [.ref a0, .int a1, .int a2, .ref a3] M (f_L_patch y a0 a1 a2 a3 M) := by
  refine CW_of hG (by decide) [some (.ref a0), some (.int a1), some (.int a2), some (.ref a3), none] rfl rfl (fun out h x Q C R => ?_)
  unfold f_L_patch at h
  refine g_aload_n C tb_L_patch_0_ok (i := 0) rfl rfl ?_
  refine g_iconstv C tb_L_patch_0_ok (i := 1) 0 rfl k_iconstv_0 ?_
  refine g_aload_n C tb_L_patch_0_ok (i := 2) rfl rfl ?_
  refine g_iload_n C tb_L_patch_0_ok (i := 3) rfl rfl ?_
  refine g_iload_n C tb_L_patch_0_ok (i := 4) rfl rfl ?_
  obtain ⟨k1, h⟩ := gK_e h
  refine g_callVC C tb_L_patch_0_ok (i := 5) R [.int a1, .int a2] rfl mw_X11_patch mv_X11_patch ml_L_53 k1 rfl rfl rfl rfl (w_X11_patch C.G y a0 a1 a2 M) h rfl rfl rfl ?_ ?_ (fun r2 M3 h => ?_)
  · intro M4 h
    refine ⟨13, hd_L_patch_1, g_hst C tb_L_patch_0_ok (i := 9) rfl rfl rfl rfl ?_⟩
    refine g_iconstv C tb_L_patch_0_ok (i := 10) 1 rfl k_iconstv_1 ?_
    cases h
    exact g_iretW C R rfl rfl tb_L_patch_0_ok (i := 11) rfl
  · intro M5 h
    refine ⟨17, hd_L_patch_2, g_hst C tb_L_patch_0_ok (i := 12) rfl rfl rfl rfl ?_⟩
    refine g_iconstv C tb_L_patch_0_ok (i := 13) 2 rfl k_iconstv_2 ?_
    cases h
    exact g_iretW C R rfl rfl tb_L_patch_0_ok (i := 14) rfl
  refine g_i2l C tb_L_patch_0_ok (i := 6) rfl ?_
  obtain ⟨b6, h⟩ := gA_e h
  refine g_last C tb_L_patch_0_ok (i := 7) rfl b6 ?_
  refine g_mem (fun M7 eM7 => ?_)
  have h := lt_e eM7 h
  refine g_goto C tb_L_patch_0_ok (i := 8) 21 rfl rfl ?_
  refine g_iconstv C tb_L_patch_0_ok (i := 15) 0 rfl k_iconstv_0 ?_
  cases h
  exact g_iretW C R rfl rfl tb_L_patch_0_ok (i := 16) rfl
def f_L_patches (y : Lay) (a0 : Nat) (a1 : Int32) (a2 : Nat) (M : Mem) : Option (Int32 × Mem) := gK y a0 (0, 11) (ct (f_X11_patches y a0 a1 M) (fun (_ : Mem) => none) (fun (M5 : Mem) => some ((1 : Int32), M5)) fun (r2 : Int32) (M3 : Mem) => gA y a2 3 (0 : Int32) (lt (wL M3 a2 (0 : Int32).toNatClampNeg (r2.toInt64)) fun (M7 : Mem) => some ((0 : Int32), M7)))
theorem w_L_patches {g : GX} {l : Launch} (hG : GF g l) (y : Lay) (a0 : Nat) (a1 : Int32) (a2 : Nat) (M : Mem) : CW g l yL_patches cL_patches 4 [((0 : Nat), (9 : Nat), (12 : Nat), (13 : Nat))] 4 1 6 y [.ref a0, .int a1, .ref a2] M (f_L_patches y a0 a1 a2 M) := by
  refine CW_of hG (by decide) [some (.ref a0), some (.int a1), some (.ref a2), none] rfl rfl (fun out h x Q C R => ?_)
  unfold f_L_patches at h
  refine g_aload_n C tb_L_patches_0_ok (i := 0) rfl rfl ?_
  refine g_iconstv C tb_L_patches_0_ok (i := 1) 0 rfl k_iconstv_0 ?_
  refine g_aload_n C tb_L_patches_0_ok (i := 2) rfl rfl ?_
  refine g_iload_n C tb_L_patches_0_ok (i := 3) rfl rfl ?_
  obtain ⟨k1, h⟩ := gK_e h
  refine g_callVC C tb_L_patches_0_ok (i := 4) R [.int a1] rfl mw_X11_patches mv_X11_patches ml_L_56 k1 rfl rfl rfl rfl (w_X11_patches C.G y a0 a1 M) h rfl rfl rfl ?_ ?_ (fun r2 M3 h => ?_)
  · intro M4 h; exact (nn_e h).elim
  · intro M5 h
    refine ⟨12, hd_L_patches_2, g_hst_n C tb_L_patches_0_ok (i := 8) rfl rfl rfl rfl ?_⟩
    refine g_iconstv C tb_L_patches_0_ok (i := 9) 1 rfl k_iconstv_1 ?_
    cases h
    exact g_iretW C R rfl rfl tb_L_patches_0_ok (i := 10) rfl
  refine g_i2l C tb_L_patches_0_ok (i := 5) rfl ?_
  obtain ⟨b6, h⟩ := gA_e h
  refine g_last C tb_L_patches_0_ok (i := 6) rfl b6 ?_
  refine g_mem (fun M7 eM7 => ?_)
  have h := lt_e eM7 h
  refine g_goto C tb_L_patches_0_ok (i := 7) 15 rfl rfl ?_
  refine g_iconstv C tb_L_patches_0_ok (i := 11) 0 rfl k_iconstv_0 ?_
  cases h
  exact g_iretW C R rfl rfl tb_L_patches_0_ok (i := 12) rfl
def f_L_way (y : Lay) (a0 : Nat) (a1 : Int32) (a2 : Int32) (a3 : Nat) (M : Mem) : Option (Int32 × Mem) := gK y a0 (0, 11) (ct (f_X11_way y a0 a1 a2 M) (fun (M4 : Mem) => some ((1 : Int32), M4)) (fun (_ : Mem) => none) fun (r2 : Int32) (M3 : Mem) => gA y a3 3 (0 : Int32) (lt (wL M3 a3 (0 : Int32).toNatClampNeg (r2.toInt64)) fun (M7 : Mem) => some ((0 : Int32), M7)))
theorem w_L_way {g : GX} {l : Launch} (hG : GF g l) (y : Lay) (a0 : Nat) (a1 : Int32) (a2 : Int32) (a3 : Nat) (M : Mem) : CW g l yL_way cL_way 5 [((0 : Nat), (10 : Nat), (13 : Nat), (18 : Nat))] 3 2 12 y [.ref a0, .int a1, .int a2, .ref a3] M (f_L_way y a0 a1 a2 a3 M) := by
  refine CW_of hG (by decide) [some (.ref a0), some (.int a1), some (.int a2), some (.ref a3), none] rfl rfl (fun out h x Q C R => ?_)
  unfold f_L_way at h
  refine g_aload_n C tb_L_way_0_ok (i := 0) rfl rfl ?_
  refine g_iconstv C tb_L_way_0_ok (i := 1) 0 rfl k_iconstv_0 ?_
  refine g_aload_n C tb_L_way_0_ok (i := 2) rfl rfl ?_
  refine g_iload_n C tb_L_way_0_ok (i := 3) rfl rfl ?_
  refine g_iload_n C tb_L_way_0_ok (i := 4) rfl rfl ?_
  obtain ⟨k1, h⟩ := gK_e h
  refine g_callVC C tb_L_way_0_ok (i := 5) R [.int a1, .int a2] rfl mw_X11_way mv_X11_way ml_L_59 k1 rfl rfl rfl rfl (w_X11_way C.G y a0 a1 a2 M) h rfl rfl rfl ?_ ?_ (fun r2 M3 h => ?_)
  · intro M4 h
    refine ⟨13, hd_L_way_1, g_hst C tb_L_way_0_ok (i := 9) rfl rfl rfl rfl ?_⟩
    refine g_iconstv C tb_L_way_0_ok (i := 10) 1 rfl k_iconstv_1 ?_
    cases h
    exact g_iretW C R rfl rfl tb_L_way_0_ok (i := 11) rfl
  · intro M5 h; exact (nn_e h).elim
  refine g_i2l C tb_L_way_0_ok (i := 6) rfl ?_
  obtain ⟨b6, h⟩ := gA_e h
  refine g_last C tb_L_way_0_ok (i := 7) rfl b6 ?_
  refine g_mem (fun M7 eM7 => ?_)
  have h := lt_e eM7 h
  refine g_goto C tb_L_way_0_ok (i := 8) 17 rfl rfl ?_
  refine g_iconstv C tb_L_way_0_ok (i := 12) 0 rfl k_iconstv_0 ?_
  cases h
  exact g_iretW C R rfl rfl tb_L_way_0_ok (i := 13) rfl
def f_L_toStand (y : Lay) (a0 : Nat) (a1 : Int32) (a2 : Int32) (a3 : Nat) (M : Mem) : Option (Int32 × Mem) := gK y a0 (0, 11) (ct (f_X11_toStand y a0 a1 a2 M) (fun (M4 : Mem) => some ((1 : Int32), M4)) (fun (_ : Mem) => none) fun (r2 : Int32) (M3 : Mem) => gA y a3 3 (0 : Int32) (lt (wL M3 a3 (0 : Int32).toNatClampNeg (r2.toInt64)) fun (M7 : Mem) => some ((0 : Int32), M7)))
theorem w_L_toStand {g : GX} {l : Launch} (hG : GF g l) (y : Lay) (a0 : Nat) (a1 : Int32) (a2 : Int32) (a3 : Nat) (M : Mem) : CW g l yL_toStand cL_toStand 5 [((0 : Nat), (10 : Nat), (13 : Nat), (18 : Nat))] 7 2 12 y [.ref a0, .int a1, .int a2, .ref a3] M (f_L_toStand y a0 a1 a2 a3 M) := by
  refine CW_of hG (by decide) [some (.ref a0), some (.int a1), some (.int a2), some (.ref a3), none] rfl rfl (fun out h x Q C R => ?_)
  unfold f_L_toStand at h
  refine g_aload_n C tb_L_toStand_0_ok (i := 0) rfl rfl ?_
  refine g_iconstv C tb_L_toStand_0_ok (i := 1) 0 rfl k_iconstv_0 ?_
  refine g_aload_n C tb_L_toStand_0_ok (i := 2) rfl rfl ?_
  refine g_iload_n C tb_L_toStand_0_ok (i := 3) rfl rfl ?_
  refine g_iload_n C tb_L_toStand_0_ok (i := 4) rfl rfl ?_
  obtain ⟨k1, h⟩ := gK_e h
  refine g_callVC C tb_L_toStand_0_ok (i := 5) R [.int a1, .int a2] rfl mw_X11_toStand mv_X11_toStand ml_L_62 k1 rfl rfl rfl rfl (w_X11_toStand C.G y a0 a1 a2 M) h rfl rfl rfl ?_ ?_ (fun r2 M3 h => ?_)
  · intro M4 h
    refine ⟨13, hd_L_toStand_1, g_hst C tb_L_toStand_0_ok (i := 9) rfl rfl rfl rfl ?_⟩
    refine g_iconstv C tb_L_toStand_0_ok (i := 10) 1 rfl k_iconstv_1 ?_
    cases h
    exact g_iretW C R rfl rfl tb_L_toStand_0_ok (i := 11) rfl
  · intro M5 h; exact (nn_e h).elim
  refine g_i2l C tb_L_toStand_0_ok (i := 6) rfl ?_
  obtain ⟨b6, h⟩ := gA_e h
  refine g_last C tb_L_toStand_0_ok (i := 7) rfl b6 ?_
  refine g_mem (fun M7 eM7 => ?_)
  have h := lt_e eM7 h
  refine g_goto C tb_L_toStand_0_ok (i := 8) 17 rfl rfl ?_
  refine g_iconstv C tb_L_toStand_0_ok (i := 12) 0 rfl k_iconstv_0 ?_
  cases h
  exact g_iretW C R rfl rfl tb_L_toStand_0_ok (i := 13) rfl
def f_L_toSwish (y : Lay) (a0 : Nat) (a1 : Int32) (a2 : Int32) (a3 : Nat) (M : Mem) : Option (Int32 × Mem) := gK y a0 (0, 11) (ct (f_X11_toSwish y a0 a1 a2 M) (fun (M4 : Mem) => some ((1 : Int32), M4)) (fun (M5 : Mem) => some ((2 : Int32), M5)) fun (r2 : Int32) (M3 : Mem) => gA y a3 3 (0 : Int32) (lt (wL M3 a3 (0 : Int32).toNatClampNeg (r2.toInt64)) fun (M7 : Mem) => some ((0 : Int32), M7)))
theorem w_L_toSwish {g : GX} {l : Launch} (hG : GF g l) (y : Lay) (a0 : Nat) (a1 : Int32) (a2 : Int32) (a3 : Nat) (M : Mem) : CW g l yL_toSwish cL_toSwish 5 [((0 : Nat), (10 : Nat), (13 : Nat), (18 : Nat)), ((0 : Nat), (10 : Nat), (17 : Nat), (13 : Nat))] 7 2 12 y [.ref a0, .int a1, .int a2, .ref a3] M (f_L_toSwish y a0 a1 a2 a3 M) := by
  refine CW_of hG (by decide) [some (.ref a0), some (.int a1), some (.int a2), some (.ref a3), none] rfl rfl (fun out h x Q C R => ?_)
  unfold f_L_toSwish at h
  refine g_aload_n C tb_L_toSwish_0_ok (i := 0) rfl rfl ?_
  refine g_iconstv C tb_L_toSwish_0_ok (i := 1) 0 rfl k_iconstv_0 ?_
  refine g_aload_n C tb_L_toSwish_0_ok (i := 2) rfl rfl ?_
  refine g_iload_n C tb_L_toSwish_0_ok (i := 3) rfl rfl ?_
  refine g_iload_n C tb_L_toSwish_0_ok (i := 4) rfl rfl ?_
  obtain ⟨k1, h⟩ := gK_e h
  refine g_callVC C tb_L_toSwish_0_ok (i := 5) R [.int a1, .int a2] rfl mw_X11_toSwish mv_X11_toSwish ml_L_65 k1 rfl rfl rfl rfl (w_X11_toSwish C.G y a0 a1 a2 M) h rfl rfl rfl ?_ ?_ (fun r2 M3 h => ?_)
  · intro M4 h
    refine ⟨13, hd_L_toSwish_1, g_hst C tb_L_toSwish_0_ok (i := 9) rfl rfl rfl rfl ?_⟩
    refine g_iconstv C tb_L_toSwish_0_ok (i := 10) 1 rfl k_iconstv_1 ?_
    cases h
    exact g_iretW C R rfl rfl tb_L_toSwish_0_ok (i := 11) rfl
  · intro M5 h
    refine ⟨17, hd_L_toSwish_2, g_hst C tb_L_toSwish_0_ok (i := 12) rfl rfl rfl rfl ?_⟩
    refine g_iconstv C tb_L_toSwish_0_ok (i := 13) 2 rfl k_iconstv_2 ?_
    cases h
    exact g_iretW C R rfl rfl tb_L_toSwish_0_ok (i := 14) rfl
  refine g_i2l C tb_L_toSwish_0_ok (i := 6) rfl ?_
  obtain ⟨b6, h⟩ := gA_e h
  refine g_last C tb_L_toSwish_0_ok (i := 7) rfl b6 ?_
  refine g_mem (fun M7 eM7 => ?_)
  have h := lt_e eM7 h
  refine g_goto C tb_L_toSwish_0_ok (i := 8) 21 rfl rfl ?_
  refine g_iconstv C tb_L_toSwish_0_ok (i := 15) 0 rfl k_iconstv_0 ?_
  cases h
  exact g_iretW C R rfl rfl tb_L_toSwish_0_ok (i := 16) rfl
def f_L_sent (y : Lay) (a0 : Nat) (a1 : Int32) (a2 : Int32) (a3 : Nat) (M : Mem) : Option (Int32 × Mem) := gK y a0 (0, 11) (ct (f_X11_sent y a0 a1 a2 M) (fun (M4 : Mem) => some ((1 : Int32), M4)) (fun (M5 : Mem) => some ((2 : Int32), M5)) fun (r2 : Int32) (M3 : Mem) => gA y a3 3 (0 : Int32) (lt (wL M3 a3 (0 : Int32).toNatClampNeg (r2.toInt64)) fun (M7 : Mem) => some ((0 : Int32), M7)))
theorem w_L_sent {g : GX} {l : Launch} (hG : GF g l) (y : Lay) (a0 : Nat) (a1 : Int32) (a2 : Int32) (a3 : Nat) (M : Mem) : CW g l yL_sent cL_sent 5 [((0 : Nat), (10 : Nat), (13 : Nat), (18 : Nat)), ((0 : Nat), (10 : Nat), (17 : Nat), (13 : Nat))] 17 2 12 y [.ref a0, .int a1, .int a2, .ref a3] M (f_L_sent y a0 a1 a2 a3 M) := by
  refine CW_of hG (by decide) [some (.ref a0), some (.int a1), some (.int a2), some (.ref a3), none] rfl rfl (fun out h x Q C R => ?_)
  unfold f_L_sent at h
  refine g_aload_n C tb_L_sent_0_ok (i := 0) rfl rfl ?_
  refine g_iconstv C tb_L_sent_0_ok (i := 1) 0 rfl k_iconstv_0 ?_
  refine g_aload_n C tb_L_sent_0_ok (i := 2) rfl rfl ?_
  refine g_iload_n C tb_L_sent_0_ok (i := 3) rfl rfl ?_
  refine g_iload_n C tb_L_sent_0_ok (i := 4) rfl rfl ?_
  obtain ⟨k1, h⟩ := gK_e h
  refine g_callVC C tb_L_sent_0_ok (i := 5) R [.int a1, .int a2] rfl mw_X11_sent mv_X11_sent ml_L_68 k1 rfl rfl rfl rfl (w_X11_sent C.G y a0 a1 a2 M) h rfl rfl rfl ?_ ?_ (fun r2 M3 h => ?_)
  · intro M4 h
    refine ⟨13, hd_L_sent_1, g_hst C tb_L_sent_0_ok (i := 9) rfl rfl rfl rfl ?_⟩
    refine g_iconstv C tb_L_sent_0_ok (i := 10) 1 rfl k_iconstv_1 ?_
    cases h
    exact g_iretW C R rfl rfl tb_L_sent_0_ok (i := 11) rfl
  · intro M5 h
    refine ⟨17, hd_L_sent_2, g_hst C tb_L_sent_0_ok (i := 12) rfl rfl rfl rfl ?_⟩
    refine g_iconstv C tb_L_sent_0_ok (i := 13) 2 rfl k_iconstv_2 ?_
    cases h
    exact g_iretW C R rfl rfl tb_L_sent_0_ok (i := 14) rfl
  refine g_i2l C tb_L_sent_0_ok (i := 6) rfl ?_
  obtain ⟨b6, h⟩ := gA_e h
  refine g_last C tb_L_sent_0_ok (i := 7) rfl b6 ?_
  refine g_mem (fun M7 eM7 => ?_)
  have h := lt_e eM7 h
  refine g_goto C tb_L_sent_0_ok (i := 8) 21 rfl rfl ?_
  refine g_iconstv C tb_L_sent_0_ok (i := 15) 0 rfl k_iconstv_0 ?_
  cases h
  exact g_iretW C R rfl rfl tb_L_sent_0_ok (i := 16) rfl
def f_L_band (y : Lay) (a0 : Nat) (a1 : Int32) (a2 : Nat) (M : Mem) : Option (Int32 × Mem) := gK y a0 (0, 11) (ct (f_X11_band y a0 a1 M) (fun (_ : Mem) => none) (fun (M5 : Mem) => some ((1 : Int32), M5)) fun (r2 : Int32) (M3 : Mem) => gA y a2 3 (0 : Int32) (lt (wL M3 a2 (0 : Int32).toNatClampNeg (r2.toInt64)) fun (M7 : Mem) => some ((0 : Int32), M7)))
theorem w_L_band {g : GX} {l : Launch} (hG : GF g l) (y : Lay) (a0 : Nat) (a1 : Int32) (a2 : Nat) (M : Mem) : CW g l yL_band cL_band 4 [((0 : Nat), (9 : Nat), (12 : Nat), (13 : Nat))] 7 1 6 y [.ref a0, .int a1, .ref a2] M (f_L_band y a0 a1 a2 M) := by
  refine CW_of hG (by decide) [some (.ref a0), some (.int a1), some (.ref a2), none] rfl rfl (fun out h x Q C R => ?_)
  unfold f_L_band at h
  refine g_aload_n C tb_L_band_0_ok (i := 0) rfl rfl ?_
  refine g_iconstv C tb_L_band_0_ok (i := 1) 0 rfl k_iconstv_0 ?_
  refine g_aload_n C tb_L_band_0_ok (i := 2) rfl rfl ?_
  refine g_iload_n C tb_L_band_0_ok (i := 3) rfl rfl ?_
  obtain ⟨k1, h⟩ := gK_e h
  refine g_callVC C tb_L_band_0_ok (i := 4) R [.int a1] rfl mw_X11_band mv_X11_band ml_L_71 k1 rfl rfl rfl rfl (w_X11_band C.G y a0 a1 M) h rfl rfl rfl ?_ ?_ (fun r2 M3 h => ?_)
  · intro M4 h; exact (nn_e h).elim
  · intro M5 h
    refine ⟨12, hd_L_band_2, g_hst_n C tb_L_band_0_ok (i := 8) rfl rfl rfl rfl ?_⟩
    refine g_iconstv C tb_L_band_0_ok (i := 9) 1 rfl k_iconstv_1 ?_
    cases h
    exact g_iretW C R rfl rfl tb_L_band_0_ok (i := 10) rfl
  refine g_i2l C tb_L_band_0_ok (i := 5) rfl ?_
  obtain ⟨b6, h⟩ := gA_e h
  refine g_last C tb_L_band_0_ok (i := 6) rfl b6 ?_
  refine g_mem (fun M7 eM7 => ?_)
  have h := lt_e eM7 h
  refine g_goto C tb_L_band_0_ok (i := 7) 15 rfl rfl ?_
  refine g_iconstv C tb_L_band_0_ok (i := 11) 0 rfl k_iconstv_0 ?_
  cases h
  exact g_iretW C R rfl rfl tb_L_band_0_ok (i := 12) rfl
def f_L_steps (y : Lay) (a0 : Nat) (a1 : Int32) (a2 : Int32) (a3 : Nat) (M : Mem) : Option (Int32 × Mem) := gK y a0 (0, 11) (ct (f_X11_steps y a0 a1 a2 M) (fun (M4 : Mem) => some ((1 : Int32), M4)) (fun (_ : Mem) => none) fun (r2 : Int32) (M3 : Mem) => gA y a3 3 (0 : Int32) (lt (wL M3 a3 (0 : Int32).toNatClampNeg (r2.toInt64)) fun (M7 : Mem) => some ((0 : Int32), M7)))
theorem w_L_steps {g : GX} {l : Launch} (hG : GF g l) (y : Lay) (a0 : Nat) (a1 : Int32) (a2 : Int32) (a3 : Nat) (M : Mem) : CW g l yL_steps cL_steps 5 [((0 : Nat), (10 : Nat), (13 : Nat), (18 : Nat))] 3 2 12 y [.ref a0, .int a1, .int a2, .ref a3] M (f_L_steps y a0 a1 a2 a3 M) := by
  refine CW_of hG (by decide) [some (.ref a0), some (.int a1), some (.int a2), some (.ref a3), none] rfl rfl (fun out h x Q C R => ?_)
  unfold f_L_steps at h
  refine g_aload_n C tb_L_steps_0_ok (i := 0) rfl rfl ?_
  refine g_iconstv C tb_L_steps_0_ok (i := 1) 0 rfl k_iconstv_0 ?_
  refine g_aload_n C tb_L_steps_0_ok (i := 2) rfl rfl ?_
  refine g_iload_n C tb_L_steps_0_ok (i := 3) rfl rfl ?_
  refine g_iload_n C tb_L_steps_0_ok (i := 4) rfl rfl ?_
  obtain ⟨k1, h⟩ := gK_e h
  refine g_callVC C tb_L_steps_0_ok (i := 5) R [.int a1, .int a2] rfl mw_X11_steps mv_X11_steps ml_L_74 k1 rfl rfl rfl rfl (w_X11_steps C.G y a0 a1 a2 M) h rfl rfl rfl ?_ ?_ (fun r2 M3 h => ?_)
  · intro M4 h
    refine ⟨13, hd_L_steps_1, g_hst C tb_L_steps_0_ok (i := 9) rfl rfl rfl rfl ?_⟩
    refine g_iconstv C tb_L_steps_0_ok (i := 10) 1 rfl k_iconstv_1 ?_
    cases h
    exact g_iretW C R rfl rfl tb_L_steps_0_ok (i := 11) rfl
  · intro M5 h; exact (nn_e h).elim
  refine g_i2l C tb_L_steps_0_ok (i := 6) rfl ?_
  obtain ⟨b6, h⟩ := gA_e h
  refine g_last C tb_L_steps_0_ok (i := 7) rfl b6 ?_
  refine g_mem (fun M7 eM7 => ?_)
  have h := lt_e eM7 h
  refine g_goto C tb_L_steps_0_ok (i := 8) 17 rfl rfl ?_
  refine g_iconstv C tb_L_steps_0_ok (i := 12) 0 rfl k_iconstv_0 ?_
  cases h
  exact g_iretW C R rfl rfl tb_L_steps_0_ok (i := 13) rfl
def f_L_nearest (y : Lay) (a0 : Nat) (a1 : Int32) (a2 : Nat) (M : Mem) : Option (Int32 × Mem) := gK y a0 (0, 11) (ct (f_X11_nearest y a0 a1 M) (fun (M4 : Mem) => some ((1 : Int32), M4)) (fun (_ : Mem) => none) fun (r2 : Int32) (M3 : Mem) => gA y a2 3 (0 : Int32) (lt (wL M3 a2 (0 : Int32).toNatClampNeg (r2.toInt64)) fun (M7 : Mem) => some ((0 : Int32), M7)))
theorem w_L_nearest {g : GX} {l : Launch} (hG : GF g l) (y : Lay) (a0 : Nat) (a1 : Int32) (a2 : Nat) (M : Mem) : CW g l yL_nearest cL_nearest 4 [((0 : Nat), (9 : Nat), (12 : Nat), (18 : Nat))] 3 1 6 y [.ref a0, .int a1, .ref a2] M (f_L_nearest y a0 a1 a2 M) := by
  refine CW_of hG (by decide) [some (.ref a0), some (.int a1), some (.ref a2), none] rfl rfl (fun out h x Q C R => ?_)
  unfold f_L_nearest at h
  refine g_aload_n C tb_L_nearest_0_ok (i := 0) rfl rfl ?_
  refine g_iconstv C tb_L_nearest_0_ok (i := 1) 0 rfl k_iconstv_0 ?_
  refine g_aload_n C tb_L_nearest_0_ok (i := 2) rfl rfl ?_
  refine g_iload_n C tb_L_nearest_0_ok (i := 3) rfl rfl ?_
  obtain ⟨k1, h⟩ := gK_e h
  refine g_callVC C tb_L_nearest_0_ok (i := 4) R [.int a1] rfl mw_X11_nearest mv_X11_nearest ml_L_77 k1 rfl rfl rfl rfl (w_X11_nearest C.G y a0 a1 M) h rfl rfl rfl ?_ ?_ (fun r2 M3 h => ?_)
  · intro M4 h
    refine ⟨12, hd_L_nearest_1, g_hst_n C tb_L_nearest_0_ok (i := 8) rfl rfl rfl rfl ?_⟩
    refine g_iconstv C tb_L_nearest_0_ok (i := 9) 1 rfl k_iconstv_1 ?_
    cases h
    exact g_iretW C R rfl rfl tb_L_nearest_0_ok (i := 10) rfl
  · intro M5 h; exact (nn_e h).elim
  refine g_i2l C tb_L_nearest_0_ok (i := 5) rfl ?_
  obtain ⟨b6, h⟩ := gA_e h
  refine g_last C tb_L_nearest_0_ok (i := 6) rfl b6 ?_
  refine g_mem (fun M7 eM7 => ?_)
  have h := lt_e eM7 h
  refine g_goto C tb_L_nearest_0_ok (i := 7) 15 rfl rfl ?_
  refine g_iconstv C tb_L_nearest_0_ok (i := 11) 0 rfl k_iconstv_0 ?_
  cases h
  exact g_iretW C R rfl rfl tb_L_nearest_0_ok (i := 12) rfl
def f_L_missed (y : Lay) (a0 : Nat) (a1 : Int32) (a2 : Nat) (M : Mem) : Option (Int32 × Mem) := gK y a0 (0, 11) (ct (f_X11_missed y a0 a1 M) (fun (M4 : Mem) => some ((1 : Int32), M4)) (fun (_ : Mem) => none) fun (r2 : Int32) (M3 : Mem) => gA y a2 3 (0 : Int32) (lt (wL M3 a2 (0 : Int32).toNatClampNeg (r2.toInt64)) fun (M7 : Mem) => some ((0 : Int32), M7)))
theorem w_L_missed {g : GX} {l : Launch} (hG : GF g l) (y : Lay) (a0 : Nat) (a1 : Int32) (a2 : Nat) (M : Mem) : CW g l yL_missed cL_missed 4 [((0 : Nat), (9 : Nat), (12 : Nat), (18 : Nat))] 7 1 6 y [.ref a0, .int a1, .ref a2] M (f_L_missed y a0 a1 a2 M) := by
  refine CW_of hG (by decide) [some (.ref a0), some (.int a1), some (.ref a2), none] rfl rfl (fun out h x Q C R => ?_)
  unfold f_L_missed at h
  refine g_aload_n C tb_L_missed_0_ok (i := 0) rfl rfl ?_
  refine g_iconstv C tb_L_missed_0_ok (i := 1) 0 rfl k_iconstv_0 ?_
  refine g_aload_n C tb_L_missed_0_ok (i := 2) rfl rfl ?_
  refine g_iload_n C tb_L_missed_0_ok (i := 3) rfl rfl ?_
  obtain ⟨k1, h⟩ := gK_e h
  refine g_callVC C tb_L_missed_0_ok (i := 4) R [.int a1] rfl mw_X11_missed mv_X11_missed ml_L_80 k1 rfl rfl rfl rfl (w_X11_missed C.G y a0 a1 M) h rfl rfl rfl ?_ ?_ (fun r2 M3 h => ?_)
  · intro M4 h
    refine ⟨12, hd_L_missed_1, g_hst_n C tb_L_missed_0_ok (i := 8) rfl rfl rfl rfl ?_⟩
    refine g_iconstv C tb_L_missed_0_ok (i := 9) 1 rfl k_iconstv_1 ?_
    cases h
    exact g_iretW C R rfl rfl tb_L_missed_0_ok (i := 10) rfl
  · intro M5 h; exact (nn_e h).elim
  refine g_i2l C tb_L_missed_0_ok (i := 5) rfl ?_
  obtain ⟨b6, h⟩ := gA_e h
  refine g_last C tb_L_missed_0_ok (i := 6) rfl b6 ?_
  refine g_mem (fun M7 eM7 => ?_)
  have h := lt_e eM7 h
  refine g_goto C tb_L_missed_0_ok (i := 7) 15 rfl rfl ?_
  refine g_iconstv C tb_L_missed_0_ok (i := 11) 0 rfl k_iconstv_0 ?_
  cases h
  exact g_iretW C R rfl rfl tb_L_missed_0_ok (i := 12) rfl
def f_L_see (y : Lay) (a0 : Nat) (a1 : Int32) (a2 : Int32) (a3 : Int32) (a4 : Nat) (M : Mem) : Option (Int32 × Mem) := gK y a0 (0, 11) (ct (f_X11_see y a0 a1 a2 a3 M) (fun (M4 : Mem) => some ((1 : Int32), M4)) (fun (_ : Mem) => none) fun (r2 : Int32) (M3 : Mem) => gA y a4 3 (0 : Int32) (lt (wL M3 a4 (0 : Int32).toNatClampNeg (r2.toInt64)) fun (M7 : Mem) => some ((0 : Int32), M7)))
theorem w_L_see {g : GX} {l : Launch} (hG : GF g l) (y : Lay) (a0 : Nat) (a1 : Int32) (a2 : Int32) (a3 : Int32) (a4 : Nat) (M : Mem) : CW g l yL_see cL_see 6 [((0 : Nat), (12 : Nat), (15 : Nat), (18 : Nat))] 3 1 6 y [.ref a0, .int a1, .int a2, .int a3, .ref a4] M (f_L_see y a0 a1 a2 a3 a4 M) := by
  refine CW_of hG (by decide) [some (.ref a0), some (.int a1), some (.int a2), some (.int a3), some (.ref a4), none] rfl rfl (fun out h x Q C R => ?_)
  unfold f_L_see at h
  refine g_aload C tb_L_see_0_ok (i := 0) rfl rfl ?_
  refine g_iconstv C tb_L_see_0_ok (i := 1) 0 rfl k_iconstv_0 ?_
  refine g_aload_n C tb_L_see_0_ok (i := 2) rfl rfl ?_
  refine g_iload_n C tb_L_see_0_ok (i := 3) rfl rfl ?_
  refine g_iload_n C tb_L_see_0_ok (i := 4) rfl rfl ?_
  refine g_iload_n C tb_L_see_0_ok (i := 5) rfl rfl ?_
  obtain ⟨k1, h⟩ := gK_e h
  refine g_callVC C tb_L_see_0_ok (i := 6) R [.int a1, .int a2, .int a3] rfl mw_X11_see mv_X11_see ml_L_83 k1 rfl rfl rfl rfl (w_X11_see C.G y a0 a1 a2 a3 M) h rfl rfl rfl ?_ ?_ (fun r2 M3 h => ?_)
  · intro M4 h
    refine ⟨15, hd_L_see_1, g_hst C tb_L_see_0_ok (i := 10) rfl rfl rfl rfl ?_⟩
    refine g_iconstv C tb_L_see_0_ok (i := 11) 1 rfl k_iconstv_1 ?_
    cases h
    exact g_iretW C R rfl rfl tb_L_see_0_ok (i := 12) rfl
  · intro M5 h; exact (nn_e h).elim
  refine g_i2l C tb_L_see_0_ok (i := 7) rfl ?_
  obtain ⟨b6, h⟩ := gA_e h
  refine g_last C tb_L_see_0_ok (i := 8) rfl b6 ?_
  refine g_mem (fun M7 eM7 => ?_)
  have h := lt_e eM7 h
  refine g_goto C tb_L_see_0_ok (i := 9) 19 rfl rfl ?_
  refine g_iconstv C tb_L_see_0_ok (i := 13) 0 rfl k_iconstv_0 ?_
  cases h
  exact g_iretW C R rfl rfl tb_L_see_0_ok (i := 14) rfl
def f_L_skilled (y : Lay) (a0 : Nat) (a1 : Int32) (a2 : Nat) (M : Mem) : Option (Int32 × Mem) := gK y a0 (0, 11) (ct (f_X11_skilled y a0 a1 M) (fun (M4 : Mem) => some ((1 : Int32), M4)) (fun (_ : Mem) => none) fun (r2 : Int32) (M3 : Mem) => gA y a2 3 (0 : Int32) (lt (wL M3 a2 (0 : Int32).toNatClampNeg (r2.toInt64)) fun (M7 : Mem) => some ((0 : Int32), M7)))
theorem w_L_skilled {g : GX} {l : Launch} (hG : GF g l) (y : Lay) (a0 : Nat) (a1 : Int32) (a2 : Nat) (M : Mem) : CW g l yL_skilled cL_skilled 4 [((0 : Nat), (9 : Nat), (12 : Nat), (18 : Nat))] 7 1 6 y [.ref a0, .int a1, .ref a2] M (f_L_skilled y a0 a1 a2 M) := by
  refine CW_of hG (by decide) [some (.ref a0), some (.int a1), some (.ref a2), none] rfl rfl (fun out h x Q C R => ?_)
  unfold f_L_skilled at h
  refine g_aload_n C tb_L_skilled_0_ok (i := 0) rfl rfl ?_
  refine g_iconstv C tb_L_skilled_0_ok (i := 1) 0 rfl k_iconstv_0 ?_
  refine g_aload_n C tb_L_skilled_0_ok (i := 2) rfl rfl ?_
  refine g_iload_n C tb_L_skilled_0_ok (i := 3) rfl rfl ?_
  obtain ⟨k1, h⟩ := gK_e h
  refine g_callVC C tb_L_skilled_0_ok (i := 4) R [.int a1] rfl mw_X11_skilled mv_X11_skilled ml_L_87 k1 rfl rfl rfl rfl (w_X11_skilled C.G y a0 a1 M) h rfl rfl rfl ?_ ?_ (fun r2 M3 h => ?_)
  · intro M4 h
    refine ⟨12, hd_L_skilled_1, g_hst_n C tb_L_skilled_0_ok (i := 8) rfl rfl rfl rfl ?_⟩
    refine g_iconstv C tb_L_skilled_0_ok (i := 9) 1 rfl k_iconstv_1 ?_
    cases h
    exact g_iretW C R rfl rfl tb_L_skilled_0_ok (i := 10) rfl
  · intro M5 h; exact (nn_e h).elim
  refine g_i2l C tb_L_skilled_0_ok (i := 5) rfl ?_
  obtain ⟨b6, h⟩ := gA_e h
  refine g_last C tb_L_skilled_0_ok (i := 6) rfl b6 ?_
  refine g_mem (fun M7 eM7 => ?_)
  have h := lt_e eM7 h
  refine g_goto C tb_L_skilled_0_ok (i := 7) 15 rfl rfl ?_
  refine g_iconstv C tb_L_skilled_0_ok (i := 11) 0 rfl k_iconstv_0 ?_
  cases h
  exact g_iretW C R rfl rfl tb_L_skilled_0_ok (i := 12) rfl
def f_L_look (y : Lay) (a0 : Nat) (a1 : Int32) (a2 : Nat) (M : Mem) : Option (Int32 × Mem) := gK y a0 (0, 11) (ct (f_X11_look y a0 a1 M) (fun (M4 : Mem) => some ((1 : Int32), M4)) (fun (_ : Mem) => none) fun (r2 : Int32) (M3 : Mem) => gA y a2 3 (0 : Int32) (lt (wL M3 a2 (0 : Int32).toNatClampNeg (r2.toInt64)) fun (M7 : Mem) => some ((0 : Int32), M7)))
theorem w_L_look {g : GX} {l : Launch} (hG : GF g l) (y : Lay) (a0 : Nat) (a1 : Int32) (a2 : Nat) (M : Mem) : CW g l yL_look cL_look 4 [((0 : Nat), (9 : Nat), (12 : Nat), (18 : Nat))] 7 1 6 y [.ref a0, .int a1, .ref a2] M (f_L_look y a0 a1 a2 M) := by
  refine CW_of hG (by decide) [some (.ref a0), some (.int a1), some (.ref a2), none] rfl rfl (fun out h x Q C R => ?_)
  unfold f_L_look at h
  refine g_aload_n C tb_L_look_0_ok (i := 0) rfl rfl ?_
  refine g_iconstv C tb_L_look_0_ok (i := 1) 0 rfl k_iconstv_0 ?_
  refine g_aload_n C tb_L_look_0_ok (i := 2) rfl rfl ?_
  refine g_iload_n C tb_L_look_0_ok (i := 3) rfl rfl ?_
  obtain ⟨k1, h⟩ := gK_e h
  refine g_callVC C tb_L_look_0_ok (i := 4) R [.int a1] rfl mw_X11_look mv_X11_look ml_L_90 k1 rfl rfl rfl rfl (w_X11_look C.G y a0 a1 M) h rfl rfl rfl ?_ ?_ (fun r2 M3 h => ?_)
  · intro M4 h
    refine ⟨12, hd_L_look_1, g_hst_n C tb_L_look_0_ok (i := 8) rfl rfl rfl rfl ?_⟩
    refine g_iconstv C tb_L_look_0_ok (i := 9) 1 rfl k_iconstv_1 ?_
    cases h
    exact g_iretW C R rfl rfl tb_L_look_0_ok (i := 10) rfl
  · intro M5 h; exact (nn_e h).elim
  refine g_i2l C tb_L_look_0_ok (i := 5) rfl ?_
  obtain ⟨b6, h⟩ := gA_e h
  refine g_last C tb_L_look_0_ok (i := 6) rfl b6 ?_
  refine g_mem (fun M7 eM7 => ?_)
  have h := lt_e eM7 h
  refine g_goto C tb_L_look_0_ok (i := 7) 15 rfl rfl ?_
  refine g_iconstv C tb_L_look_0_ok (i := 11) 0 rfl k_iconstv_0 ?_
  cases h
  exact g_iretW C R rfl rfl tb_L_look_0_ok (i := 12) rfl
def f_L_game (y : Lay) (a0 : Nat) (a1 : Int32) (a2 : Int32) (a3 : Int32) (a4 : Nat) (M : Mem) : Option (Int32 × Mem) := gK y a0 (0, 11) (ct (f_X11_game y a0 a1 a2 a3 M) (fun (M4 : Mem) => some ((1 : Int32), M4)) (fun (M5 : Mem) => some ((2 : Int32), M5)) fun (r2 : Int32) (M3 : Mem) => gA y a4 3 (0 : Int32) (lt (wL M3 a4 (0 : Int32).toNatClampNeg (r2.toInt64)) fun (M7 : Mem) => some ((0 : Int32), M7)))
theorem w_L_game {g : GX} {l : Launch} (hG : GF g l) (y : Lay) (a0 : Nat) (a1 : Int32) (a2 : Int32) (a3 : Int32) (a4 : Nat) (M : Mem) : CW g l yL_game cL_game 6 [((0 : Nat), (12 : Nat), (15 : Nat), (18 : Nat)), ((0 : Nat), (12 : Nat), (19 : Nat), (13 : Nat))] 7 4 24 y [.ref a0, .int a1, .int a2, .int a3, .ref a4] M (f_L_game y a0 a1 a2 a3 a4 M) := by
  refine CW_of hG (by decide) [some (.ref a0), some (.int a1), some (.int a2), some (.int a3), some (.ref a4), none] rfl rfl (fun out h x Q C R => ?_)
  unfold f_L_game at h
  refine g_aload C tb_L_game_0_ok (i := 0) rfl rfl ?_
  refine g_iconstv C tb_L_game_0_ok (i := 1) 0 rfl k_iconstv_0 ?_
  refine g_aload_n C tb_L_game_0_ok (i := 2) rfl rfl ?_
  refine g_iload_n C tb_L_game_0_ok (i := 3) rfl rfl ?_
  refine g_iload_n C tb_L_game_0_ok (i := 4) rfl rfl ?_
  refine g_iload_n C tb_L_game_0_ok (i := 5) rfl rfl ?_
  obtain ⟨k1, h⟩ := gK_e h
  refine g_callVC C tb_L_game_0_ok (i := 6) R [.int a1, .int a2, .int a3] rfl mw_X11_game mv_X11_game ml_L_93 k1 rfl rfl rfl rfl (w_X11_game C.G y a0 a1 a2 a3 M) h rfl rfl rfl ?_ ?_ (fun r2 M3 h => ?_)
  · intro M4 h
    refine ⟨15, hd_L_game_1, g_hst C tb_L_game_0_ok (i := 10) rfl rfl rfl rfl ?_⟩
    refine g_iconstv C tb_L_game_0_ok (i := 11) 1 rfl k_iconstv_1 ?_
    cases h
    exact g_iretW C R rfl rfl tb_L_game_0_ok (i := 12) rfl
  · intro M5 h
    refine ⟨19, hd_L_game_2, g_hst C tb_L_game_0_ok (i := 13) rfl rfl rfl rfl ?_⟩
    refine g_iconstv C tb_L_game_0_ok (i := 14) 2 rfl k_iconstv_2 ?_
    cases h
    exact g_iretW C R rfl rfl tb_L_game_0_ok (i := 15) rfl
  refine g_i2l C tb_L_game_0_ok (i := 7) rfl ?_
  obtain ⟨b6, h⟩ := gA_e h
  refine g_last C tb_L_game_0_ok (i := 8) rfl b6 ?_
  refine g_mem (fun M7 eM7 => ?_)
  have h := lt_e eM7 h
  refine g_goto C tb_L_game_0_ok (i := 9) 23 rfl rfl ?_
  refine g_iconstv C tb_L_game_0_ok (i := 16) 0 rfl k_iconstv_0 ?_
  cases h
  exact g_iretW C R rfl rfl tb_L_game_0_ok (i := 17) rfl
def f_L_skies (y : Lay) (a0 : Nat) (a1 : Int32) (a2 : Int32) (a3 : Int32) (a4 : Nat) (M : Mem) : Option (Int32 × Mem) := gK y a0 (0, 11) (ct (f_X11_skies y a0 a1 a2 a3 M) (fun (M4 : Mem) => some ((1 : Int32), M4)) (fun (M5 : Mem) => some ((2 : Int32), M5)) fun (r2 : Int32) (M3 : Mem) => gA y a4 3 (0 : Int32) (lt (wL M3 a4 (0 : Int32).toNatClampNeg (r2.toInt64)) fun (M7 : Mem) => some ((0 : Int32), M7)))
theorem w_L_skies {g : GX} {l : Launch} (hG : GF g l) (y : Lay) (a0 : Nat) (a1 : Int32) (a2 : Int32) (a3 : Int32) (a4 : Nat) (M : Mem) : CW g l yL_skies cL_skies 6 [((0 : Nat), (12 : Nat), (15 : Nat), (18 : Nat)), ((0 : Nat), (12 : Nat), (19 : Nat), (13 : Nat))] 7 2 12 y [.ref a0, .int a1, .int a2, .int a3, .ref a4] M (f_L_skies y a0 a1 a2 a3 a4 M) := by
  refine CW_of hG (by decide) [some (.ref a0), some (.int a1), some (.int a2), some (.int a3), some (.ref a4), none] rfl rfl (fun out h x Q C R => ?_)
  unfold f_L_skies at h
  refine g_aload C tb_L_skies_0_ok (i := 0) rfl rfl ?_
  refine g_iconstv C tb_L_skies_0_ok (i := 1) 0 rfl k_iconstv_0 ?_
  refine g_aload_n C tb_L_skies_0_ok (i := 2) rfl rfl ?_
  refine g_iload_n C tb_L_skies_0_ok (i := 3) rfl rfl ?_
  refine g_iload_n C tb_L_skies_0_ok (i := 4) rfl rfl ?_
  refine g_iload_n C tb_L_skies_0_ok (i := 5) rfl rfl ?_
  obtain ⟨k1, h⟩ := gK_e h
  refine g_callVC C tb_L_skies_0_ok (i := 6) R [.int a1, .int a2, .int a3] rfl mw_X11_skies mv_X11_skies ml_L_96 k1 rfl rfl rfl rfl (w_X11_skies C.G y a0 a1 a2 a3 M) h rfl rfl rfl ?_ ?_ (fun r2 M3 h => ?_)
  · intro M4 h
    refine ⟨15, hd_L_skies_1, g_hst C tb_L_skies_0_ok (i := 10) rfl rfl rfl rfl ?_⟩
    refine g_iconstv C tb_L_skies_0_ok (i := 11) 1 rfl k_iconstv_1 ?_
    cases h
    exact g_iretW C R rfl rfl tb_L_skies_0_ok (i := 12) rfl
  · intro M5 h
    refine ⟨19, hd_L_skies_2, g_hst C tb_L_skies_0_ok (i := 13) rfl rfl rfl rfl ?_⟩
    refine g_iconstv C tb_L_skies_0_ok (i := 14) 2 rfl k_iconstv_2 ?_
    cases h
    exact g_iretW C R rfl rfl tb_L_skies_0_ok (i := 15) rfl
  refine g_i2l C tb_L_skies_0_ok (i := 7) rfl ?_
  obtain ⟨b6, h⟩ := gA_e h
  refine g_last C tb_L_skies_0_ok (i := 8) rfl b6 ?_
  refine g_mem (fun M7 eM7 => ?_)
  have h := lt_e eM7 h
  refine g_goto C tb_L_skies_0_ok (i := 9) 23 rfl rfl ?_
  refine g_iconstv C tb_L_skies_0_ok (i := 16) 0 rfl k_iconstv_0 ?_
  cases h
  exact g_iretW C R rfl rfl tb_L_skies_0_ok (i := 17) rfl
