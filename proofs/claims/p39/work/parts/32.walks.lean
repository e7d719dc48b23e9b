def f_X2_refuseNumber (y : Lay) (a0 : Nat) (a1 : Int32) (M : Mem) : Option (Int32 × Mem) := gK y a0 (0, 2) (gN (y.2.1 a0 0) (gK y (y.2.1 a0 0) (0, 10) (c0 (f_X10_refuse y (y.2.1 a0 0) a1 M) fun (r4 : Int32) (M5 : Mem) => some (((-1) : Int32), M5))))
theorem w_X2_refuseNumber {g : GX} {l : Launch} (hG : GF g l) (y : Lay) (a0 : Nat) (a1 : Int32) (M : Mem) : C0 g l yX2_refuseNumber cX2_refuseNumber 2 (some .int) 1 y [.ref a0, .int a1] M (f_X2_refuseNumber y a0 a1 M) := by
  refine C0_of hG (by decide) [some (.ref a0), some (.int a1)] rfl rfl (fun out h x Q C R => ?_)
  unfold f_X2_refuseNumber at h
  refine g_aload_n C tb_X2_refuseNumber_0_ok (i := 0) rfl rfl ?_
  obtain ⟨k1, h⟩ := gK_e h
  obtain ⟨n2, h⟩ := gN_e h
  refine g_getR C tb_X2_refuseNumber_0_ok (i := 1) rfl fl_X2_32 rfl k1 n2 ?_
  refine g_iload_n C tb_X2_refuseNumber_0_ok (i := 2) rfl rfl ?_
  obtain ⟨k3, h⟩ := gK_e h
  obtain ⟨r4, M5, er4, h⟩ := c0_e h
  refine g_callV0 C tb_X2_refuseNumber_0_ok (i := 3) [.int a1] rfl mw_X10_refuse mv_X10_refuse ml_X2_131 k3 rfl rfl rfl rfl (w_X10_refuse C.G y (y.2.1 a0 0) a1 M) er4 rfl rfl rfl ?_
  refine g_pop C tb_X2_refuseNumber_0_ok (i := 4) rfl rfl ?_
  refine g_iconstv C tb_X2_refuseNumber_0_ok (i := 5) (-1) rfl k_iconstv_m1 ?_
  cases h
  exact g_iret0 C R tb_X2_refuseNumber_0_ok (i := 6) rfl
def f_X10_isTooLong (y : Lay) (a0 : Nat) (M : Mem) : Option Int32 := gK y a0 (0, 10) (jn (fun (v2 : Int32) => gd (v2 = 0 ∨ v2 = 1) (some v2)) fun j3 => jn (fun (_u : Unit) => j3 (0 : Int32)) fun j4 => br ((M.1 a0 2) = ((-3) : Int32)) (br (((M.1 a0 4) - (M.1 a0 3)) ≤ (4 : Int32)) (j4 ()) (j3 (1 : Int32))) (j4 ()))
theorem w_X10_isTooLong {g : GX} {l : Launch} (hG : GF g l) (y : Lay) (a0 : Nat) (M : Mem) : C0 g l yX10_isTooLong cX10_isTooLong 1 (some .boolean) 0 y [.ref a0] M (pm M (f_X10_isTooLong y a0 M)) := by
  refine CP_of hG (by decide) [some (.ref a0)] rfl rfl (fun out h x Q C R => ?_)
  unfold f_X10_isTooLong at h
  refine g_aload_n C tb_X10_isTooLong_0_ok (i := 0) rfl rfl ?_
  obtain ⟨k1, h⟩ := gK_e h
  refine g_getI C tb_X10_isTooLong_0_ok (i := 1) rfl fl_X10_47 rfl k1 ?_
  refine g_bipushv C tb_X10_isTooLong_0_ok (i := 2) (-3) rfl k_bipushv_m3 ?_
  obtain ⟨j3, ej3, h⟩ := jn_e h
  have J27 : ∀ (v2 : Int32), j3 v2 = some out → GG g x 1 Q 0 0 y M 27 [none] [.int v2] := by
    intro v2 h; subst ej3
    obtain ⟨hz, h⟩ := gd_e h
    cases h
    exact g_zret0 C R hz tb_X10_isTooLong_0_ok (i := 14) rfl
  obtain ⟨j4, ej4, h⟩ := jn_e h
  have J26 : ∀ (_u : Unit), j4 _u = some out → GG g x 1 Q 0 0 y M 26 [none] [] := by
    intro _u h; subst ej4
    refine g_iconstv C tb_X10_isTooLong_0_ok (i := 13) 0 rfl k_iconstv_0 ?_
    exact g_less (L' := [none]) trivial (J27 (0 : Int32) h)
  obtain ⟨t5, f6⟩ := br_e h
  refine g_icmp_ne C tb_X10_isTooLong_0_ok (i := 3) 26 rfl rfl (fun c => ?_) (fun c => ?_)
  · have h := f6 c
    exact g_less (L' := [none]) trivial (J26 () h)
  · have h := t5 c
    refine g_aload_n C tb_X10_isTooLong_0_ok (i := 4) rfl rfl ?_
    refine g_getI C tb_X10_isTooLong_0_ok (i := 5) rfl fl_X10_19 rfl k1 ?_
    refine g_aload_n C tb_X10_isTooLong_0_ok (i := 6) rfl rfl ?_
    refine g_getI C tb_X10_isTooLong_0_ok (i := 7) rfl fl_X10_31 rfl k1 ?_
    refine g_isub C tb_X10_isTooLong_0_ok (i := 8) rfl ?_
    refine g_iconstv C tb_X10_isTooLong_0_ok (i := 9) 4 rfl k_iconstv_4 ?_
    obtain ⟨t7, f8⟩ := br_e h
    refine g_icmp_le C tb_X10_isTooLong_0_ok (i := 10) 26 rfl rfl (fun c => ?_) (fun c => ?_)
    · have h := t7 c
      exact g_less (L' := [none]) trivial (J26 () h)
    · have h := f8 c
      refine g_iconstv C tb_X10_isTooLong_0_ok (i := 11) 1 rfl k_iconstv_1 ?_
      refine g_goto C tb_X10_isTooLong_0_ok (i := 12) 27 rfl rfl ?_
      exact g_less (L' := [none]) trivial (J27 (1 : Int32) h)
def f_X2_readNumber (y : Lay) (a0 : Nat) (a1 : Int32) (a2 : Int32) (M : Mem) : Option (Int32 × Mem) := gK y a0 (0, 2) (gN (y.2.1 a0 0) (gK y (y.2.1 a0 0) (0, 10) (br ((M.1 (y.2.1 a0 0) 2) = ((-3) : Int32)) (lt (M.1 (y.2.1 a0 0) 5) fun (v6 : Int32) => cp (f_X10_isTooLong y (y.2.1 a0 0) M) fun (r7 : Int32) => jn (fun (_u : Unit) => c0 (f_X2_refuseNumber y a0 (2 : Int32) M) fun (r9 : Int32) (M10 : Mem) => some (r9, M10)) fun j8 => br (r7 = 0) (br (v6 < a1) (j8 ()) (br (v6 ≤ a2) (c0 (f_X10_advance y (y.2.1 a0 0) M) fun (r17 : Int32) (M18 : Mem) => some (v6, M18)) (j8 ()))) (j8 ())) (c0 (f_X2_refuseNumber y a0 (1 : Int32) M) fun (r19 : Int32) (M20 : Mem) => some (r19, M20)))))
theorem w_X2_readNumber {g : GX} {l : Launch} (hG : GF g l) (y : Lay) (a0 : Nat) (a1 : Int32) (a2 : Int32) (M : Mem) : C0 g l yX2_readNumber cX2_readNumber 4 (some .int) 2 y [.ref a0, .int a1, .int a2] M (f_X2_readNumber y a0 a1 a2 M) := by
  refine C0_of hG (by decide) [some (.ref a0), some (.int a1), some (.int a2), none] rfl rfl (fun out h x Q C R => ?_)
  unfold f_X2_readNumber at h
  refine g_aload_n C tb_X2_readNumber_0_ok (i := 0) rfl rfl ?_
  obtain ⟨k1, h⟩ := gK_e h
  obtain ⟨n2, h⟩ := gN_e h
  refine g_getR C tb_X2_readNumber_0_ok (i := 1) rfl fl_X2_32 rfl k1 n2 ?_
  obtain ⟨k3, h⟩ := gK_e h
  refine g_getI C tb_X2_readNumber_0_ok (i := 2) rfl fl_X2_67 rfl k3 ?_
  refine g_bipushv C tb_X2_readNumber_0_ok (i := 3) (-3) rfl k_bipushv_m3 ?_
  obtain ⟨t4, f5⟩ := br_e h
  refine g_icmp_eq C tb_X2_readNumber_0_ok (i := 4) 18 rfl rfl (fun c => ?_) (fun c => ?_)
  · have h := t4 c
    refine g_aload_n C tb_X2_readNumber_0_ok (i := 9) rfl rfl ?_
    refine g_getR C tb_X2_readNumber_0_ok (i := 10) rfl fl_X2_32 rfl k1 n2 ?_
    refine g_getI C tb_X2_readNumber_0_ok (i := 11) rfl fl_X2_193 rfl k3 ?_
    refine g_topi (fun v6 ev6 => ?_)
    have h := lt_e ev6 h
    refine g_istore_n C tb_X2_readNumber_0_ok (i := 12) rfl rfl rfl ?_
    refine g_aload_n C tb_X2_readNumber_0_ok (i := 13) rfl rfl ?_
    refine g_getR C tb_X2_readNumber_0_ok (i := 14) rfl fl_X2_32 rfl k1 n2 ?_
    obtain ⟨r7, er7, h⟩ := cp_e h
    refine g_callV0 C tb_X2_readNumber_0_ok (i := 15) [] rfl mw_X10_isTooLong mv_X10_isTooLong ml_X2_196 k3 rfl rfl rfl rfl (w_X10_isTooLong C.G y (y.2.1 a0 0) M) (pm_s er7) rfl rfl rfl ?_
    obtain ⟨j8, ej8, h⟩ := jn_e h
    have J46 : ∀ (_u : Unit), j8 _u = some out → GG g x 4 Q 0 0 y M 46 [some (.ref a0), none, none, none] [] := by
      intro _u h; subst ej8
      refine g_aload_n C tb_X2_readNumber_0_ok (i := 23) rfl rfl ?_
      refine g_iconstv C tb_X2_readNumber_0_ok (i := 24) 2 rfl k_iconstv_2 ?_
      obtain ⟨r9, M10, er9, h⟩ := c0_e h
      refine g_callV0 C tb_X2_readNumber_0_ok (i := 25) [.int (2 : Int32)] rfl mw_X2_refuseNumber mv_X2_refuseNumber ml_X2_190 k1 rfl rfl rfl rfl (w_X2_refuseNumber C.G y a0 (2 : Int32) M) er9 rfl rfl rfl ?_
      cases h
      exact g_iret0 C R tb_X2_readNumber_0_ok (i := 26) rfl
    obtain ⟨t11, f12⟩ := br_e h
    refine g_if_ne C tb_X2_readNumber_0_ok (i := 16) 46 rfl rfl (fun c => ?_) (fun c => ?_)
    · have h := f12 c
      exact g_less (L' := [some (.ref a0), none, none, none]) ⟨rfl, trivial⟩ (J46 () h)
    · have h := t11 c
      refine g_iload_n C tb_X2_readNumber_0_ok (i := 17) rfl rfl ?_
      refine g_iload_n C tb_X2_readNumber_0_ok (i := 18) rfl rfl ?_
      obtain ⟨t13, f14⟩ := br_e h
      refine g_icmp_lt C tb_X2_readNumber_0_ok (i := 19) 46 rfl rfl (fun c => ?_) (fun c => ?_)
      · have h := t13 c
        exact g_less (L' := [some (.ref a0), none, none, none]) ⟨rfl, trivial⟩ (J46 () h)
      · have h := f14 c
        refine g_iload_n C tb_X2_readNumber_0_ok (i := 20) rfl rfl ?_
        refine g_iload_n C tb_X2_readNumber_0_ok (i := 21) rfl rfl ?_
        obtain ⟨t15, f16⟩ := br_e h
        refine g_icmp_le C tb_X2_readNumber_0_ok (i := 22) 52 rfl rfl (fun c => ?_) (fun c => ?_)
        · have h := t15 c
          refine g_aload_n C tb_X2_readNumber_0_ok (i := 27) rfl rfl ?_
          refine g_getR C tb_X2_readNumber_0_ok (i := 28) rfl fl_X2_32 rfl k1 n2 ?_
          obtain ⟨r17, M18, er17, h⟩ := c0_e h
          refine g_callV0 C tb_X2_readNumber_0_ok (i := 29) [] rfl mw_X10_advance mv_X10_advance ml_X2_149 k3 rfl rfl rfl rfl (w_X10_advance C.G y (y.2.1 a0 0) M) er17 rfl rfl rfl ?_
          refine g_iload_n C tb_X2_readNumber_0_ok (i := 30) rfl rfl ?_
          cases h
          exact g_iret0 C R tb_X2_readNumber_0_ok (i := 31) rfl
        · have h := f16 c
          exact g_less (L' := [some (.ref a0), none, none, none]) ⟨rfl, trivial⟩ (J46 () h)
  · have h := f5 c
    refine g_aload_n C tb_X2_readNumber_0_ok (i := 5) rfl rfl ?_
    refine g_iconstv C tb_X2_readNumber_0_ok (i := 6) 1 rfl k_iconstv_1 ?_
    obtain ⟨r19, M20, er19, h⟩ := c0_e h
    refine g_callV0 C tb_X2_readNumber_0_ok (i := 7) [.int (1 : Int32)] rfl mw_X2_refuseNumber mv_X2_refuseNumber ml_X2_190 k1 rfl rfl rfl rfl (w_X2_refuseNumber C.G y a0 (1 : Int32) M) er19 rfl rfl rfl ?_
    cases h
    exact g_iret0 C R tb_X2_readNumber_0_ok (i := 8) rfl
def f_X10_passes (y : Lay) (a0 : Nat) (a1 : Int32) (M : Mem) : Option (Int32 × Mem) := gK y a0 (0, 10) (br ((M.1 a0 2) = a1) (c0 (f_X10_advance y a0 M) fun (r4 : Int32) (M5 : Mem) => some ((1 : Int32), M5)) (c0 (f_X10_refuse y a0 (1 : Int32) M) fun (r6 : Int32) (M7 : Mem) => gd (r6 = 0 ∨ r6 = 1) (some (r6, M7))))
theorem w_X10_passes {g : GX} {l : Launch} (hG : GF g l) (y : Lay) (a0 : Nat) (a1 : Int32) (M : Mem) : C0 g l yX10_passes cX10_passes 2 (some .boolean) 2 y [.ref a0, .int a1] M (f_X10_passes y a0 a1 M) := by
  refine C0_of hG (by decide) [some (.ref a0), some (.int a1)] rfl rfl (fun out h x Q C R => ?_)
  unfold f_X10_passes at h
  refine g_aload_n C tb_X10_passes_0_ok (i := 0) rfl rfl ?_
  obtain ⟨k1, h⟩ := gK_e h
  refine g_getI C tb_X10_passes_0_ok (i := 1) rfl fl_X10_47 rfl k1 ?_
  refine g_iload_n C tb_X10_passes_0_ok (i := 2) rfl rfl ?_
  obtain ⟨t2, f3⟩ := br_e h
  refine g_icmp_eq C tb_X10_passes_0_ok (i := 3) 14 rfl rfl (fun c => ?_) (fun c => ?_)
  · have h := t2 c
    refine g_aload_n C tb_X10_passes_0_ok (i := 8) rfl rfl ?_
    obtain ⟨r4, M5, er4, h⟩ := c0_e h
    refine g_callV0 C tb_X10_passes_0_ok (i := 9) [] rfl mw_X10_advance mv_X10_advance ml_X10_28 k1 rfl rfl rfl rfl (w_X10_advance C.G y a0 M) er4 rfl rfl rfl ?_
    refine g_iconstv C tb_X10_passes_0_ok (i := 10) 1 rfl k_iconstv_1 ?_
    cases h
    exact g_zret0 C R (by decide) tb_X10_passes_0_ok (i := 11) rfl
  · have h := f3 c
    refine g_aload_n C tb_X10_passes_0_ok (i := 4) rfl rfl ?_
    refine g_iconstv C tb_X10_passes_0_ok (i := 5) 1 rfl k_iconstv_1 ?_
    obtain ⟨r6, M7, er6, h⟩ := c0_e h
    refine g_callV0 C tb_X10_passes_0_ok (i := 6) [.int (1 : Int32)] rfl mw_X10_refuse mv_X10_refuse ml_X10_66 k1 rfl rfl rfl rfl (w_X10_refuse C.G y a0 (1 : Int32) M) er6 rfl rfl rfl ?_
    obtain ⟨hz, h⟩ := gd_e h
    cases h
    exact g_zret0 C R hz tb_X10_passes_0_ok (i := 7) rfl
def f_X2_readSky (y : Lay) (a0 : Nat) (M : Mem) : Option (Int32 × Mem) := gK y a0 (0, 2) (br ((M.1 a0 6) = 0) (c0 (f_X2_passesOnce y a0 (1 : Int32) M) fun (r4 : Int32) (M5 : Mem) => br (r4 = 0) (some ((0 : Int32), M5)) (c0 (f_X2_readNumber y a0 (1 : Int32) (6 : Int32) M5) fun (r8 : Int32) (M9 : Mem) => br (r8 = ((-1) : Int32)) (some ((0 : Int32), M9)) (c0 (f_X2_readNumber y a0 (1 : Int32) (5 : Int32) M9) fun (r12 : Int32) (M13 : Mem) => br (r12 = ((-1) : Int32)) (some ((0 : Int32), M13)) (gN (y.2.1 a0 2) (gK y (y.2.1 a0 2) (0, 1) (c0 (f_X1_shape y (y.2.1 a0 2) r8 r12 M13) fun (r18 : Int32) (M19 : Mem) => gN (y.2.1 a0 0) (gK y (y.2.1 a0 0) (0, 10) (c0 (f_X10_passes y (y.2.1 a0 0) (59 : Int32) M19) fun (r22 : Int32) (M23 : Mem) => gd (r22 = 0 ∨ r22 = 1) (some (r22, M23)))))))))) (gN (y.2.1 a0 0) (gK y (y.2.1 a0 0) (0, 10) (c0 (f_X10_refuse y (y.2.1 a0 0) (4 : Int32) M) fun (r26 : Int32) (M27 : Mem) => gd (r26 = 0 ∨ r26 = 1) (some (r26, M27))))))
theorem w_X2_readSky {g : GX} {l : Launch} (hG : GF g l) (y : Lay) (a0 : Nat) (M : Mem) : C0 g l yX2_readSky cX2_readSky 3 (some .boolean) 3 y [.ref a0] M (f_X2_readSky y a0 M) := by
  refine C0_of hG (by decide) [some (.ref a0), none, none] rfl rfl (fun out h x Q C R => ?_)
  unfold f_X2_readSky at h
  refine g_aload_n C tb_X2_readSky_0_ok (i := 0) rfl rfl ?_
  obtain ⟨k1, h⟩ := gK_e h
  refine g_getI C tb_X2_readSky_0_ok (i := 1) rfl fl_X2_60 rfl k1 ?_
  obtain ⟨t2, f3⟩ := br_e h
  refine g_if_eq C tb_X2_readSky_0_ok (i := 2) 16 rfl rfl (fun c => ?_) (fun c => ?_)
  · have h := t2 c
    refine g_aload_n C tb_X2_readSky_0_ok (i := 8) rfl rfl ?_
    refine g_iconstv C tb_X2_readSky_0_ok (i := 9) 1 rfl k_iconstv_1 ?_
    obtain ⟨r4, M5, er4, h⟩ := c0_e h
    refine g_callV0 C tb_X2_readSky_0_ok (i := 10) [.int (1 : Int32)] rfl mw_X2_passesOnce mv_X2_passesOnce ml_X2_135 k1 rfl rfl rfl rfl (w_X2_passesOnce C.G y a0 (1 : Int32) M) er4 rfl rfl rfl ?_
    obtain ⟨t6, f7⟩ := br_e h
    refine g_if_ne C tb_X2_readSky_0_ok (i := 11) 26 rfl rfl (fun c => ?_) (fun c => ?_)
    · have h := f7 c
      refine g_aload_n C tb_X2_readSky_0_ok (i := 14) rfl rfl ?_
      refine g_iconstv C tb_X2_readSky_0_ok (i := 15) 1 rfl k_iconstv_1 ?_
      refine g_bipushv C tb_X2_readSky_0_ok (i := 16) 6 rfl k_bipushv_6 ?_
      obtain ⟨r8, M9, er8, h⟩ := c0_e h
      refine g_callV0 C tb_X2_readSky_0_ok (i := 17) [.int (1 : Int32), .int (6 : Int32)] rfl mw_X2_readNumber mv_X2_readNumber ml_X2_138 k1 rfl rfl rfl rfl (w_X2_readNumber C.G y a0 (1 : Int32) (6 : Int32) M5) er8 rfl rfl rfl ?_
      refine g_istore_n C tb_X2_readSky_0_ok (i := 18) rfl rfl rfl ?_
      refine g_iload_n C tb_X2_readSky_0_ok (i := 19) rfl rfl ?_
      refine g_iconstv C tb_X2_readSky_0_ok (i := 20) (-1) rfl k_iconstv_m1 ?_
      obtain ⟨t10, f11⟩ := br_e h
      refine g_icmp_ne C tb_X2_readSky_0_ok (i := 21) 41 rfl rfl (fun c => ?_) (fun c => ?_)
      · have h := f11 c
        refine g_aload_n C tb_X2_readSky_0_ok (i := 24) rfl rfl ?_
        refine g_iconstv C tb_X2_readSky_0_ok (i := 25) 1 rfl k_iconstv_1 ?_
        refine g_iconstv C tb_X2_readSky_0_ok (i := 26) 5 rfl k_iconstv_5 ?_
        obtain ⟨r12, M13, er12, h⟩ := c0_e h
        refine g_callV0 C tb_X2_readSky_0_ok (i := 27) [.int (1 : Int32), .int (5 : Int32)] rfl mw_X2_readNumber mv_X2_readNumber ml_X2_138 k1 rfl rfl rfl rfl (w_X2_readNumber C.G y a0 (1 : Int32) (5 : Int32) M9) er12 rfl rfl rfl ?_
        refine g_istore_n C tb_X2_readSky_0_ok (i := 28) rfl rfl rfl ?_
        refine g_iload_n C tb_X2_readSky_0_ok (i := 29) rfl rfl ?_
        refine g_iconstv C tb_X2_readSky_0_ok (i := 30) (-1) rfl k_iconstv_m1 ?_
        obtain ⟨t14, f15⟩ := br_e h
        refine g_icmp_ne C tb_X2_readSky_0_ok (i := 31) 55 rfl rfl (fun c => ?_) (fun c => ?_)
        · have h := f15 c
          refine g_aload_n C tb_X2_readSky_0_ok (i := 34) rfl rfl ?_
          obtain ⟨n16, h⟩ := gN_e h
          refine g_getR C tb_X2_readSky_0_ok (i := 35) rfl fl_X2_12 rfl k1 n16 ?_
          refine g_iload_n C tb_X2_readSky_0_ok (i := 36) rfl rfl ?_
          refine g_iload_n C tb_X2_readSky_0_ok (i := 37) rfl rfl ?_
          obtain ⟨k17, h⟩ := gK_e h
          obtain ⟨r18, M19, er18, h⟩ := c0_e h
          refine g_callV0 C tb_X2_readSky_0_ok (i := 38) [.int r8, .int r12] rfl mw_X1_shape mv_X1_shape ml_X2_142 k17 rfl rfl rfl rfl (w_X1_shape C.G y (y.2.1 a0 2) r8 r12 M13) er18 rfl rfl rfl ?_
          refine g_aload_n C tb_X2_readSky_0_ok (i := 39) rfl rfl ?_
          obtain ⟨n20, h⟩ := gN_e h
          refine g_getR C tb_X2_readSky_1_ok (i := 0) rfl fl_X2_32 rfl k1 n20 ?_
          refine g_bipushv C tb_X2_readSky_1_ok (i := 1) 59 rfl k_bipushv_59 ?_
          obtain ⟨k21, h⟩ := gK_e h
          obtain ⟨r22, M23, er22, h⟩ := c0_e h
          refine g_callV0 C tb_X2_readSky_1_ok (i := 2) [.int (59 : Int32)] rfl mw_X10_passes mv_X10_passes ml_X2_146 k21 rfl rfl rfl rfl (w_X10_passes C.G y (y.2.1 a0 0) (59 : Int32) M19) er22 rfl rfl rfl ?_
          obtain ⟨hz, h⟩ := gd_e h
          cases h
          exact g_zret0 C R hz tb_X2_readSky_1_ok (i := 3) rfl
        · have h := t14 c
          refine g_iconstv C tb_X2_readSky_0_ok (i := 32) 0 rfl k_iconstv_0 ?_
          cases h
          exact g_zret0 C R (by decide) tb_X2_readSky_0_ok (i := 33) rfl
      · have h := t10 c
        refine g_iconstv C tb_X2_readSky_0_ok (i := 22) 0 rfl k_iconstv_0 ?_
        cases h
        exact g_zret0 C R (by decide) tb_X2_readSky_0_ok (i := 23) rfl
    · have h := t6 c
      refine g_iconstv C tb_X2_readSky_0_ok (i := 12) 0 rfl k_iconstv_0 ?_
      cases h
      exact g_zret0 C R (by decide) tb_X2_readSky_0_ok (i := 13) rfl
  · have h := f3 c
    refine g_aload_n C tb_X2_readSky_0_ok (i := 3) rfl rfl ?_
    obtain ⟨n24, h⟩ := gN_e h
    refine g_getR C tb_X2_readSky_0_ok (i := 4) rfl fl_X2_32 rfl k1 n24 ?_
    refine g_iconstv C tb_X2_readSky_0_ok (i := 5) 4 rfl k_iconstv_4 ?_
    obtain ⟨k25, h⟩ := gK_e h
    obtain ⟨r26, M27, er26, h⟩ := c0_e h
    refine g_callV0 C tb_X2_readSky_0_ok (i := 6) [.int (4 : Int32)] rfl mw_X10_refuse mv_X10_refuse ml_X2_131 k25 rfl rfl rfl rfl (w_X10_refuse C.G y (y.2.1 a0 0) (4 : Int32) M) er26 rfl rfl rfl ?_
    obtain ⟨hz, h⟩ := gd_e h
    cases h
    exact g_zret0 C R hz tb_X2_readSky_0_ok (i := 7) rfl
def f_X2_readCell (y : Lay) (a0 : Nat) (a1 : Int32) (M : Mem) : Option (Int32 × Mem) := gK y a0 (0, 2) (gN (y.2.1 a0 0) (gK y (y.2.1 a0 0) (0, 10) (br ((M.1 (y.2.1 a0 0) 2) = ((-3) : Int32)) (lt (M.1 (y.2.1 a0 0) 5) fun (v6 : Int32) => cp (f_X10_isTooLong y (y.2.1 a0 0) M) fun (r7 : Int32) => br (r7 = 0) (gN (y.2.1 a0 2) (gK y (y.2.1 a0 2) (0, 1) (cp (f_X1_cells y (y.2.1 a0 2) M) fun (r12 : Int32) => br (v6 < r12) (br (((a1 >>> (v6 &&& 31)) &&& (1 : Int32)) = 0) (lt (wI M a0 6 (1 : Int32)) fun (M17 : Mem) => c0 (f_X10_advance y (y.2.1 a0 0) M17) fun (r18 : Int32) (M19 : Mem) => some (v6, M19)) (c0 (f_X2_refuseNumber y a0 (4 : Int32) M) fun (r20 : Int32) (M21 : Mem) => some (r20, M21))) (c0 (f_X2_refuseNumber y a0 (3 : Int32) M) fun (r22 : Int32) (M23 : Mem) => some (r22, M23))))) (c0 (f_X2_refuseNumber y a0 (2 : Int32) M) fun (r24 : Int32) (M25 : Mem) => some (r24, M25))) (c0 (f_X2_refuseNumber y a0 (1 : Int32) M) fun (r26 : Int32) (M27 : Mem) => some (r26, M27)))))
theorem w_X2_readCell {g : GX} {l : Launch} (hG : GF g l) (y : Lay) (a0 : Nat) (a1 : Int32) (M : Mem) : C0 g l yX2_readCell cX2_readCell 3 (some .int) 2 y [.ref a0, .int a1] M (f_X2_readCell y a0 a1 M) := by
  refine C0_of hG (by decide) [some (.ref a0), some (.int a1), none] rfl rfl (fun out h x Q C R => ?_)
  unfold f_X2_readCell at h
  refine g_aload_n C tb_X2_readCell_0_ok (i := 0) rfl rfl ?_
  obtain ⟨k1, h⟩ := gK_e h
  obtain ⟨n2, h⟩ := gN_e h
  refine g_getR C tb_X2_readCell_0_ok (i := 1) rfl fl_X2_32 rfl k1 n2 ?_
  obtain ⟨k3, h⟩ := gK_e h
  refine g_getI C tb_X2_readCell_0_ok (i := 2) rfl fl_X2_67 rfl k3 ?_
  refine g_bipushv C tb_X2_readCell_0_ok (i := 3) (-3) rfl k_bipushv_m3 ?_
  obtain ⟨t4, f5⟩ := br_e h
  refine g_icmp_eq C tb_X2_readCell_0_ok (i := 4) 18 rfl rfl (fun c => ?_) (fun c => ?_)
  · have h := t4 c
    refine g_aload_n C tb_X2_readCell_0_ok (i := 9) rfl rfl ?_
    refine g_getR C tb_X2_readCell_0_ok (i := 10) rfl fl_X2_32 rfl k1 n2 ?_
    refine g_getI C tb_X2_readCell_0_ok (i := 11) rfl fl_X2_193 rfl k3 ?_
    refine g_topi (fun v6 ev6 => ?_)
    have h := lt_e ev6 h
    refine g_istore_n C tb_X2_readCell_0_ok (i := 12) rfl rfl rfl ?_
    refine g_aload_n C tb_X2_readCell_0_ok (i := 13) rfl rfl ?_
    refine g_getR C tb_X2_readCell_0_ok (i := 14) rfl fl_X2_32 rfl k1 n2 ?_
    obtain ⟨r7, er7, h⟩ := cp_e h
    refine g_callV0 C tb_X2_readCell_0_ok (i := 15) [] rfl mw_X10_isTooLong mv_X10_isTooLong ml_X2_196 k3 rfl rfl rfl rfl (w_X10_isTooLong C.G y (y.2.1 a0 0) M) (pm_s er7) rfl rfl rfl ?_
    obtain ⟨t8, f9⟩ := br_e h
    refine g_if_eq C tb_X2_readCell_0_ok (i := 16) 42 rfl rfl (fun c => ?_) (fun c => ?_)
    · have h := t8 c
      refine g_iload_n C tb_X2_readCell_0_ok (i := 21) rfl rfl ?_
      refine g_aload_n C tb_X2_readCell_0_ok (i := 22) rfl rfl ?_
      obtain ⟨n10, h⟩ := gN_e h
      refine g_getR C tb_X2_readCell_0_ok (i := 23) rfl fl_X2_12 rfl k1 n10 ?_
      obtain ⟨k11, h⟩ := gK_e h
      obtain ⟨r12, er12, h⟩ := cp_e h
      refine g_callV0 C tb_X2_readCell_0_ok (i := 24) [] rfl mw_X1_cells mv_X1_cells ml_X2_199 k11 rfl rfl rfl rfl (w_X1_cells C.G y (y.2.1 a0 2) M) (pm_s er12) rfl rfl rfl ?_
      obtain ⟨t13, f14⟩ := br_e h
      refine g_icmp_lt C tb_X2_readCell_0_ok (i := 25) 59 rfl rfl (fun c => ?_) (fun c => ?_)
      · have h := t13 c
        refine g_iload_n C tb_X2_readCell_0_ok (i := 30) rfl rfl ?_
        refine g_iload_n C tb_X2_readCell_0_ok (i := 31) rfl rfl ?_
        refine g_ishr C tb_X2_readCell_0_ok (i := 32) rfl ?_
        refine g_iconstv C tb_X2_readCell_0_ok (i := 33) 1 rfl k_iconstv_1 ?_
        refine g_iand C tb_X2_readCell_0_ok (i := 34) rfl ?_
        obtain ⟨t15, f16⟩ := br_e h
        refine g_if_eq C tb_X2_readCell_0_ok (i := 35) 73 rfl rfl (fun c => ?_) (fun c => ?_)
        · have h := t15 c
          refine g_aload_n C tb_X2_readCell_1_ok (i := 0) rfl rfl ?_
          refine g_iconstv C tb_X2_readCell_1_ok (i := 1) 1 rfl k_iconstv_1 ?_
          refine g_putZ C tb_X2_readCell_1_ok (i := 2) rfl fl_X2_60 ft_2_6 rfl (by decide) k1 ?_
          refine g_mem (fun M17 eM17 => ?_)
          have h := lt_e eM17 h
          refine g_aload_n C tb_X2_readCell_1_ok (i := 3) rfl rfl ?_
          refine g_getR C tb_X2_readCell_1_ok (i := 4) rfl fl_X2_32 rfl k1 n2 ?_
          obtain ⟨r18, M19, er18, h⟩ := c0_e h
          refine g_callV0 C tb_X2_readCell_1_ok (i := 5) [] rfl mw_X10_advance mv_X10_advance ml_X2_149 k3 rfl rfl rfl rfl (w_X10_advance C.G y (y.2.1 a0 0) M17) er18 rfl rfl rfl ?_
          refine g_iload_n C tb_X2_readCell_1_ok (i := 6) rfl rfl ?_
          cases h
          exact g_iret0 C R tb_X2_readCell_1_ok (i := 7) rfl
        · have h := f16 c
          refine g_aload_n C tb_X2_readCell_0_ok (i := 36) rfl rfl ?_
          refine g_iconstv C tb_X2_readCell_0_ok (i := 37) 4 rfl k_iconstv_4 ?_
          obtain ⟨r20, M21, er20, h⟩ := c0_e h
          refine g_callV0 C tb_X2_readCell_0_ok (i := 38) [.int (4 : Int32)] rfl mw_X2_refuseNumber mv_X2_refuseNumber ml_X2_190 k1 rfl rfl rfl rfl (w_X2_refuseNumber C.G y a0 (4 : Int32) M) er20 rfl rfl rfl ?_
          cases h
          exact g_iret0 C R tb_X2_readCell_0_ok (i := 39) rfl
      · have h := f14 c
        refine g_aload_n C tb_X2_readCell_0_ok (i := 26) rfl rfl ?_
        refine g_iconstv C tb_X2_readCell_0_ok (i := 27) 3 rfl k_iconstv_3 ?_
        obtain ⟨r22, M23, er22, h⟩ := c0_e h
        refine g_callV0 C tb_X2_readCell_0_ok (i := 28) [.int (3 : Int32)] rfl mw_X2_refuseNumber mv_X2_refuseNumber ml_X2_190 k1 rfl rfl rfl rfl (w_X2_refuseNumber C.G y a0 (3 : Int32) M) er22 rfl rfl rfl ?_
        cases h
        exact g_iret0 C R tb_X2_readCell_0_ok (i := 29) rfl
    · have h := f9 c
      refine g_aload_n C tb_X2_readCell_0_ok (i := 17) rfl rfl ?_
      refine g_iconstv C tb_X2_readCell_0_ok (i := 18) 2 rfl k_iconstv_2 ?_
      obtain ⟨r24, M25, er24, h⟩ := c0_e h
      refine g_callV0 C tb_X2_readCell_0_ok (i := 19) [.int (2 : Int32)] rfl mw_X2_refuseNumber mv_X2_refuseNumber ml_X2_190 k1 rfl rfl rfl rfl (w_X2_refuseNumber C.G y a0 (2 : Int32) M) er24 rfl rfl rfl ?_
      cases h
      exact g_iret0 C R tb_X2_readCell_0_ok (i := 20) rfl
  · have h := f5 c
    refine g_aload_n C tb_X2_readCell_0_ok (i := 5) rfl rfl ?_
    refine g_iconstv C tb_X2_readCell_0_ok (i := 6) 1 rfl k_iconstv_1 ?_
    obtain ⟨r26, M27, er26, h⟩ := c0_e h
    refine g_callV0 C tb_X2_readCell_0_ok (i := 7) [.int (1 : Int32)] rfl mw_X2_refuseNumber mv_X2_refuseNumber ml_X2_190 k1 rfl rfl rfl rfl (w_X2_refuseNumber C.G y a0 (1 : Int32) M) er26 rfl rfl rfl ?_
    cases h
    exact g_iret0 C R tb_X2_readCell_0_ok (i := 8) rfl
def f_X2_readBlue (y : Lay) (a0 : Nat) (M : Mem) : Option (Int32 × Mem) := gK y a0 (0, 2) (gN (y.2.1 a0 0) (gK y (y.2.1 a0 0) (0, 10) (c0 (f_X10_advance y (y.2.1 a0 0) M) fun (r4 : Int32) (M5 : Mem) => c0 (f_X2_readCell y a0 (M5.1 a0 5) M5) fun (r6 : Int32) (M7 : Mem) => br (r6 = ((-1) : Int32)) (some ((0 : Int32), M7)) (lt (wI M7 a0 5 ((M7.1 a0 5) ||| ((1 : Int32) <<< (r6 &&& 31)))) fun (M10 : Mem) => c0 (f_X2_readNumber y a0 (0 : Int32) (99 : Int32) M10) fun (r11 : Int32) (M12 : Mem) => br (r11 = ((-1) : Int32)) (some ((0 : Int32), M12)) (gN (y.2.1 a0 3) (gK y (y.2.1 a0 3) (0, 8) (c0 (f_X8_addBlue y (y.2.1 a0 3) r6 r11 M12) fun (r17 : Int32) (M18 : Mem) => c0 (f_X10_passes y (y.2.1 a0 0) (59 : Int32) M18) fun (r19 : Int32) (M20 : Mem) => gd (r19 = 0 ∨ r19 = 1) (some (r19, M20)))))))))
theorem w_X2_readBlue {g : GX} {l : Launch} (hG : GF g l) (y : Lay) (a0 : Nat) (M : Mem) : C0 g l yX2_readBlue cX2_readBlue 3 (some .boolean) 3 y [.ref a0] M (f_X2_readBlue y a0 M) := by
  refine C0_of hG (by decide) [some (.ref a0), none, none] rfl rfl (fun out h x Q C R => ?_)
  unfold f_X2_readBlue at h
  refine g_aload_n C tb_X2_readBlue_0_ok (i := 0) rfl rfl ?_
  obtain ⟨k1, h⟩ := gK_e h
  obtain ⟨n2, h⟩ := gN_e h
  refine g_getR C tb_X2_readBlue_0_ok (i := 1) rfl fl_X2_32 rfl k1 n2 ?_
  obtain ⟨k3, h⟩ := gK_e h
  obtain ⟨r4, M5, er4, h⟩ := c0_e h
  refine g_callV0 C tb_X2_readBlue_0_ok (i := 2) [] rfl mw_X10_advance mv_X10_advance ml_X2_149 k3 rfl rfl rfl rfl (w_X10_advance C.G y (y.2.1 a0 0) M) er4 rfl rfl rfl ?_
  refine g_aload_n C tb_X2_readBlue_0_ok (i := 3) rfl rfl ?_
  refine g_aload_n C tb_X2_readBlue_0_ok (i := 4) rfl rfl ?_
  refine g_getI C tb_X2_readBlue_0_ok (i := 5) rfl fl_X2_57 rfl k1 ?_
  obtain ⟨r6, M7, er6, h⟩ := c0_e h
  refine g_callV0 C tb_X2_readBlue_0_ok (i := 6) [.int (M5.1 a0 5)] rfl mw_X2_readCell mv_X2_readCell ml_X2_152 k1 rfl rfl rfl rfl (w_X2_readCell C.G y a0 (M5.1 a0 5) M5) er6 rfl rfl rfl ?_
  refine g_istore_n C tb_X2_readBlue_0_ok (i := 7) rfl rfl rfl ?_
  refine g_iload_n C tb_X2_readBlue_0_ok (i := 8) rfl rfl ?_
  refine g_iconstv C tb_X2_readBlue_0_ok (i := 9) (-1) rfl k_iconstv_m1 ?_
  obtain ⟨t8, f9⟩ := br_e h
  refine g_icmp_ne C tb_X2_readBlue_0_ok (i := 10) 23 rfl rfl (fun c => ?_) (fun c => ?_)
  · have h := f9 c
    refine g_aload_n C tb_X2_readBlue_0_ok (i := 13) rfl rfl ?_
    refine g_dup C tb_X2_readBlue_0_ok (i := 14) rfl rfl ?_
    refine g_getI C tb_X2_readBlue_0_ok (i := 15) rfl fl_X2_57 rfl k1 ?_
    refine g_iconstv C tb_X2_readBlue_0_ok (i := 16) 1 rfl k_iconstv_1 ?_
    refine g_iload_n C tb_X2_readBlue_0_ok (i := 17) rfl rfl ?_
    refine g_ishl C tb_X2_readBlue_0_ok (i := 18) rfl ?_
    refine g_ior C tb_X2_readBlue_0_ok (i := 19) rfl ?_
    refine g_putI C tb_X2_readBlue_0_ok (i := 20) rfl fl_X2_57 ft_2_5 rfl k1 ?_
    refine g_mem (fun M10 eM10 => ?_)
    have h := lt_e eM10 h
    refine g_aload_n C tb_X2_readBlue_0_ok (i := 21) rfl rfl ?_
    refine g_iconstv C tb_X2_readBlue_0_ok (i := 22) 0 rfl k_iconstv_0 ?_
    refine g_bipushv C tb_X2_readBlue_0_ok (i := 23) 99 rfl k_bipushv_99 ?_
    obtain ⟨r11, M12, er11, h⟩ := c0_e h
    refine g_callV0 C tb_X2_readBlue_0_ok (i := 24) [.int (0 : Int32), .int (99 : Int32)] rfl mw_X2_readNumber mv_X2_readNumber ml_X2_138 k1 rfl rfl rfl rfl (w_X2_readNumber C.G y a0 (0 : Int32) (99 : Int32) M10) er11 rfl rfl rfl ?_
    refine g_istore_n C tb_X2_readBlue_0_ok (i := 25) rfl rfl rfl ?_
    refine g_iload_n C tb_X2_readBlue_0_ok (i := 26) rfl rfl ?_
    refine g_iconstv C tb_X2_readBlue_0_ok (i := 27) (-1) rfl k_iconstv_m1 ?_
    obtain ⟨t13, f14⟩ := br_e h
    refine g_icmp_ne C tb_X2_readBlue_0_ok (i := 28) 50 rfl rfl (fun c => ?_) (fun c => ?_)
    · have h := f14 c
      refine g_aload_n C tb_X2_readBlue_0_ok (i := 31) rfl rfl ?_
      obtain ⟨n15, h⟩ := gN_e h
      refine g_getR C tb_X2_readBlue_0_ok (i := 32) rfl fl_X2_23 rfl k1 n15 ?_
      refine g_iload_n C tb_X2_readBlue_0_ok (i := 33) rfl rfl ?_
      refine g_iload_n C tb_X2_readBlue_0_ok (i := 34) rfl rfl ?_
      obtain ⟨k16, h⟩ := gK_e h
      obtain ⟨r17, M18, er17, h⟩ := c0_e h
      refine g_callV0 C tb_X2_readBlue_0_ok (i := 35) [.int r6, .int r11] rfl mw_X8_addBlue mv_X8_addBlue ml_X2_156 k16 rfl rfl rfl rfl (w_X8_addBlue C.G y (y.2.1 a0 3) r6 r11 M12) er17 rfl rfl rfl ?_
      refine g_aload_n C tb_X2_readBlue_0_ok (i := 36) rfl rfl ?_
      refine g_getR C tb_X2_readBlue_0_ok (i := 37) rfl fl_X2_32 rfl k1 n2 ?_
      refine g_bipushv C tb_X2_readBlue_0_ok (i := 38) 59 rfl k_bipushv_59 ?_
      obtain ⟨r19, M20, er19, h⟩ := c0_e h
      refine g_callV0 C tb_X2_readBlue_0_ok (i := 39) [.int (59 : Int32)] rfl mw_X10_passes mv_X10_passes ml_X2_146 k3 rfl rfl rfl rfl (w_X10_passes C.G y (y.2.1 a0 0) (59 : Int32) M18) er19 rfl rfl rfl ?_
      obtain ⟨hz, h⟩ := gd_e h
      cases h
      exact g_zret0 C R hz tb_X2_readBlue_1_ok (i := 0) rfl
    · have h := t13 c
      refine g_iconstv C tb_X2_readBlue_0_ok (i := 29) 0 rfl k_iconstv_0 ?_
      cases h
      exact g_zret0 C R (by decide) tb_X2_readBlue_0_ok (i := 30) rfl
  · have h := t8 c
    refine g_iconstv C tb_X2_readBlue_0_ok (i := 11) 0 rfl k_iconstv_0 ?_
    cases h
    exact g_zret0 C R (by decide) tb_X2_readBlue_0_ok (i := 12) rfl
def f_X8_setSkill (y : Lay) (a0 : Nat) (a1 : Int32) (a2 : Int32) (M : Mem) : Option (Int32 × Mem) := jn (fun (M1 : Mem) => some (0, M1)) fun j2 => br (a1 < 0) (j2 M) (br ((6 : Int32) ≤ a1) (j2 M) (gK y a0 (0, 8) (gN (y.2.1 a0 5) (gA y (y.2.1 a0 5) 1 a1 (lt (wI M (y.2.1 a0 5) a1.toNatClampNeg a2) fun (M10 : Mem) => j2 M10)))))
theorem w_X8_setSkill {g : GX} {l : Launch} (hG : GF g l) (y : Lay) (a0 : Nat) (a1 : Int32) (a2 : Int32) (M : Mem) : C0 g l yX8_setSkill cX8_setSkill 3 none 0 y [.ref a0, .int a1, .int a2] M (f_X8_setSkill y a0 a1 a2 M) := by
  refine C0_of hG (by decide) [some (.ref a0), some (.int a1), some (.int a2)] rfl rfl (fun out h x Q C R => ?_)
  unfold f_X8_setSkill at h
  refine g_iload_n C tb_X8_setSkill_0_ok (i := 0) rfl rfl ?_
  obtain ⟨j2, ej2, h⟩ := jn_e h
  have J17 : ∀ (M1 : Mem), j2 M1 = some out → GG g x 3 Q 0 0 y M1 17 [none, none, none] [] := by
    intro M1 h; subst ej2
    cases h
    exact g_vret0 C R tb_X8_setSkill_0_ok (i := 10) rfl
  obtain ⟨t3, f4⟩ := br_e h
  refine g_if_lt C tb_X8_setSkill_0_ok (i := 1) 17 rfl rfl (fun c => ?_) (fun c => ?_)
  · have h := t3 c
    exact g_less (L' := [none, none, none]) trivial (J17 M h)
  · have h := f4 c
    refine g_iload_n C tb_X8_setSkill_0_ok (i := 2) rfl rfl ?_
    refine g_bipushv C tb_X8_setSkill_0_ok (i := 3) 6 rfl k_bipushv_6 ?_
    obtain ⟨t5, f6⟩ := br_e h
    refine g_icmp_ge C tb_X8_setSkill_0_ok (i := 4) 17 rfl rfl (fun c => ?_) (fun c => ?_)
    · have h := t5 c
      exact g_less (L' := [none, none, none]) trivial (J17 M h)
    · have h := f6 c
      refine g_aload_n C tb_X8_setSkill_0_ok (i := 5) rfl rfl ?_
      obtain ⟨k7, h⟩ := gK_e h
      obtain ⟨n8, h⟩ := gN_e h
      refine g_getR C tb_X8_setSkill_0_ok (i := 6) rfl fl_X8_24 rfl k7 n8 ?_
      refine g_iload_n C tb_X8_setSkill_0_ok (i := 7) rfl rfl ?_
      refine g_iload_n C tb_X8_setSkill_0_ok (i := 8) rfl rfl ?_
      obtain ⟨b9, h⟩ := gA_e h
      refine g_iast C tb_X8_setSkill_0_ok (i := 9) rfl b9 ?_
      refine g_mem (fun M10 eM10 => ?_)
      have h := lt_e eM10 h
      exact g_less (L' := [none, none, none]) trivial (J17 M10 h)
def f_X8_setSpot (y : Lay) (a0 : Nat) (a1 : Int32) (a2 : Int32) (M : Mem) : Option (Int32 × Mem) := jn (fun (M1 : Mem) => some (0, M1)) fun j2 => br (a1 < 0) (j2 M) (br ((6 : Int32) ≤ a1) (j2 M) (gK y a0 (0, 8) (gN (y.2.1 a0 4) (gA y (y.2.1 a0 4) 1 a1 (lt (wI M (y.2.1 a0 4) a1.toNatClampNeg a2) fun (M10 : Mem) => j2 M10)))))
theorem w_X8_setSpot {g : GX} {l : Launch} (hG : GF g l) (y : Lay) (a0 : Nat) (a1 : Int32) (a2 : Int32) (M : Mem) : C0 g l yX8_setSpot cX8_setSpot 3 none 0 y [.ref a0, .int a1, .int a2] M (f_X8_setSpot y a0 a1 a2 M) := by
  refine C0_of hG (by decide) [some (.ref a0), some (.int a1), some (.int a2)] rfl rfl (fun out h x Q C R => ?_)
  unfold f_X8_setSpot at h
  refine g_iload_n C tb_X8_setSpot_0_ok (i := 0) rfl rfl ?_
  obtain ⟨j2, ej2, h⟩ := jn_e h
  have J17 : ∀ (M1 : Mem), j2 M1 = some out → GG g x 3 Q 0 0 y M1 17 [none, none, none] [] := by
    intro M1 h; subst ej2
    cases h
    exact g_vret0 C R tb_X8_setSpot_0_ok (i := 10) rfl
  obtain ⟨t3, f4⟩ := br_e h
  refine g_if_lt C tb_X8_setSpot_0_ok (i := 1) 17 rfl rfl (fun c => ?_) (fun c => ?_)
  · have h := t3 c
    exact g_less (L' := [none, none, none]) trivial (J17 M h)
  · have h := f4 c
    refine g_iload_n C tb_X8_setSpot_0_ok (i := 2) rfl rfl ?_
    refine g_bipushv C tb_X8_setSpot_0_ok (i := 3) 6 rfl k_bipushv_6 ?_
    obtain ⟨t5, f6⟩ := br_e h
    refine g_icmp_ge C tb_X8_setSpot_0_ok (i := 4) 17 rfl rfl (fun c => ?_) (fun c => ?_)
    · have h := t5 c
      exact g_less (L' := [none, none, none]) trivial (J17 M h)
    · have h := f6 c
      refine g_aload_n C tb_X8_setSpot_0_ok (i := 5) rfl rfl ?_
      obtain ⟨k7, h⟩ := gK_e h
      obtain ⟨n8, h⟩ := gN_e h
      refine g_getR C tb_X8_setSpot_0_ok (i := 6) rfl fl_X8_21 rfl k7 n8 ?_
      refine g_iload_n C tb_X8_setSpot_0_ok (i := 7) rfl rfl ?_
      refine g_iload_n C tb_X8_setSpot_0_ok (i := 8) rfl rfl ?_
      obtain ⟨b9, h⟩ := gA_e h
      refine g_iast C tb_X8_setSpot_0_ok (i := 9) rfl b9 ?_
      refine g_mem (fun M10 eM10 => ?_)
      have h := lt_e eM10 h
      exact g_less (L' := [none, none, none]) trivial (J17 M10 h)
def f_X2_readGirl (y : Lay) (a0 : Nat) (a1 : Int32) (M : Mem) : Option (Int32 × Mem) := gK y a0 (0, 2) (gN (y.2.1 a0 2) (gK y (y.2.1 a0 2) (0, 1) (br ((M.1 (y.2.1 a0 2) 4) < (6 : Int32)) (gN (y.2.1 a0 0) (gK y (y.2.1 a0 0) (0, 10) (c0 (f_X10_advance y (y.2.1 a0 0) M) fun (r8 : Int32) (M9 : Mem) => c0 (f_X2_readNumber y a0 (0 : Int32) (9 : Int32) M9) fun (r10 : Int32) (M11 : Mem) => br (r10 = ((-1) : Int32)) (some ((0 : Int32), M11)) (c0 (f_X2_readCell y a0 (0 : Int32) M11) fun (r14 : Int32) (M15 : Mem) => br (r14 = ((-1) : Int32)) (some ((0 : Int32), M15)) (lt (M15.1 (y.2.1 a0 2) 4) fun (v18 : Int32) => lt (wI M15 (y.2.1 a0 2) 4 ((M15.1 (y.2.1 a0 2) 4) + (1 : Int32))) fun (M19 : Mem) => jn (fun (M20 : Mem) => gN (y.2.1 a0 3) (gK y (y.2.1 a0 3) (0, 8) (c0 (f_X8_setSkill y (y.2.1 a0 3) v18 r10 M20) fun (r24 : Int32) (M25 : Mem) => c0 (f_X8_setSpot y (y.2.1 a0 3) v18 r14 M25) fun (r26 : Int32) (M27 : Mem) => c0 (f_X10_passes y (y.2.1 a0 0) (59 : Int32) M27) fun (r28 : Int32) (M29 : Mem) => gd (r28 = 0 ∨ r28 = 1) (some (r28, M29))))) fun j21 => br (a1 = 0) (j21 M19) (lt (wI M19 (y.2.1 a0 2) 5 ((M19.1 (y.2.1 a0 2) 5) ||| ((1 : Int32) <<< (v18 &&& 31)))) fun (M32 : Mem) => j21 M32)))))) (gN (y.2.1 a0 0) (gK y (y.2.1 a0 0) (0, 10) (c0 (f_X10_refuse y (y.2.1 a0 0) (2 : Int32) M) fun (r35 : Int32) (M36 : Mem) => gd (r35 = 0 ∨ r35 = 1) (some (r35, M36))))))))
theorem w_X2_readGirl {g : GX} {l : Launch} (hG : GF g l) (y : Lay) (a0 : Nat) (a1 : Int32) (M : Mem) : C0 g l yX2_readGirl cX2_readGirl 5 (some .boolean) 3 y [.ref a0, .int a1] M (f_X2_readGirl y a0 a1 M) := by
  refine C0_of hG (by decide) [some (.ref a0), some (.int a1), none, none, none] rfl rfl (fun out h x Q C R => ?_)
  unfold f_X2_readGirl at h
  refine g_aload_n C tb_X2_readGirl_0_ok (i := 0) rfl rfl ?_
  obtain ⟨k1, h⟩ := gK_e h
  obtain ⟨n2, h⟩ := gN_e h
  refine g_getR C tb_X2_readGirl_0_ok (i := 1) rfl fl_X2_12 rfl k1 n2 ?_
  obtain ⟨k3, h⟩ := gK_e h
  refine g_getI C tb_X2_readGirl_0_ok (i := 2) rfl fl_X2_159 rfl k3 ?_
  refine g_bipushv C tb_X2_readGirl_0_ok (i := 3) 6 rfl k_bipushv_6 ?_
  obtain ⟨t4, f5⟩ := br_e h
  refine g_icmp_lt C tb_X2_readGirl_0_ok (i := 4) 21 rfl rfl (fun c => ?_) (fun c => ?_)
  · have h := t4 c
    refine g_aload_n C tb_X2_readGirl_0_ok (i := 10) rfl rfl ?_
    obtain ⟨n6, h⟩ := gN_e h
    refine g_getR C tb_X2_readGirl_0_ok (i := 11) rfl fl_X2_32 rfl k1 n6 ?_
    obtain ⟨k7, h⟩ := gK_e h
    obtain ⟨r8, M9, er8, h⟩ := c0_e h
    refine g_callV0 C tb_X2_readGirl_0_ok (i := 12) [] rfl mw_X10_advance mv_X10_advance ml_X2_149 k7 rfl rfl rfl rfl (w_X10_advance C.G y (y.2.1 a0 0) M) er8 rfl rfl rfl ?_
    refine g_aload_n C tb_X2_readGirl_0_ok (i := 13) rfl rfl ?_
    refine g_iconstv C tb_X2_readGirl_0_ok (i := 14) 0 rfl k_iconstv_0 ?_
    refine g_bipushv C tb_X2_readGirl_0_ok (i := 15) 9 rfl k_bipushv_9 ?_
    obtain ⟨r10, M11, er10, h⟩ := c0_e h
    refine g_callV0 C tb_X2_readGirl_0_ok (i := 16) [.int (0 : Int32), .int (9 : Int32)] rfl mw_X2_readNumber mv_X2_readNumber ml_X2_138 k1 rfl rfl rfl rfl (w_X2_readNumber C.G y a0 (0 : Int32) (9 : Int32) M9) er10 rfl rfl rfl ?_
    refine g_istore_n C tb_X2_readGirl_0_ok (i := 17) rfl rfl rfl ?_
    refine g_iload_n C tb_X2_readGirl_0_ok (i := 18) rfl rfl ?_
    refine g_iconstv C tb_X2_readGirl_0_ok (i := 19) (-1) rfl k_iconstv_m1 ?_
    obtain ⟨t12, f13⟩ := br_e h
    refine g_icmp_ne C tb_X2_readGirl_0_ok (i := 20) 43 rfl rfl (fun c => ?_) (fun c => ?_)
    · have h := f13 c
      refine g_aload_n C tb_X2_readGirl_0_ok (i := 23) rfl rfl ?_
      refine g_iconstv C tb_X2_readGirl_0_ok (i := 24) 0 rfl k_iconstv_0 ?_
      obtain ⟨r14, M15, er14, h⟩ := c0_e h
      refine g_callV0 C tb_X2_readGirl_0_ok (i := 25) [.int (0 : Int32)] rfl mw_X2_readCell mv_X2_readCell ml_X2_152 k1 rfl rfl rfl rfl (w_X2_readCell C.G y a0 (0 : Int32) M11) er14 rfl rfl rfl ?_
      refine g_istore_n C tb_X2_readGirl_0_ok (i := 26) rfl rfl rfl ?_
      refine g_iload_n C tb_X2_readGirl_0_ok (i := 27) rfl rfl ?_
      refine g_iconstv C tb_X2_readGirl_0_ok (i := 28) (-1) rfl k_iconstv_m1 ?_
      obtain ⟨t16, f17⟩ := br_e h
      refine g_icmp_ne C tb_X2_readGirl_0_ok (i := 29) 56 rfl rfl (fun c => ?_) (fun c => ?_)
      · have h := f17 c
        refine g_aload_n C tb_X2_readGirl_0_ok (i := 32) rfl rfl ?_
        refine g_getR C tb_X2_readGirl_0_ok (i := 33) rfl fl_X2_12 rfl k1 n2 ?_
        refine g_getI C tb_X2_readGirl_0_ok (i := 34) rfl fl_X2_159 rfl k3 ?_
        refine g_topi (fun v18 ev18 => ?_)
        have h := lt_e ev18 h
        refine g_istore C tb_X2_readGirl_0_ok (i := 35) rfl rfl rfl ?_
        refine g_aload_n C tb_X2_readGirl_0_ok (i := 36) rfl rfl ?_
        refine g_getR C tb_X2_readGirl_0_ok (i := 37) rfl fl_X2_12 rfl k1 n2 ?_
        refine g_dup C tb_X2_readGirl_0_ok (i := 38) rfl rfl ?_
        refine g_getI C tb_X2_readGirl_0_ok (i := 39) rfl fl_X2_159 rfl k3 ?_
        refine g_iconstv C tb_X2_readGirl_1_ok (i := 0) 1 rfl k_iconstv_1 ?_
        refine g_iadd C tb_X2_readGirl_1_ok (i := 1) rfl ?_
        refine g_putI C tb_X2_readGirl_1_ok (i := 2) rfl fl_X2_159 ft_1_4 rfl k3 ?_
        refine g_mem (fun M19 eM19 => ?_)
        have h := lt_e eM19 h
        refine g_iload_n C tb_X2_readGirl_1_ok (i := 3) rfl rfl ?_
        obtain ⟨j21, ej21, h⟩ := jn_e h
        have J98 : ∀ (M20 : Mem), j21 M20 = some out → GG g x 5 Q 0 0 y M20 98 [some (.ref a0), none, some (.int r10), some (.int r14), some (.int v18)] [] := by
          intro M20 h; subst ej21
          refine g_aload_n C tb_X2_readGirl_1_ok (i := 14) rfl rfl ?_
          obtain ⟨n22, h⟩ := gN_e h
          refine g_getR C tb_X2_readGirl_1_ok (i := 15) rfl fl_X2_23 rfl k1 n22 ?_
          refine g_iload C tb_X2_readGirl_1_ok (i := 16) rfl rfl ?_
          refine g_iload_n C tb_X2_readGirl_1_ok (i := 17) rfl rfl ?_
          obtain ⟨k23, h⟩ := gK_e h
          obtain ⟨r24, M25, er24, h⟩ := c0_e h
          refine g_callV0 C tb_X2_readGirl_1_ok (i := 18) [.int v18, .int r10] rfl mw_X8_setSkill mv_X8_setSkill ml_X2_165 k23 rfl rfl rfl rfl (w_X8_setSkill C.G y (y.2.1 a0 3) v18 r10 M20) er24 rfl rfl rfl ?_
          refine g_aload_n C tb_X2_readGirl_1_ok (i := 19) rfl rfl ?_
          refine g_getR C tb_X2_readGirl_1_ok (i := 20) rfl fl_X2_23 rfl k1 n22 ?_
          refine g_iload C tb_X2_readGirl_1_ok (i := 21) rfl rfl ?_
          refine g_iload_n C tb_X2_readGirl_1_ok (i := 22) rfl rfl ?_
          obtain ⟨r26, M27, er26, h⟩ := c0_e h
          refine g_callV0 C tb_X2_readGirl_1_ok (i := 23) [.int v18, .int r14] rfl mw_X8_setSpot mv_X8_setSpot ml_X2_168 k23 rfl rfl rfl rfl (w_X8_setSpot C.G y (y.2.1 a0 3) v18 r14 M25) er26 rfl rfl rfl ?_
          refine g_aload_n C tb_X2_readGirl_1_ok (i := 24) rfl rfl ?_
          refine g_getR C tb_X2_readGirl_1_ok (i := 25) rfl fl_X2_32 rfl k1 n6 ?_
          refine g_bipushv C tb_X2_readGirl_1_ok (i := 26) 59 rfl k_bipushv_59 ?_
          obtain ⟨r28, M29, er28, h⟩ := c0_e h
          refine g_callV0 C tb_X2_readGirl_1_ok (i := 27) [.int (59 : Int32)] rfl mw_X10_passes mv_X10_passes ml_X2_146 k7 rfl rfl rfl rfl (w_X10_passes C.G y (y.2.1 a0 0) (59 : Int32) M27) er28 rfl rfl rfl ?_
          obtain ⟨hz, h⟩ := gd_e h
          cases h
          exact g_zret0 C R hz tb_X2_readGirl_1_ok (i := 28) rfl
        obtain ⟨t30, f31⟩ := br_e h
        refine g_if_eq C tb_X2_readGirl_1_ok (i := 4) 98 rfl rfl (fun c => ?_) (fun c => ?_)
        · have h := t30 c
          exact g_less (L' := [some (.ref a0), none, some (.int r10), some (.int r14), some (.int v18)]) ⟨rfl, ⟨rfl, ⟨rfl, ⟨rfl, trivial⟩⟩⟩⟩ (J98 M19 h)
        · have h := f31 c
          refine g_aload_n C tb_X2_readGirl_1_ok (i := 5) rfl rfl ?_
          refine g_getR C tb_X2_readGirl_1_ok (i := 6) rfl fl_X2_12 rfl k1 n2 ?_
          refine g_dup C tb_X2_readGirl_1_ok (i := 7) rfl rfl ?_
          refine g_getI C tb_X2_readGirl_1_ok (i := 8) rfl fl_X2_162 rfl k3 ?_
          refine g_iconstv C tb_X2_readGirl_1_ok (i := 9) 1 rfl k_iconstv_1 ?_
          refine g_iload C tb_X2_readGirl_1_ok (i := 10) rfl rfl ?_
          refine g_ishl C tb_X2_readGirl_1_ok (i := 11) rfl ?_
          refine g_ior C tb_X2_readGirl_1_ok (i := 12) rfl ?_
          refine g_putI C tb_X2_readGirl_1_ok (i := 13) rfl fl_X2_162 ft_1_5 rfl k3 ?_
          refine g_mem (fun M32 eM32 => ?_)
          have h := lt_e eM32 h
          exact g_less (L' := [some (.ref a0), none, some (.int r10), some (.int r14), some (.int v18)]) ⟨rfl, ⟨rfl, ⟨rfl, ⟨rfl, trivial⟩⟩⟩⟩ (J98 M32 h)
      · have h := t16 c
        refine g_iconstv C tb_X2_readGirl_0_ok (i := 30) 0 rfl k_iconstv_0 ?_
        cases h
        exact g_zret0 C R (by decide) tb_X2_readGirl_0_ok (i := 31) rfl
    · have h := t12 c
      refine g_iconstv C tb_X2_readGirl_0_ok (i := 21) 0 rfl k_iconstv_0 ?_
      cases h
      exact g_zret0 C R (by decide) tb_X2_readGirl_0_ok (i := 22) rfl
  · have h := f5 c
    refine g_aload_n C tb_X2_readGirl_0_ok (i := 5) rfl rfl ?_
    obtain ⟨n33, h⟩ := gN_e h
    refine g_getR C tb_X2_readGirl_0_ok (i := 6) rfl fl_X2_32 rfl k1 n33 ?_
    refine g_iconstv C tb_X2_readGirl_0_ok (i := 7) 2 rfl k_iconstv_2 ?_
    obtain ⟨k34, h⟩ := gK_e h
    obtain ⟨r35, M36, er35, h⟩ := c0_e h
    refine g_callV0 C tb_X2_readGirl_0_ok (i := 8) [.int (2 : Int32)] rfl mw_X10_refuse mv_X10_refuse ml_X2_131 k34 rfl rfl rfl rfl (w_X10_refuse C.G y (y.2.1 a0 0) (2 : Int32) M) er35 rfl rfl rfl ?_
    obtain ⟨hz, h⟩ := gd_e h
    cases h
    exact g_zret0 C R hz tb_X2_readGirl_0_ok (i := 9) rfl
def f_X8_setPeg (y : Lay) (a0 : Nat) (a1 : Int32) (a2 : Int32) (M : Mem) : Option (Int32 × Mem) := jn (fun (v1 : Int32) => gK y a0 (0, 8) (lt (wI M a0 7 v1) fun (M4 : Mem) => jn (fun (M5 : Mem) => some (0, M5)) fun j6 => br (a2 = 0) (j6 M4) (br (a1 < 0) (j6 M4) (br ((30 : Int32) ≤ a1) (j6 M4) (gN (y.2.1 a0 1) (gA y (y.2.1 a0 1) 1 a1 (lt (wI M4 (y.2.1 a0 1) a1.toNatClampNeg (0 : Int32)) fun (M15 : Mem) => j6 M15))))))) fun j2 => br (a2 = 0) (gK y a0 (0, 8) (j2 ((M.1 a0 7) &&& (((1 : Int32) <<< (a1 &&& 31)) ^^^ ((-1) : Int32))))) (gK y a0 (0, 8) (j2 ((M.1 a0 7) ||| ((1 : Int32) <<< (a1 &&& 31)))))
theorem w_X8_setPeg {g : GX} {l : Launch} (hG : GF g l) (y : Lay) (a0 : Nat) (a1 : Int32) (a2 : Int32) (M : Mem) : C0 g l yX8_setPeg cX8_setPeg 3 none 0 y [.ref a0, .int a1, .int a2] M (f_X8_setPeg y a0 a1 a2 M) := by
  refine C0_of hG (by decide) [some (.ref a0), some (.int a1), some (.int a2)] rfl rfl (fun out h x Q C R => ?_)
  unfold f_X8_setPeg at h
  refine g_aload_n C tb_X8_setPeg_0_ok (i := 0) rfl rfl ?_
  refine g_iload_n C tb_X8_setPeg_0_ok (i := 1) rfl rfl ?_
  obtain ⟨j2, ej2, h⟩ := jn_e h
  have J26 : ∀ (v1 : Int32), j2 v1 = some out → GG g x 3 Q 0 0 y M 26 [some (.ref a0), some (.int a1), some (.int a2)] [.int v1, .ref a0] := by
    intro v1 h; subst ej2
    obtain ⟨k3, h⟩ := gK_e h
    refine g_putI C tb_X8_setPeg_0_ok (i := 18) rfl fl_X8_39 ft_8_7 rfl k3 ?_
    refine g_mem (fun M4 eM4 => ?_)
    have h := lt_e eM4 h
    refine g_iload_n C tb_X8_setPeg_0_ok (i := 19) rfl rfl ?_
    obtain ⟨j6, ej6, h⟩ := jn_e h
    have J50 : ∀ (M5 : Mem), j6 M5 = some out → GG g x 3 Q 0 0 y M5 50 [none, none, none] [] := by
      intro M5 h; subst ej6
      cases h
      exact g_vret0 C R tb_X8_setPeg_0_ok (i := 31) rfl
    obtain ⟨t7, f8⟩ := br_e h
    refine g_if_eq C tb_X8_setPeg_0_ok (i := 20) 50 rfl rfl (fun c => ?_) (fun c => ?_)
    · have h := t7 c
      exact g_less (L' := [none, none, none]) trivial (J50 M4 h)
    · have h := f8 c
      refine g_iload_n C tb_X8_setPeg_0_ok (i := 21) rfl rfl ?_
      obtain ⟨t9, f10⟩ := br_e h
      refine g_if_lt C tb_X8_setPeg_0_ok (i := 22) 50 rfl rfl (fun c => ?_) (fun c => ?_)
      · have h := t9 c
        exact g_less (L' := [none, none, none]) trivial (J50 M4 h)
      · have h := f10 c
        refine g_iload_n C tb_X8_setPeg_0_ok (i := 23) rfl rfl ?_
        refine g_bipushv C tb_X8_setPeg_0_ok (i := 24) 30 rfl k_bipushv_30 ?_
        obtain ⟨t11, f12⟩ := br_e h
        refine g_icmp_ge C tb_X8_setPeg_0_ok (i := 25) 50 rfl rfl (fun c => ?_) (fun c => ?_)
        · have h := t11 c
          exact g_less (L' := [none, none, none]) trivial (J50 M4 h)
        · have h := f12 c
          refine g_aload_n C tb_X8_setPeg_0_ok (i := 26) rfl rfl ?_
          obtain ⟨n13, h⟩ := gN_e h
          refine g_getR C tb_X8_setPeg_0_ok (i := 27) rfl fl_X8_9 rfl k3 n13 ?_
          refine g_iload_n C tb_X8_setPeg_0_ok (i := 28) rfl rfl ?_
          refine g_iconstv C tb_X8_setPeg_0_ok (i := 29) 0 rfl k_iconstv_0 ?_
          obtain ⟨b14, h⟩ := gA_e h
          refine g_iast C tb_X8_setPeg_0_ok (i := 30) rfl b14 ?_
          refine g_mem (fun M15 eM15 => ?_)
          have h := lt_e eM15 h
          exact g_less (L' := [none, none, none]) trivial (J50 M15 h)
  obtain ⟨t16, f17⟩ := br_e h
  refine g_if_eq C tb_X8_setPeg_0_ok (i := 2) 16 rfl rfl (fun c => ?_) (fun c => ?_)
  · have h := t16 c
    refine g_aload_n C tb_X8_setPeg_0_ok (i := 10) rfl rfl ?_
    obtain ⟨k18, h⟩ := gK_e h
    refine g_getI C tb_X8_setPeg_0_ok (i := 11) rfl fl_X8_39 rfl k18 ?_
    refine g_iconstv C tb_X8_setPeg_0_ok (i := 12) 1 rfl k_iconstv_1 ?_
    refine g_iload_n C tb_X8_setPeg_0_ok (i := 13) rfl rfl ?_
    refine g_ishl C tb_X8_setPeg_0_ok (i := 14) rfl ?_
    refine g_iconstv C tb_X8_setPeg_0_ok (i := 15) (-1) rfl k_iconstv_m1 ?_
    refine g_ixor C tb_X8_setPeg_0_ok (i := 16) rfl ?_
    refine g_iand C tb_X8_setPeg_0_ok (i := 17) rfl ?_
    exact g_less (L' := [some (.ref a0), some (.int a1), some (.int a2)]) ⟨rfl, ⟨rfl, ⟨rfl, trivial⟩⟩⟩ (J26 ((M.1 a0 7) &&& (((1 : Int32) <<< (a1 &&& 31)) ^^^ ((-1) : Int32))) h)
  · have h := f17 c
    refine g_aload_n C tb_X8_setPeg_0_ok (i := 3) rfl rfl ?_
    obtain ⟨k19, h⟩ := gK_e h
    refine g_getI C tb_X8_setPeg_0_ok (i := 4) rfl fl_X8_39 rfl k19 ?_
    refine g_iconstv C tb_X8_setPeg_0_ok (i := 5) 1 rfl k_iconstv_1 ?_
    refine g_iload_n C tb_X8_setPeg_0_ok (i := 6) rfl rfl ?_
    refine g_ishl C tb_X8_setPeg_0_ok (i := 7) rfl ?_
    refine g_ior C tb_X8_setPeg_0_ok (i := 8) rfl ?_
    refine g_goto C tb_X8_setPeg_0_ok (i := 9) 26 rfl rfl ?_
    exact g_less (L' := [some (.ref a0), some (.int a1), some (.int a2)]) ⟨rfl, ⟨rfl, ⟨rfl, trivial⟩⟩⟩ (J26 ((M.1 a0 7) ||| ((1 : Int32) <<< (a1 &&& 31))) h)
def f_X2_readPegs (y : Lay) (a0 : Nat) (M : Mem) : Option (Int32 × Mem) := gK y a0 (0, 2) (gN (y.2.1 a0 0) (gK y (y.2.1 a0 0) (0, 10) (c0 (f_X10_advance y (y.2.1 a0 0) M) fun (r4 : Int32) (M5 : Mem) => gN (y.2.1 a0 3) (gK y (y.2.1 a0 3) (0, 8) (c0 (f_X2_readCell y a0 (M5.1 (y.2.1 a0 3) 7) M5) fun (r8 : Int32) (M9 : Mem) => br (r8 = ((-1) : Int32)) (some ((0 : Int32), M9)) (c0 (f_X8_setPeg y (y.2.1 a0 3) r8 (1 : Int32) M9) fun (r12 : Int32) (M13 : Mem) => fixN (fun _ _ => none) (fun (s16 : Int32 → Mem → Option (Int32 × Mem)) (v14 : Int32) (M15 : Mem) => jn (fun (_u : Unit) => c0 (f_X10_passes y (y.2.1 a0 0) (59 : Int32) M15) fun (r19 : Int32) (M20 : Mem) => gd (r19 = 0 ∨ r19 = 1) (some (r19, M20))) fun j18 => br ((700 : Int32) ≤ v14) (j18 ()) (br ((M15.1 (y.2.1 a0 0) 2) = ((-3) : Int32)) (c0 (f_X2_readCell y a0 (M15.1 (y.2.1 a0 3) 7) M15) fun (r25 : Int32) (M26 : Mem) => br (r25 = ((-1) : Int32)) (some ((0 : Int32), M26)) (c0 (f_X8_setPeg y (y.2.1 a0 3) r25 (1 : Int32) M26) fun (r29 : Int32) (M30 : Mem) => lt (v14 + (1 : Int32)) fun (v31 : Int32) => s16 v31 M30)) (j18 ()))) FUEL (0 : Int32) M13))))))
theorem w_X2_readPegs {g : GX} {l : Launch} (hG : GF g l) (y : Lay) (a0 : Nat) (M : Mem) : C0 g l yX2_readPegs cX2_readPegs 3 (some .boolean) 3 y [.ref a0] M (f_X2_readPegs y a0 M) := by
  refine C0_of hG (by decide) [some (.ref a0), none, none] rfl rfl (fun out h x Q C R => ?_)
  unfold f_X2_readPegs at h
  refine g_aload_n C tb_X2_readPegs_0_ok (i := 0) rfl rfl ?_
  obtain ⟨k1, h⟩ := gK_e h
  obtain ⟨n2, h⟩ := gN_e h
  refine g_getR C tb_X2_readPegs_0_ok (i := 1) rfl fl_X2_32 rfl k1 n2 ?_
  obtain ⟨k3, h⟩ := gK_e h
  obtain ⟨r4, M5, er4, h⟩ := c0_e h
  refine g_callV0 C tb_X2_readPegs_0_ok (i := 2) [] rfl mw_X10_advance mv_X10_advance ml_X2_149 k3 rfl rfl rfl rfl (w_X10_advance C.G y (y.2.1 a0 0) M) er4 rfl rfl rfl ?_
  refine g_aload_n C tb_X2_readPegs_0_ok (i := 3) rfl rfl ?_
  refine g_aload_n C tb_X2_readPegs_0_ok (i := 4) rfl rfl ?_
  obtain ⟨n6, h⟩ := gN_e h
  refine g_getR C tb_X2_readPegs_0_ok (i := 5) rfl fl_X2_23 rfl k1 n6 ?_
  obtain ⟨k7, h⟩ := gK_e h
  refine g_getI C tb_X2_readPegs_0_ok (i := 6) rfl fl_X2_171 rfl k7 ?_
  obtain ⟨r8, M9, er8, h⟩ := c0_e h
  refine g_callV0 C tb_X2_readPegs_0_ok (i := 7) [.int (M5.1 (y.2.1 a0 3) 7)] rfl mw_X2_readCell mv_X2_readCell ml_X2_152 k1 rfl rfl rfl rfl (w_X2_readCell C.G y a0 (M5.1 (y.2.1 a0 3) 7) M5) er8 rfl rfl rfl ?_
  refine g_istore_n C tb_X2_readPegs_0_ok (i := 8) rfl rfl rfl ?_
  refine g_iload_n C tb_X2_readPegs_0_ok (i := 9) rfl rfl ?_
  refine g_iconstv C tb_X2_readPegs_0_ok (i := 10) (-1) rfl k_iconstv_m1 ?_
  obtain ⟨t10, f11⟩ := br_e h
  refine g_icmp_ne C tb_X2_readPegs_0_ok (i := 11) 26 rfl rfl (fun c => ?_) (fun c => ?_)
  · have h := f11 c
    refine g_aload_n C tb_X2_readPegs_0_ok (i := 14) rfl rfl ?_
    refine g_getR C tb_X2_readPegs_0_ok (i := 15) rfl fl_X2_23 rfl k1 n6 ?_
    refine g_iload_n C tb_X2_readPegs_0_ok (i := 16) rfl rfl ?_
    refine g_iconstv C tb_X2_readPegs_0_ok (i := 17) 1 rfl k_iconstv_1 ?_
    obtain ⟨r12, M13, er12, h⟩ := c0_e h
    refine g_callV0 C tb_X2_readPegs_0_ok (i := 18) [.int r8, .int (1 : Int32)] rfl mw_X8_setPeg mv_X8_setPeg ml_X2_174 k7 rfl rfl rfl rfl (w_X8_setPeg C.G y (y.2.1 a0 3) r8 (1 : Int32) M9) er12 rfl rfl rfl ?_
    refine g_iconstv C tb_X2_readPegs_0_ok (i := 19) 0 rfl k_iconstv_0 ?_
    refine g_istore_n C tb_X2_readPegs_0_ok (i := 20) rfl rfl rfl ?_
    refine g_less (L' := [some (.ref a0), none, some (.int (0 : Int32))]) ⟨rfl, ⟨rfl, trivial⟩⟩ ?_
    refine fix_i (P := fun (f : Int32 → Mem → Option (Int32 × Mem)) => ∀ (v14 : Int32) (M15 : Mem), f v14 M15 = some out → GG g x 3 Q 0 0 y M15 37 [some (.ref a0), none, some (.int v14)] []) ?_ ?_ _ (0 : Int32) M13 h
    · intro v14 M15 h; exact (nn_e h).elim
    · intro s16 ih17 v14 M15 h
      refine g_iload_n C tb_X2_readPegs_0_ok (i := 21) rfl rfl ?_
      refine g_sipushv C tb_X2_readPegs_0_ok (i := 22) 700 rfl k_sipushv_700 ?_
      obtain ⟨j18, ej18, h⟩ := jn_e h
      have J90 : ∀ (_u : Unit), j18 _u = some out → GG g x 3 Q 0 0 y M15 90 [some (.ref a0), none, none] [] := by
        intro _u h; subst ej18
        refine g_aload_n C tb_X2_readPegs_1_ok (i := 7) rfl rfl ?_
        refine g_getR C tb_X2_readPegs_1_ok (i := 8) rfl fl_X2_32 rfl k1 n2 ?_
        refine g_bipushv C tb_X2_readPegs_1_ok (i := 9) 59 rfl k_bipushv_59 ?_
        obtain ⟨r19, M20, er19, h⟩ := c0_e h
        refine g_callV0 C tb_X2_readPegs_1_ok (i := 10) [.int (59 : Int32)] rfl mw_X10_passes mv_X10_passes ml_X2_146 k3 rfl rfl rfl rfl (w_X10_passes C.G y (y.2.1 a0 0) (59 : Int32) M15) er19 rfl rfl rfl ?_
        obtain ⟨hz, h⟩ := gd_e h
        cases h
        exact g_zret0 C R hz tb_X2_readPegs_1_ok (i := 11) rfl
      obtain ⟨t21, f22⟩ := br_e h
      refine g_icmp_ge C tb_X2_readPegs_0_ok (i := 23) 90 rfl rfl (fun c => ?_) (fun c => ?_)
      · have h := t21 c
        exact g_less (L' := [some (.ref a0), none, none]) ⟨rfl, trivial⟩ (J90 () h)
      · have h := f22 c
        refine g_aload_n C tb_X2_readPegs_0_ok (i := 24) rfl rfl ?_
        refine g_getR C tb_X2_readPegs_0_ok (i := 25) rfl fl_X2_32 rfl k1 n2 ?_
        refine g_getI C tb_X2_readPegs_0_ok (i := 26) rfl fl_X2_67 rfl k3 ?_
        refine g_bipushv C tb_X2_readPegs_0_ok (i := 27) (-3) rfl k_bipushv_m3 ?_
        obtain ⟨t23, f24⟩ := br_e h
        refine g_icmp_ne C tb_X2_readPegs_0_ok (i := 28) 90 rfl rfl (fun c => ?_) (fun c => ?_)
        · have h := f24 c
          exact g_less (L' := [some (.ref a0), none, none]) ⟨rfl, trivial⟩ (J90 () h)
        · have h := t23 c
          refine g_aload_n C tb_X2_readPegs_0_ok (i := 29) rfl rfl ?_
          refine g_aload_n C tb_X2_readPegs_0_ok (i := 30) rfl rfl ?_
          refine g_getR C tb_X2_readPegs_0_ok (i := 31) rfl fl_X2_23 rfl k1 n6 ?_
          refine g_getI C tb_X2_readPegs_0_ok (i := 32) rfl fl_X2_171 rfl k7 ?_
          obtain ⟨r25, M26, er25, h⟩ := c0_e h
          refine g_callV0 C tb_X2_readPegs_0_ok (i := 33) [.int (M15.1 (y.2.1 a0 3) 7)] rfl mw_X2_readCell mv_X2_readCell ml_X2_152 k1 rfl rfl rfl rfl (w_X2_readCell C.G y a0 (M15.1 (y.2.1 a0 3) 7) M15) er25 rfl rfl rfl ?_
          refine g_istore_n C tb_X2_readPegs_0_ok (i := 34) rfl rfl rfl ?_
          refine g_iload_n C tb_X2_readPegs_0_ok (i := 35) rfl rfl ?_
          refine g_iconstv C tb_X2_readPegs_0_ok (i := 36) (-1) rfl k_iconstv_m1 ?_
          obtain ⟨t27, f28⟩ := br_e h
          refine g_icmp_ne C tb_X2_readPegs_0_ok (i := 37) 75 rfl rfl (fun c => ?_) (fun c => ?_)
          · have h := f28 c
            refine g_aload_n C tb_X2_readPegs_1_ok (i := 0) rfl rfl ?_
            refine g_getR C tb_X2_readPegs_1_ok (i := 1) rfl fl_X2_23 rfl k1 n6 ?_
            refine g_iload_n C tb_X2_readPegs_1_ok (i := 2) rfl rfl ?_
            refine g_iconstv C tb_X2_readPegs_1_ok (i := 3) 1 rfl k_iconstv_1 ?_
            obtain ⟨r29, M30, er29, h⟩ := c0_e h
            refine g_callV0 C tb_X2_readPegs_1_ok (i := 4) [.int r25, .int (1 : Int32)] rfl mw_X8_setPeg mv_X8_setPeg ml_X2_174 k7 rfl rfl rfl rfl (w_X8_setPeg C.G y (y.2.1 a0 3) r25 (1 : Int32) M26) er29 rfl rfl rfl ?_
            obtain ⟨v31, ev31⟩ : ∃ w : Int32, w = v14 + (1 : Int32) := ⟨_, rfl⟩
            have h := lt_e ev31 h
            refine g_iincv C tb_X2_readPegs_1_ok (i := 5) (1 : Int32) ev31 rfl rfl k_iconstv_1 rfl rfl ?_
            refine g_goto C tb_X2_readPegs_1_ok (i := 6) 37 rfl rfl ?_
            exact g_less (L' := [some (.ref a0), none, some (.int v31)]) ⟨rfl, ⟨rfl, trivial⟩⟩ (ih17 v31 M30 h)
          · have h := t27 c
            refine g_iconstv C tb_X2_readPegs_0_ok (i := 38) 0 rfl k_iconstv_0 ?_
            cases h
            exact g_zret0 C R (by decide) tb_X2_readPegs_0_ok (i := 39) rfl
  · have h := t10 c
    refine g_iconstv C tb_X2_readPegs_0_ok (i := 12) 0 rfl k_iconstv_0 ?_
    cases h
    exact g_zret0 C R (by decide) tb_X2_readPegs_0_ok (i := 13) rfl
def f_X2_readKnobs (y : Lay) (a0 : Nat) (M : Mem) : Option (Int32 × Mem) := gK y a0 (0, 2) (c0 (f_X2_passesOnce y a0 (2 : Int32) M) fun (r2 : Int32) (M3 : Mem) => br (r2 = 0) (some ((0 : Int32), M3)) (c0 (f_X2_readNumber y a0 (0 : Int32) (99 : Int32) M3) fun (r6 : Int32) (M7 : Mem) => br (r6 = ((-1) : Int32)) (some ((0 : Int32), M7)) (gN (y.2.1 a0 3) (gK y (y.2.1 a0 3) (0, 8) (lt (wI M7 (y.2.1 a0 3) 9 r6) fun (M12 : Mem) => gN (y.2.1 a0 0) (gK y (y.2.1 a0 0) (0, 10) (c0 (f_X10_passes y (y.2.1 a0 0) (59 : Int32) M12) fun (r15 : Int32) (M16 : Mem) => gd (r15 = 0 ∨ r15 = 1) (some (r15, M16)))))))))
theorem w_X2_readKnobs {g : GX} {l : Launch} (hG : GF g l) (y : Lay) (a0 : Nat) (M : Mem) : C0 g l yX2_readKnobs cX2_readKnobs 2 (some .boolean) 3 y [.ref a0] M (f_X2_readKnobs y a0 M) := by
  refine C0_of hG (by decide) [some (.ref a0), none] rfl rfl (fun out h x Q C R => ?_)
  unfold f_X2_readKnobs at h
  refine g_aload_n C tb_X2_readKnobs_0_ok (i := 0) rfl rfl ?_
  refine g_iconstv C tb_X2_readKnobs_0_ok (i := 1) 2 rfl k_iconstv_2 ?_
  obtain ⟨k1, h⟩ := gK_e h
  obtain ⟨r2, M3, er2, h⟩ := c0_e h
  refine g_callV0 C tb_X2_readKnobs_0_ok (i := 2) [.int (2 : Int32)] rfl mw_X2_passesOnce mv_X2_passesOnce ml_X2_135 k1 rfl rfl rfl rfl (w_X2_passesOnce C.G y a0 (2 : Int32) M) er2 rfl rfl rfl ?_
  obtain ⟨t4, f5⟩ := br_e h
  refine g_if_ne C tb_X2_readKnobs_0_ok (i := 3) 10 rfl rfl (fun c => ?_) (fun c => ?_)
  · have h := f5 c
    refine g_aload_n C tb_X2_readKnobs_0_ok (i := 6) rfl rfl ?_
    refine g_iconstv C tb_X2_readKnobs_0_ok (i := 7) 0 rfl k_iconstv_0 ?_
    refine g_bipushv C tb_X2_readKnobs_0_ok (i := 8) 99 rfl k_bipushv_99 ?_
    obtain ⟨r6, M7, er6, h⟩ := c0_e h
    refine g_callV0 C tb_X2_readKnobs_0_ok (i := 9) [.int (0 : Int32), .int (99 : Int32)] rfl mw_X2_readNumber mv_X2_readNumber ml_X2_138 k1 rfl rfl rfl rfl (w_X2_readNumber C.G y a0 (0 : Int32) (99 : Int32) M3) er6 rfl rfl rfl ?_
    refine g_istore_n C tb_X2_readKnobs_0_ok (i := 10) rfl rfl rfl ?_
    refine g_iload_n C tb_X2_readKnobs_0_ok (i := 11) rfl rfl ?_
    refine g_iconstv C tb_X2_readKnobs_0_ok (i := 12) (-1) rfl k_iconstv_m1 ?_
    obtain ⟨t8, f9⟩ := br_e h
    refine g_icmp_ne C tb_X2_readKnobs_0_ok (i := 13) 25 rfl rfl (fun c => ?_) (fun c => ?_)
    · have h := f9 c
      refine g_aload_n C tb_X2_readKnobs_0_ok (i := 16) rfl rfl ?_
      obtain ⟨n10, h⟩ := gN_e h
      refine g_getR C tb_X2_readKnobs_0_ok (i := 17) rfl fl_X2_23 rfl k1 n10 ?_
      refine g_iload_n C tb_X2_readKnobs_0_ok (i := 18) rfl rfl ?_
      obtain ⟨k11, h⟩ := gK_e h
      refine g_putI C tb_X2_readKnobs_0_ok (i := 19) rfl fl_X2_178 ft_8_9 rfl k11 ?_
      refine g_mem (fun M12 eM12 => ?_)
      have h := lt_e eM12 h
      refine g_aload_n C tb_X2_readKnobs_0_ok (i := 20) rfl rfl ?_
      obtain ⟨n13, h⟩ := gN_e h
      refine g_getR C tb_X2_readKnobs_0_ok (i := 21) rfl fl_X2_32 rfl k1 n13 ?_
      refine g_bipushv C tb_X2_readKnobs_0_ok (i := 22) 59 rfl k_bipushv_59 ?_
      obtain ⟨k14, h⟩ := gK_e h
      obtain ⟨r15, M16, er15, h⟩ := c0_e h
      refine g_callV0 C tb_X2_readKnobs_0_ok (i := 23) [.int (59 : Int32)] rfl mw_X10_passes mv_X10_passes ml_X2_146 k14 rfl rfl rfl rfl (w_X10_passes C.G y (y.2.1 a0 0) (59 : Int32) M12) er15 rfl rfl rfl ?_
      obtain ⟨hz, h⟩ := gd_e h
      cases h
      exact g_zret0 C R hz tb_X2_readKnobs_0_ok (i := 24) rfl
    · have h := t8 c
      refine g_iconstv C tb_X2_readKnobs_0_ok (i := 14) 0 rfl k_iconstv_0 ?_
      cases h
      exact g_zret0 C R (by decide) tb_X2_readKnobs_0_ok (i := 15) rfl
  · have h := t4 c
    refine g_iconstv C tb_X2_readKnobs_0_ok (i := 4) 0 rfl k_iconstv_0 ?_
    cases h
    exact g_zret0 C R (by decide) tb_X2_readKnobs_0_ok (i := 5) rfl
def f_X2_readRinse (y : Lay) (a0 : Nat) (M : Mem) : Option (Int32 × Mem) := gK y a0 (0, 2) (c0 (f_X2_passesOnce y a0 (4 : Int32) M) fun (r2 : Int32) (M3 : Mem) => br (r2 = 0) (some ((0 : Int32), M3)) (c0 (f_X2_readNumber y a0 (0 : Int32) (20 : Int32) M3) fun (r6 : Int32) (M7 : Mem) => br (r6 = ((-1) : Int32)) (some ((0 : Int32), M7)) (gN (y.2.1 a0 2) (gK y (y.2.1 a0 2) (0, 1) (lt (wI M7 (y.2.1 a0 2) 2 r6) fun (M12 : Mem) => gN (y.2.1 a0 0) (gK y (y.2.1 a0 0) (0, 10) (c0 (f_X10_passes y (y.2.1 a0 0) (59 : Int32) M12) fun (r15 : Int32) (M16 : Mem) => gd (r15 = 0 ∨ r15 = 1) (some (r15, M16)))))))))
theorem w_X2_readRinse {g : GX} {l : Launch} (hG : GF g l) (y : Lay) (a0 : Nat) (M : Mem) : C0 g l yX2_readRinse cX2_readRinse 2 (some .boolean) 3 y [.ref a0] M (f_X2_readRinse y a0 M) := by
  refine C0_of hG (by decide) [some (.ref a0), none] rfl rfl (fun out h x Q C R => ?_)
  unfold f_X2_readRinse at h
  refine g_aload_n C tb_X2_readRinse_0_ok (i := 0) rfl rfl ?_
  refine g_iconstv C tb_X2_readRinse_0_ok (i := 1) 4 rfl k_iconstv_4 ?_
  obtain ⟨k1, h⟩ := gK_e h
  obtain ⟨r2, M3, er2, h⟩ := c0_e h
  refine g_callV0 C tb_X2_readRinse_0_ok (i := 2) [.int (4 : Int32)] rfl mw_X2_passesOnce mv_X2_passesOnce ml_X2_135 k1 rfl rfl rfl rfl (w_X2_passesOnce C.G y a0 (4 : Int32) M) er2 rfl rfl rfl ?_
  obtain ⟨t4, f5⟩ := br_e h
  refine g_if_ne C tb_X2_readRinse_0_ok (i := 3) 10 rfl rfl (fun c => ?_) (fun c => ?_)
  · have h := f5 c
    refine g_aload_n C tb_X2_readRinse_0_ok (i := 6) rfl rfl ?_
    refine g_iconstv C tb_X2_readRinse_0_ok (i := 7) 0 rfl k_iconstv_0 ?_
    refine g_bipushv C tb_X2_readRinse_0_ok (i := 8) 20 rfl k_bipushv_20 ?_
    obtain ⟨r6, M7, er6, h⟩ := c0_e h
    refine g_callV0 C tb_X2_readRinse_0_ok (i := 9) [.int (0 : Int32), .int (20 : Int32)] rfl mw_X2_readNumber mv_X2_readNumber ml_X2_138 k1 rfl rfl rfl rfl (w_X2_readNumber C.G y a0 (0 : Int32) (20 : Int32) M3) er6 rfl rfl rfl ?_
    refine g_istore_n C tb_X2_readRinse_0_ok (i := 10) rfl rfl rfl ?_
    refine g_iload_n C tb_X2_readRinse_0_ok (i := 11) rfl rfl ?_
    refine g_iconstv C tb_X2_readRinse_0_ok (i := 12) (-1) rfl k_iconstv_m1 ?_
    obtain ⟨t8, f9⟩ := br_e h
    refine g_icmp_ne C tb_X2_readRinse_0_ok (i := 13) 25 rfl rfl (fun c => ?_) (fun c => ?_)
    · have h := f9 c
      refine g_aload_n C tb_X2_readRinse_0_ok (i := 16) rfl rfl ?_
      obtain ⟨n10, h⟩ := gN_e h
      refine g_getR C tb_X2_readRinse_0_ok (i := 17) rfl fl_X2_12 rfl k1 n10 ?_
      refine g_iload_n C tb_X2_readRinse_0_ok (i := 18) rfl rfl ?_
      obtain ⟨k11, h⟩ := gK_e h
      refine g_putI C tb_X2_readRinse_0_ok (i := 19) rfl fl_X2_180 ft_1_2 rfl k11 ?_
      refine g_mem (fun M12 eM12 => ?_)
      have h := lt_e eM12 h
      refine g_aload_n C tb_X2_readRinse_0_ok (i := 20) rfl rfl ?_
      obtain ⟨n13, h⟩ := gN_e h
      refine g_getR C tb_X2_readRinse_0_ok (i := 21) rfl fl_X2_32 rfl k1 n13 ?_
      refine g_bipushv C tb_X2_readRinse_0_ok (i := 22) 59 rfl k_bipushv_59 ?_
      obtain ⟨k14, h⟩ := gK_e h
      obtain ⟨r15, M16, er15, h⟩ := c0_e h
      refine g_callV0 C tb_X2_readRinse_0_ok (i := 23) [.int (59 : Int32)] rfl mw_X10_passes mv_X10_passes ml_X2_146 k14 rfl rfl rfl rfl (w_X10_passes C.G y (y.2.1 a0 0) (59 : Int32) M12) er15 rfl rfl rfl ?_
      obtain ⟨hz, h⟩ := gd_e h
      cases h
      exact g_zret0 C R hz tb_X2_readRinse_0_ok (i := 24) rfl
    · have h := t8 c
      refine g_iconstv C tb_X2_readRinse_0_ok (i := 14) 0 rfl k_iconstv_0 ?_
      cases h
      exact g_zret0 C R (by decide) tb_X2_readRinse_0_ok (i := 15) rfl
  · have h := t4 c
    refine g_iconstv C tb_X2_readRinse_0_ok (i := 4) 0 rfl k_iconstv_0 ?_
    cases h
    exact g_zret0 C R (by decide) tb_X2_readRinse_0_ok (i := 5) rfl
def f_X2_readBound (y : Lay) (a0 : Nat) (M : Mem) : Option (Int32 × Mem) := gK y a0 (0, 2) (c0 (f_X2_passesOnce y a0 (8 : Int32) M) fun (r2 : Int32) (M3 : Mem) => br (r2 = 0) (some ((0 : Int32), M3)) (c0 (f_X2_readNumber y a0 (1 : Int32) (99 : Int32) M3) fun (r6 : Int32) (M7 : Mem) => br (r6 = ((-1) : Int32)) (some ((0 : Int32), M7)) (gN (y.2.1 a0 2) (gK y (y.2.1 a0 2) (0, 1) (lt (wI M7 (y.2.1 a0 2) 3 r6) fun (M12 : Mem) => gN (y.2.1 a0 0) (gK y (y.2.1 a0 0) (0, 10) (c0 (f_X10_passes y (y.2.1 a0 0) (59 : Int32) M12) fun (r15 : Int32) (M16 : Mem) => gd (r15 = 0 ∨ r15 = 1) (some (r15, M16)))))))))
theorem w_X2_readBound {g : GX} {l : Launch} (hG : GF g l) (y : Lay) (a0 : Nat) (M : Mem) : C0 g l yX2_readBound cX2_readBound 2 (some .boolean) 3 y [.ref a0] M (f_X2_readBound y a0 M) := by
  refine C0_of hG (by decide) [some (.ref a0), none] rfl rfl (fun out h x Q C R => ?_)
  unfold f_X2_readBound at h
  refine g_aload_n C tb_X2_readBound_0_ok (i := 0) rfl rfl ?_
  refine g_bipushv C tb_X2_readBound_0_ok (i := 1) 8 rfl k_bipushv_8 ?_
  obtain ⟨k1, h⟩ := gK_e h
  obtain ⟨r2, M3, er2, h⟩ := c0_e h
  refine g_callV0 C tb_X2_readBound_0_ok (i := 2) [.int (8 : Int32)] rfl mw_X2_passesOnce mv_X2_passesOnce ml_X2_135 k1 rfl rfl rfl rfl (w_X2_passesOnce C.G y a0 (8 : Int32) M) er2 rfl rfl rfl ?_
  obtain ⟨t4, f5⟩ := br_e h
  refine g_if_ne C tb_X2_readBound_0_ok (i := 3) 11 rfl rfl (fun c => ?_) (fun c => ?_)
  · have h := f5 c
    refine g_aload_n C tb_X2_readBound_0_ok (i := 6) rfl rfl ?_
    refine g_iconstv C tb_X2_readBound_0_ok (i := 7) 1 rfl k_iconstv_1 ?_
    refine g_bipushv C tb_X2_readBound_0_ok (i := 8) 99 rfl k_bipushv_99 ?_
    obtain ⟨r6, M7, er6, h⟩ := c0_e h
    refine g_callV0 C tb_X2_readBound_0_ok (i := 9) [.int (1 : Int32), .int (99 : Int32)] rfl mw_X2_readNumber mv_X2_readNumber ml_X2_138 k1 rfl rfl rfl rfl (w_X2_readNumber C.G y a0 (1 : Int32) (99 : Int32) M3) er6 rfl rfl rfl ?_
    refine g_istore_n C tb_X2_readBound_0_ok (i := 10) rfl rfl rfl ?_
    refine g_iload_n C tb_X2_readBound_0_ok (i := 11) rfl rfl ?_
    refine g_iconstv C tb_X2_readBound_0_ok (i := 12) (-1) rfl k_iconstv_m1 ?_
    obtain ⟨t8, f9⟩ := br_e h
    refine g_icmp_ne C tb_X2_readBound_0_ok (i := 13) 26 rfl rfl (fun c => ?_) (fun c => ?_)
    · have h := f9 c
      refine g_aload_n C tb_X2_readBound_0_ok (i := 16) rfl rfl ?_
      obtain ⟨n10, h⟩ := gN_e h
      refine g_getR C tb_X2_readBound_0_ok (i := 17) rfl fl_X2_12 rfl k1 n10 ?_
      refine g_iload_n C tb_X2_readBound_0_ok (i := 18) rfl rfl ?_
      obtain ⟨k11, h⟩ := gK_e h
      refine g_putI C tb_X2_readBound_0_ok (i := 19) rfl fl_X2_182 ft_1_3 rfl k11 ?_
      refine g_mem (fun M12 eM12 => ?_)
      have h := lt_e eM12 h
      refine g_aload_n C tb_X2_readBound_0_ok (i := 20) rfl rfl ?_
      obtain ⟨n13, h⟩ := gN_e h
      refine g_getR C tb_X2_readBound_0_ok (i := 21) rfl fl_X2_32 rfl k1 n13 ?_
      refine g_bipushv C tb_X2_readBound_0_ok (i := 22) 59 rfl k_bipushv_59 ?_
      obtain ⟨k14, h⟩ := gK_e h
      obtain ⟨r15, M16, er15, h⟩ := c0_e h
      refine g_callV0 C tb_X2_readBound_0_ok (i := 23) [.int (59 : Int32)] rfl mw_X10_passes mv_X10_passes ml_X2_146 k14 rfl rfl rfl rfl (w_X10_passes C.G y (y.2.1 a0 0) (59 : Int32) M12) er15 rfl rfl rfl ?_
      obtain ⟨hz, h⟩ := gd_e h
      cases h
      exact g_zret0 C R hz tb_X2_readBound_0_ok (i := 24) rfl
    · have h := t8 c
      refine g_iconstv C tb_X2_readBound_0_ok (i := 14) 0 rfl k_iconstv_0 ?_
      cases h
      exact g_zret0 C R (by decide) tb_X2_readBound_0_ok (i := 15) rfl
  · have h := t4 c
    refine g_iconstv C tb_X2_readBound_0_ok (i := 4) 0 rfl k_iconstv_0 ?_
    cases h
    exact g_zret0 C R (by decide) tb_X2_readBound_0_ok (i := 5) rfl
def f_X6_begin (y : Lay) (a0 : Nat) (a1 : Nat) (a2 : Int32) (M : Mem) : Option (Int32 × Mem) := gK y a0 (0, 6) (gN a1 (lt (wR M a0 1 a1) fun (M3 : Mem) => gd (a2 = 0 ∨ a2 = 1) (lt (wI M3 a0 2 a2) fun (M5 : Mem) => gN (M5.2.2 a0 1) (gK y (M5.2.2 a0 1) (0, 5) (c0 (f_X5_clear y (M5.2.2 a0 1) M5) fun (r8 : Int32) (M9 : Mem) => some (0, M9))))))
theorem w_X6_begin {g : GX} {l : Launch} (hG : GF g l) (y : Lay) (a0 : Nat) (a1 : Nat) (a2 : Int32) (M : Mem) : C0 g l yX6_begin cX6_begin 3 none 1 y [.ref a0, .ref a1, .int a2] M (f_X6_begin y a0 a1 a2 M) := by
  refine C0_of hG (by decide) [some (.ref a0), some (.ref a1), some (.int a2)] rfl rfl (fun out h x Q C R => ?_)
  unfold f_X6_begin at h
  refine g_aload_n C tb_X6_begin_0_ok (i := 0) rfl rfl ?_
  refine g_aload_n C tb_X6_begin_0_ok (i := 1) rfl rfl ?_
  obtain ⟨k1, h⟩ := gK_e h
  obtain ⟨n2, h⟩ := gN_e h
  refine g_putM C tb_X6_begin_0_ok (i := 2) rfl fl_X6_15 ft_6_1 (Or.inl ⟨_, rfl⟩) rfl n2 k1 ?_
  refine g_mem (fun M3 eM3 => ?_)
  have h := lt_e eM3 h
  refine g_aload_n C tb_X6_begin_0_ok (i := 3) rfl rfl ?_
  refine g_iload_n C tb_X6_begin_0_ok (i := 4) rfl rfl ?_
  obtain ⟨z4, h⟩ := gd_e h
  refine g_putZ C tb_X6_begin_0_ok (i := 5) rfl fl_X6_19 ft_6_2 rfl z4 k1 ?_
  refine g_mem (fun M5 eM5 => ?_)
  have h := lt_e eM5 h
  refine g_aload_n C tb_X6_begin_0_ok (i := 6) rfl rfl ?_
  obtain ⟨n6, h⟩ := gN_e h
  refine g_getM C tb_X6_begin_0_ok (i := 7) rfl fl_X6_15 rfl k1 n6 ?_
  obtain ⟨k7, h⟩ := gK_e h
  obtain ⟨r8, M9, er8, h⟩ := c0_e h
  refine g_callV0 C tb_X6_begin_0_ok (i := 8) [] rfl mw_X5_clear mv_X5_clear ml_X6_23 k7 rfl rfl rfl rfl (w_X5_clear C.G y (M5.2.2 a0 1) M5) er8 rfl rfl rfl ?_
  cases h
  exact g_vret0 C R tb_X6_begin_0_ok (i := 9) rfl
def f_X5_put (y : Lay) (a0 : Nat) (a1 : Int32) (M : Mem) : Option (Int32 × Mem) := gK y a0 (0, 5) (jn (fun (M2 : Mem) => some (0, M2)) fun j3 => br ((M.1 a0 2) < 0) (j3 M) (gN (y.2.1 a0 0) (gT y (y.2.1 a0 0) 1 (br ((Int32.ofNat (kd y (y.2.1 a0 0)).2) ≤ (M.1 a0 2)) (j3 M) (gA y (y.2.1 a0 0) 1 (M.1 a0 2) (lt (wI M (y.2.1 a0 0) (M.1 a0 2).toNatClampNeg a1) fun (M11 : Mem) => lt (wI M11 a0 2 ((M11.1 a0 2) + (1 : Int32))) fun (M12 : Mem) => j3 M12))))))
theorem w_X5_put {g : GX} {l : Launch} (hG : GF g l) (y : Lay) (a0 : Nat) (a1 : Int32) (M : Mem) : C0 g l yX5_put cX5_put 2 none 0 y [.ref a0, .int a1] M (f_X5_put y a0 a1 M) := by
  refine C0_of hG (by decide) [some (.ref a0), some (.int a1)] rfl rfl (fun out h x Q C R => ?_)
  unfold f_X5_put at h
  refine g_aload_n C tb_X5_put_0_ok (i := 0) rfl rfl ?_
  obtain ⟨k1, h⟩ := gK_e h
  refine g_getI C tb_X5_put_0_ok (i := 1) rfl fl_X5_18 rfl k1 ?_
  obtain ⟨j3, ej3, h⟩ := jn_e h
  have J39 : ∀ (M2 : Mem), j3 M2 = some out → GG g x 2 Q 0 0 y M2 39 [none, none] [] := by
    intro M2 h; subst ej3
    cases h
    exact g_vret0 C R tb_X5_put_0_ok (i := 21) rfl
  obtain ⟨t4, f5⟩ := br_e h
  refine g_if_lt C tb_X5_put_0_ok (i := 2) 39 rfl rfl (fun c => ?_) (fun c => ?_)
  · have h := t4 c
    exact g_less (L' := [none, none]) trivial (J39 M h)
  · have h := f5 c
    refine g_aload_n C tb_X5_put_0_ok (i := 3) rfl rfl ?_
    refine g_getI C tb_X5_put_0_ok (i := 4) rfl fl_X5_18 rfl k1 ?_
    refine g_aload_n C tb_X5_put_0_ok (i := 5) rfl rfl ?_
    obtain ⟨n6, h⟩ := gN_e h
    refine g_getR C tb_X5_put_0_ok (i := 6) rfl fl_X5_9 rfl k1 n6 ?_
    obtain ⟨b7, h⟩ := gT_e h
    refine g_alen C tb_X5_put_0_ok (i := 7) rfl b7 (by decide) ?_
    obtain ⟨t8, f9⟩ := br_e h
    refine g_icmp_ge C tb_X5_put_0_ok (i := 8) 39 rfl rfl (fun c => ?_) (fun c => ?_)
    · have h := t8 c
      exact g_less (L' := [none, none]) trivial (J39 M h)
    · have h := f9 c
      refine g_aload_n C tb_X5_put_0_ok (i := 9) rfl rfl ?_
      refine g_getR C tb_X5_put_0_ok (i := 10) rfl fl_X5_9 rfl k1 n6 ?_
      refine g_aload_n C tb_X5_put_0_ok (i := 11) rfl rfl ?_
      refine g_getI C tb_X5_put_0_ok (i := 12) rfl fl_X5_18 rfl k1 ?_
      refine g_iload_n C tb_X5_put_0_ok (i := 13) rfl rfl ?_
      obtain ⟨b10, h⟩ := gA_e h
      refine g_iast C tb_X5_put_0_ok (i := 14) rfl b10 ?_
      refine g_mem (fun M11 eM11 => ?_)
      have h := lt_e eM11 h
      refine g_aload_n C tb_X5_put_0_ok (i := 15) rfl rfl ?_
      refine g_dup C tb_X5_put_0_ok (i := 16) rfl rfl ?_
      refine g_getI C tb_X5_put_0_ok (i := 17) rfl fl_X5_18 rfl k1 ?_
      refine g_iconstv C tb_X5_put_0_ok (i := 18) 1 rfl k_iconstv_1 ?_
      refine g_iadd C tb_X5_put_0_ok (i := 19) rfl ?_
      refine g_putI C tb_X5_put_0_ok (i := 20) rfl fl_X5_18 ft_5_2 rfl k1 ?_
      refine g_mem (fun M12 eM12 => ?_)
      have h := lt_e eM12 h
      exact g_less (L' := [none, none]) trivial (J39 M12 h)
def f_X6_valueHere (y : Lay) (a0 : Nat) (M : Mem) : Option Int32 := gK y a0 (0, 6) (gN (y.2.1 a0 0) (gK y (y.2.1 a0 0) (0, 10) (cp (f_X10_isWord y (y.2.1 a0 0) 1010 M) fun (r4 : Int32) => br (r4 = 0) (cp (f_X10_isWord y (y.2.1 a0 0) 1011 M) fun (r7 : Int32) => br (r7 = 0) (cp (f_X10_isWord y (y.2.1 a0 0) 1012 M) fun (r10 : Int32) => br (r10 = 0) (cp (f_X10_isWord y (y.2.1 a0 0) 1013 M) fun (r13 : Int32) => br (r13 = 0) (jn (fun (_u : Unit) => jn (fun (_u : Unit) => some ((-1) : Int32)) fun j17 => br ((M.1 a0 2) = 0) (j17 ()) (cp (f_X10_isWord y (y.2.1 a0 0) 1015 M) fun (r20 : Int32) => br (r20 = 0) (j17 ()) (some (5 : Int32)))) fun j16 => br ((M.1 a0 2) = 0) (j16 ()) (cp (f_X10_isWord y (y.2.1 a0 0) 1014 M) fun (r25 : Int32) => br (r25 = 0) (j16 ()) (some (4 : Int32)))) (some (3 : Int32))) (some (2 : Int32))) (some (1 : Int32))) (some (0 : Int32)))))
theorem w_X6_valueHere {g : GX} {l : Launch} (hG : GF g l) (y : Lay) (a0 : Nat) (M : Mem) : C0 g l yX6_valueHere cX6_valueHere 1 (some .int) 5 y [.ref a0] M (pm M (f_X6_valueHere y a0 M)) := by
  refine CP_of hG (by decide) [some (.ref a0)] rfl rfl (fun out h x Q C R => ?_)
  unfold f_X6_valueHere at h
  refine g_aload_n C tb_X6_valueHere_0_ok (i := 0) rfl rfl ?_
  obtain ⟨k1, h⟩ := gK_e h
  obtain ⟨n2, h⟩ := gN_e h
  refine g_getR C tb_X6_valueHere_0_ok (i := 1) rfl fl_X6_9 rfl k1 n2 ?_
  refine g_ldcS C tb_X6_valueHere_0_ok (i := 2) (k := 10) (v := 1010) rfl rfl rfl (by decide) rfl ?_
  obtain ⟨k3, h⟩ := gK_e h
  obtain ⟨r4, er4, h⟩ := cp_e h
  refine g_callV0 C tb_X6_valueHere_0_ok (i := 3) [.ref 1010] rfl mw_X10_isWord mv_X10_isWord ml_X6_43 k3 rfl rfl rfl rfl (w_X10_isWord C.G y (y.2.1 a0 0) 1010 M) (pm_s er4) rfl rfl rfl ?_
  obtain ⟨t5, f6⟩ := br_e h
  refine g_if_eq C tb_X6_valueHere_0_ok (i := 4) 14 rfl rfl (fun c => ?_) (fun c => ?_)
  · have h := t5 c
    refine g_aload_n C tb_X6_valueHere_0_ok (i := 7) rfl rfl ?_
    refine g_getR C tb_X6_valueHere_0_ok (i := 8) rfl fl_X6_9 rfl k1 n2 ?_
    refine g_ldcS C tb_X6_valueHere_0_ok (i := 9) (k := 11) (v := 1011) rfl rfl rfl (by decide) rfl ?_
    obtain ⟨r7, er7, h⟩ := cp_e h
    refine g_callV0 C tb_X6_valueHere_0_ok (i := 10) [.ref 1011] rfl mw_X10_isWord mv_X10_isWord ml_X6_43 k3 rfl rfl rfl rfl (w_X10_isWord C.G y (y.2.1 a0 0) 1011 M) (pm_s er7) rfl rfl rfl ?_
    obtain ⟨t8, f9⟩ := br_e h
    refine g_if_eq C tb_X6_valueHere_0_ok (i := 11) 28 rfl rfl (fun c => ?_) (fun c => ?_)
    · have h := t8 c
      refine g_aload_n C tb_X6_valueHere_0_ok (i := 14) rfl rfl ?_
      refine g_getR C tb_X6_valueHere_0_ok (i := 15) rfl fl_X6_9 rfl k1 n2 ?_
      refine g_ldcS C tb_X6_valueHere_0_ok (i := 16) (k := 12) (v := 1012) rfl rfl rfl (by decide) rfl ?_
      obtain ⟨r10, er10, h⟩ := cp_e h
      refine g_callV0 C tb_X6_valueHere_0_ok (i := 17) [.ref 1012] rfl mw_X10_isWord mv_X10_isWord ml_X6_43 k3 rfl rfl rfl rfl (w_X10_isWord C.G y (y.2.1 a0 0) 1012 M) (pm_s er10) rfl rfl rfl ?_
      obtain ⟨t11, f12⟩ := br_e h
      refine g_if_eq C tb_X6_valueHere_0_ok (i := 18) 42 rfl rfl (fun c => ?_) (fun c => ?_)
      · have h := t11 c
        refine g_aload_n C tb_X6_valueHere_0_ok (i := 21) rfl rfl ?_
        refine g_getR C tb_X6_valueHere_0_ok (i := 22) rfl fl_X6_9 rfl k1 n2 ?_
        refine g_ldcS C tb_X6_valueHere_0_ok (i := 23) (k := 13) (v := 1013) rfl rfl rfl (by decide) rfl ?_
        obtain ⟨r13, er13, h⟩ := cp_e h
        refine g_callV0 C tb_X6_valueHere_0_ok (i := 24) [.ref 1013] rfl mw_X10_isWord mv_X10_isWord ml_X6_43 k3 rfl rfl rfl rfl (w_X10_isWord C.G y (y.2.1 a0 0) 1013 M) (pm_s er13) rfl rfl rfl ?_
        obtain ⟨t14, f15⟩ := br_e h
        refine g_if_eq C tb_X6_valueHere_0_ok (i := 25) 56 rfl rfl (fun c => ?_) (fun c => ?_)
        · have h := t14 c
          refine g_aload_n C tb_X6_valueHere_0_ok (i := 28) rfl rfl ?_
          refine g_getI C tb_X6_valueHere_0_ok (i := 29) rfl fl_X6_19 rfl k1 ?_
          obtain ⟨j16, ej16, h⟩ := jn_e h
          have J77 : ∀ (_u : Unit), j16 _u = some out → GG g x 1 Q 0 0 y M 77 [some (.ref a0)] [] := by
            intro _u h; subst ej16
            refine g_aload_n C tb_X6_valueHere_0_ok (i := 38) rfl rfl ?_
            refine g_getI C tb_X6_valueHere_0_ok (i := 39) rfl fl_X6_19 rfl k1 ?_
            obtain ⟨j17, ej17, h⟩ := jn_e h
            have J98 : ∀ (_u : Unit), j17 _u = some out → GG g x 1 Q 0 0 y M 98 [none] [] := by
              intro _u h; subst ej17
              refine g_iconstv C tb_X6_valueHere_1_ok (i := 8) (-1) rfl k_iconstv_m1 ?_
              cases h
              exact g_iret0 C R tb_X6_valueHere_1_ok (i := 9) rfl
            obtain ⟨t18, f19⟩ := br_e h
            refine g_if_eq C tb_X6_valueHere_1_ok (i := 0) 98 rfl rfl (fun c => ?_) (fun c => ?_)
            · have h := t18 c
              exact g_less (L' := [none]) trivial (J98 () h)
            · have h := f19 c
              refine g_aload_n C tb_X6_valueHere_1_ok (i := 1) rfl rfl ?_
              refine g_getR C tb_X6_valueHere_1_ok (i := 2) rfl fl_X6_9 rfl k1 n2 ?_
              refine g_ldcS C tb_X6_valueHere_1_ok (i := 3) (k := 15) (v := 1015) rfl rfl rfl (by decide) rfl ?_
              obtain ⟨r20, er20, h⟩ := cp_e h
              refine g_callV0 C tb_X6_valueHere_1_ok (i := 4) [.ref 1015] rfl mw_X10_isWord mv_X10_isWord ml_X6_43 k3 rfl rfl rfl rfl (w_X10_isWord C.G y (y.2.1 a0 0) 1015 M) (pm_s er20) rfl rfl rfl ?_
              obtain ⟨t21, f22⟩ := br_e h
              refine g_if_eq C tb_X6_valueHere_1_ok (i := 5) 98 rfl rfl (fun c => ?_) (fun c => ?_)
              · have h := t21 c
                exact g_less (L' := [none]) trivial (J98 () h)
              · have h := f22 c
                refine g_iconstv C tb_X6_valueHere_1_ok (i := 6) 5 rfl k_iconstv_5 ?_
                cases h
                exact g_iret0 C R tb_X6_valueHere_1_ok (i := 7) rfl
          obtain ⟨t23, f24⟩ := br_e h
          refine g_if_eq C tb_X6_valueHere_0_ok (i := 30) 77 rfl rfl (fun c => ?_) (fun c => ?_)
          · have h := t23 c
            exact g_less (L' := [some (.ref a0)]) ⟨rfl, trivial⟩ (J77 () h)
          · have h := f24 c
            refine g_aload_n C tb_X6_valueHere_0_ok (i := 31) rfl rfl ?_
            refine g_getR C tb_X6_valueHere_0_ok (i := 32) rfl fl_X6_9 rfl k1 n2 ?_
            refine g_ldcS C tb_X6_valueHere_0_ok (i := 33) (k := 14) (v := 1014) rfl rfl rfl (by decide) rfl ?_
            obtain ⟨r25, er25, h⟩ := cp_e h
            refine g_callV0 C tb_X6_valueHere_0_ok (i := 34) [.ref 1014] rfl mw_X10_isWord mv_X10_isWord ml_X6_43 k3 rfl rfl rfl rfl (w_X10_isWord C.G y (y.2.1 a0 0) 1014 M) (pm_s er25) rfl rfl rfl ?_
            obtain ⟨t26, f27⟩ := br_e h
            refine g_if_eq C tb_X6_valueHere_0_ok (i := 35) 77 rfl rfl (fun c => ?_) (fun c => ?_)
            · have h := t26 c
              exact g_less (L' := [some (.ref a0)]) ⟨rfl, trivial⟩ (J77 () h)
            · have h := f27 c
              refine g_iconstv C tb_X6_valueHere_0_ok (i := 36) 4 rfl k_iconstv_4 ?_
              cases h
              exact g_iret0 C R tb_X6_valueHere_0_ok (i := 37) rfl
        · have h := f15 c
          refine g_iconstv C tb_X6_valueHere_0_ok (i := 26) 3 rfl k_iconstv_3 ?_
          cases h
          exact g_iret0 C R tb_X6_valueHere_0_ok (i := 27) rfl
      · have h := f12 c
        refine g_iconstv C tb_X6_valueHere_0_ok (i := 19) 2 rfl k_iconstv_2 ?_
        cases h
        exact g_iret0 C R tb_X6_valueHere_0_ok (i := 20) rfl
    · have h := f9 c
      refine g_iconstv C tb_X6_valueHere_0_ok (i := 12) 1 rfl k_iconstv_1 ?_
      cases h
      exact g_iret0 C R tb_X6_valueHere_0_ok (i := 13) rfl
  · have h := f6 c
    refine g_iconstv C tb_X6_valueHere_0_ok (i := 5) 0 rfl k_iconstv_0 ?_
    cases h
    exact g_iret0 C R tb_X6_valueHere_0_ok (i := 6) rfl
def f_X5_putValue (y : Lay) (a0 : Nat) (a1 : Int32) (M : Mem) : Option (Int32 × Mem) := gK y a0 (0, 5) (c0 (f_X5_put y a0 (((-1) : Int32) - a1) M) fun (r2 : Int32) (M3 : Mem) => some (0, M3))
theorem w_X5_putValue {g : GX} {l : Launch} (hG : GF g l) (y : Lay) (a0 : Nat) (a1 : Int32) (M : Mem) : C0 g l yX5_putValue cX5_putValue 2 none 1 y [.ref a0, .int a1] M (f_X5_putValue y a0 a1 M) := by
  refine C0_of hG (by decide) [some (.ref a0), some (.int a1)] rfl rfl (fun out h x Q C R => ?_)
  unfold f_X5_putValue at h
  refine g_aload_n C tb_X5_putValue_0_ok (i := 0) rfl rfl ?_
  refine g_iconstv C tb_X5_putValue_0_ok (i := 1) (-1) rfl k_iconstv_m1 ?_
  refine g_iload_n C tb_X5_putValue_0_ok (i := 2) rfl rfl ?_
  refine g_isub C tb_X5_putValue_0_ok (i := 3) rfl ?_
  obtain ⟨k1, h⟩ := gK_e h
  obtain ⟨r2, M3, er2, h⟩ := c0_e h
  refine g_callV0 C tb_X5_putValue_0_ok (i := 4) [.int (((-1) : Int32) - a1)] rfl mw_X5_put mv_X5_put ml_X5_22 k1 rfl rfl rfl rfl (w_X5_put C.G y a0 (((-1) : Int32) - a1) M) er2 rfl rfl rfl ?_
  cases h
  exact g_vret0 C R tb_X5_putValue_0_ok (i := 5) rfl
def f_X6_readPart (R : Lay → Nat → Int32 → Mem → Option (Int32 × Mem)) (y : Lay) (a0 : Nat) (a1 : Int32) (M : Mem) : Option (Int32 × Mem) := gK y a0 (0, 6) (gN (y.2.1 a0 0) (gK y (y.2.1 a0 0) (0, 10) (br ((M.1 (y.2.1 a0 0) 2) = ((-3) : Int32)) (cp (f_X10_isTooLong y (y.2.1 a0 0) M) fun (r41 : Int32) => br (r41 = 0) (gN (M.2.2 a0 1) (gK y (M.2.2 a0 1) (0, 5) (c0 (f_X5_put y (M.2.2 a0 1) (M.1 (y.2.1 a0 0) 5) M) fun (r46 : Int32) (M47 : Mem) => c0 (f_X10_advance y (y.2.1 a0 0) M47) fun (r48 : Int32) (M49 : Mem) => some ((1 : Int32), M49)))) (c0 (f_X10_refuse y (y.2.1 a0 0) (2 : Int32) M) fun (r50 : Int32) (M51 : Mem) => gd (r50 = 0 ∨ r50 = 1) (some (r50, M51)))) (br ((M.1 (y.2.1 a0 0) 2) = ((-2) : Int32)) (cp (f_X6_valueHere y a0 M) fun (r30 : Int32) => br (r30 = ((-1) : Int32)) (c0 (f_X10_refuse y (y.2.1 a0 0) (3 : Int32) M) fun (r39 : Int32) (M40 : Mem) => gd (r39 = 0 ∨ r39 = 1) (some (r39, M40))) (gN (M.2.2 a0 1) (gK y (M.2.2 a0 1) (0, 5) (c0 (f_X5_putValue y (M.2.2 a0 1) r30 M) fun (r35 : Int32) (M36 : Mem) => c0 (f_X10_advance y (y.2.1 a0 0) M36) fun (r37 : Int32) (M38 : Mem) => some ((1 : Int32), M38))))) (jn (fun (_u : Unit) => c0 (f_X10_refuse y (y.2.1 a0 0) (1 : Int32) M) fun (r9 : Int32) (M10 : Mem) => gd (r9 = 0 ∨ r9 = 1) (some (r9, M10))) fun j8 => br ((M.1 (y.2.1 a0 0) 2) = (40 : Int32)) (br (a1 < (6 : Int32)) (c0 (f_X10_advance y (y.2.1 a0 0) M) fun (r15 : Int32) (M16 : Mem) => c0 (R y a0 (a1 + (1 : Int32)) M16) fun (r17 : Int32) (M18 : Mem) => jn (fun (v19 : Int32) (M20 : Mem) => gd (v19 = 0 ∨ v19 = 1) (some (v19, M20))) fun j21 => jn (fun (M22 : Mem) => j21 (0 : Int32) M22) fun j23 => br (r17 = 0) (j23 M18) (c0 (f_X10_passes y (y.2.1 a0 0) (41 : Int32) M18) fun (r26 : Int32) (M27 : Mem) => br (r26 = 0) (j23 M27) (j21 (1 : Int32) M27))) (j8 ())) (j8 ()))))))
theorem w_X6_readPart {g : GX} {n : Nat} {R : Lay → Nat → Int32 → Mem → Option (Int32 × Mem)} (hR : ∀ l : Launch, GF g l → ∀ (y : Lay) (a0 : Nat) (a1 : Int32) (M : Mem), C0 g l yX6_readExpr cX6_readExpr 4 (some .boolean) (6 + 7 * n) y [.ref a0, .int a1] M (R y a0 a1 M)) {l : Launch} (hG : GF g l) (y : Lay) (a0 : Nat) (a1 : Int32) (M : Mem) : C0 g l yX6_readPart cX6_readPart 3 (some .boolean) (6 + 7 * n + 1) y [.ref a0, .int a1] M (f_X6_readPart R y a0 a1 M) := by
  refine C0_of hG (by decide) [some (.ref a0), some (.int a1), none] rfl rfl (fun out h x Q C R0 => ?_)
  unfold f_X6_readPart at h
  refine g_aload_n C tb_X6_readPart_0_ok (i := 0) rfl rfl ?_
  obtain ⟨k1, h⟩ := gK_e h
  obtain ⟨n2, h⟩ := gN_e h
  refine g_getR C tb_X6_readPart_0_ok (i := 1) rfl fl_X6_9 rfl k1 n2 ?_
  obtain ⟨k3, h⟩ := gK_e h
  refine g_getI C tb_X6_readPart_0_ok (i := 2) rfl fl_X6_28 rfl k3 ?_
  refine g_bipushv C tb_X6_readPart_0_ok (i := 3) (-3) rfl k_bipushv_m3 ?_
  obtain ⟨t4, f5⟩ := br_e h
  refine g_icmp_ne C tb_X6_readPart_0_ok (i := 4) 54 rfl rfl (fun c => ?_) (fun c => ?_)
  · have h := f5 c
    refine g_aload_n C tb_X6_readPart_0_ok (i := 25) rfl rfl ?_
    refine g_getR C tb_X6_readPart_0_ok (i := 26) rfl fl_X6_9 rfl k1 n2 ?_
    refine g_getI C tb_X6_readPart_0_ok (i := 27) rfl fl_X6_28 rfl k3 ?_
    refine g_bipushv C tb_X6_readPart_0_ok (i := 28) (-2) rfl k_bipushv_m2 ?_
    obtain ⟨t6, f7⟩ := br_e h
    refine g_icmp_ne C tb_X6_readPart_0_ok (i := 29) 102 rfl rfl (fun c => ?_) (fun c => ?_)
    · have h := f7 c
      refine g_aload_n C tb_X6_readPart_1_ok (i := 10) rfl rfl ?_
      refine g_getR C tb_X6_readPart_1_ok (i := 11) rfl fl_X6_9 rfl k1 n2 ?_
      refine g_getI C tb_X6_readPart_1_ok (i := 12) rfl fl_X6_28 rfl k3 ?_
      refine g_bipushv C tb_X6_readPart_1_ok (i := 13) 40 rfl k_bipushv_40 ?_
      obtain ⟨j8, ej8, h⟩ := jn_e h
      have J120 : ∀ (_u : Unit), j8 _u = some out → GG g x 3 Q 0 0 y M 120 [some (.ref a0), none, none] [] := by
        intro _u h; subst ej8
        refine g_aload_n C tb_X6_readPart_1_ok (i := 18) rfl rfl ?_
        refine g_getR C tb_X6_readPart_1_ok (i := 19) rfl fl_X6_9 rfl k1 n2 ?_
        refine g_iconstv C tb_X6_readPart_1_ok (i := 20) 1 rfl k_iconstv_1 ?_
        obtain ⟨r9, M10, er9, h⟩ := c0_e h
        refine g_callV0 C tb_X6_readPart_1_ok (i := 21) [.int (1 : Int32)] rfl mw_X10_refuse mv_X10_refuse ml_X6_34 k3 (bl (by omega)) rfl rfl rfl (w_X10_refuse C.G y (y.2.1 a0 0) (1 : Int32) M) er9 rfl rfl rfl ?_
        obtain ⟨hz, h⟩ := gd_e h
        cases h
        exact g_zret0 C R0 hz tb_X6_readPart_1_ok (i := 22) rfl
      obtain ⟨t11, f12⟩ := br_e h
      refine g_icmp_ne C tb_X6_readPart_1_ok (i := 14) 120 rfl rfl (fun c => ?_) (fun c => ?_)
      · have h := f12 c
        exact g_less (L' := [some (.ref a0), none, none]) ⟨rfl, trivial⟩ (J120 () h)
      · have h := t11 c
        refine g_iload_n C tb_X6_readPart_1_ok (i := 15) rfl rfl ?_
        refine g_bipushv C tb_X6_readPart_1_ok (i := 16) 6 rfl k_bipushv_6 ?_
        obtain ⟨t13, f14⟩ := br_e h
        refine g_icmp_lt C tb_X6_readPart_1_ok (i := 17) 129 rfl rfl (fun c => ?_) (fun c => ?_)
        · have h := t13 c
          refine g_aload_n C tb_X6_readPart_1_ok (i := 23) rfl rfl ?_
          refine g_getR C tb_X6_readPart_1_ok (i := 24) rfl fl_X6_9 rfl k1 n2 ?_
          obtain ⟨r15, M16, er15, h⟩ := c0_e h
          refine g_callV0 C tb_X6_readPart_1_ok (i := 25) [] rfl mw_X10_advance mv_X10_advance ml_X6_47 k3 (bl (by omega)) rfl rfl rfl (w_X10_advance C.G y (y.2.1 a0 0) M) er15 rfl rfl rfl ?_
          refine g_aload_n C tb_X6_readPart_1_ok (i := 26) rfl rfl ?_
          refine g_iload_n C tb_X6_readPart_1_ok (i := 27) rfl rfl ?_
          refine g_iconstv C tb_X6_readPart_1_ok (i := 28) 1 rfl k_iconstv_1 ?_
          refine g_iadd C tb_X6_readPart_1_ok (i := 29) rfl ?_
          obtain ⟨r17, M18, er17, h⟩ := c0_e h
          refine g_callV0 C tb_X6_readPart_1_ok (i := 30) [.int (a1 + (1 : Int32))] rfl mw_X6_readExpr mv_X6_readExpr ml_X6_87 k1 (bl (by omega)) rfl rfl rfl (hR _ C.G y a0 (a1 + (1 : Int32)) M16) er17 rfl rfl rfl ?_
          obtain ⟨j21, ej21, h⟩ := jn_e h
          have J163 : ∀ (v19 : Int32) (M20 : Mem), j21 v19 M20 = some out → GG g x 3 Q 0 0 y M20 163 [none, none, none] [.int v19] := by
            intro v19 M20 h; subst ej21
            obtain ⟨hz, h⟩ := gd_e h
            cases h
            exact g_zret0 C R0 hz tb_X6_readPart_2_ok (i := 0) rfl
          obtain ⟨j23, ej23, h⟩ := jn_e h
          have J162 : ∀ (M22 : Mem), j23 M22 = some out → GG g x 3 Q 0 0 y M22 162 [none, none, none] [] := by
            intro M22 h; subst ej23
            refine g_iconstv C tb_X6_readPart_1_ok (i := 39) 0 rfl k_iconstv_0 ?_
            exact g_less (L' := [none, none, none]) trivial (J163 (0 : Int32) M22 h)
          obtain ⟨t24, f25⟩ := br_e h
          refine g_if_eq C tb_X6_readPart_1_ok (i := 31) 162 rfl rfl (fun c => ?_) (fun c => ?_)
          · have h := t24 c
            exact g_less (L' := [none, none, none]) trivial (J162 M18 h)
          · have h := f25 c
            refine g_aload_n C tb_X6_readPart_1_ok (i := 32) rfl rfl ?_
            refine g_getR C tb_X6_readPart_1_ok (i := 33) rfl fl_X6_9 rfl k1 n2 ?_
            refine g_bipushv C tb_X6_readPart_1_ok (i := 34) 41 rfl k_bipushv_41 ?_
            obtain ⟨r26, M27, er26, h⟩ := c0_e h
            refine g_callV0 C tb_X6_readPart_1_ok (i := 35) [.int (41 : Int32)] rfl mw_X10_passes mv_X10_passes ml_X6_90 k3 (bl (by omega)) rfl rfl rfl (w_X10_passes C.G y (y.2.1 a0 0) (41 : Int32) M18) er26 rfl rfl rfl ?_
            obtain ⟨t28, f29⟩ := br_e h
            refine g_if_eq C tb_X6_readPart_1_ok (i := 36) 162 rfl rfl (fun c => ?_) (fun c => ?_)
            · have h := t28 c
              exact g_less (L' := [none, none, none]) trivial (J162 M27 h)
            · have h := f29 c
              refine g_iconstv C tb_X6_readPart_1_ok (i := 37) 1 rfl k_iconstv_1 ?_
              refine g_goto C tb_X6_readPart_1_ok (i := 38) 163 rfl rfl ?_
              exact g_less (L' := [none, none, none]) trivial (J163 (1 : Int32) M27 h)
        · have h := f14 c
          exact g_less (L' := [some (.ref a0), none, none]) ⟨rfl, trivial⟩ (J120 () h)
    · have h := t6 c
      refine g_aload_n C tb_X6_readPart_0_ok (i := 30) rfl rfl ?_
      obtain ⟨r30, er30, h⟩ := cp_e h
      refine g_callV0 C tb_X6_readPart_0_ok (i := 31) [] rfl mw_X6_valueHere mv_X6_valueHere ml_X6_80 k1 (bl (by omega)) rfl rfl rfl (w_X6_valueHere C.G y a0 M) (pm_s er30) rfl rfl rfl ?_
      refine g_istore_n C tb_X6_readPart_0_ok (i := 32) rfl rfl rfl ?_
      refine g_iload_n C tb_X6_readPart_0_ok (i := 33) rfl rfl ?_
      refine g_iconstv C tb_X6_readPart_0_ok (i := 34) (-1) rfl k_iconstv_m1 ?_
      obtain ⟨t31, f32⟩ := br_e h
      refine g_icmp_ne C tb_X6_readPart_0_ok (i := 35) 85 rfl rfl (fun c => ?_) (fun c => ?_)
      · have h := f32 c
        refine g_aload_n C tb_X6_readPart_1_ok (i := 1) rfl rfl ?_
        obtain ⟨n33, h⟩ := gN_e h
        refine g_getM C tb_X6_readPart_1_ok (i := 2) rfl fl_X6_15 rfl k1 n33 ?_
        refine g_iload_n C tb_X6_readPart_1_ok (i := 3) rfl rfl ?_
        obtain ⟨k34, h⟩ := gK_e h
        obtain ⟨r35, M36, er35, h⟩ := c0_e h
        refine g_callV0 C tb_X6_readPart_1_ok (i := 4) [.int r30] rfl mw_X5_putValue mv_X5_putValue ml_X6_84 k34 (bl (by omega)) rfl rfl rfl (w_X5_putValue C.G y (M.2.2 a0 1) r30 M) er35 rfl rfl rfl ?_
        refine g_aload_n C tb_X6_readPart_1_ok (i := 5) rfl rfl ?_
        refine g_getR C tb_X6_readPart_1_ok (i := 6) rfl fl_X6_9 rfl k1 n2 ?_
        obtain ⟨r37, M38, er37, h⟩ := c0_e h
        refine g_callV0 C tb_X6_readPart_1_ok (i := 7) [] rfl mw_X10_advance mv_X10_advance ml_X6_47 k3 (bl (by omega)) rfl rfl rfl (w_X10_advance C.G y (y.2.1 a0 0) M36) er37 rfl rfl rfl ?_
        refine g_iconstv C tb_X6_readPart_1_ok (i := 8) 1 rfl k_iconstv_1 ?_
        cases h
        exact g_zret0 C R0 (by decide) tb_X6_readPart_1_ok (i := 9) rfl
      · have h := t31 c
        refine g_aload_n C tb_X6_readPart_0_ok (i := 36) rfl rfl ?_
        refine g_getR C tb_X6_readPart_0_ok (i := 37) rfl fl_X6_9 rfl k1 n2 ?_
        refine g_iconstv C tb_X6_readPart_0_ok (i := 38) 3 rfl k_iconstv_3 ?_
        obtain ⟨r39, M40, er39, h⟩ := c0_e h
        refine g_callV0 C tb_X6_readPart_0_ok (i := 39) [.int (3 : Int32)] rfl mw_X10_refuse mv_X10_refuse ml_X6_34 k3 (bl (by omega)) rfl rfl rfl (w_X10_refuse C.G y (y.2.1 a0 0) (3 : Int32) M) er39 rfl rfl rfl ?_
        obtain ⟨hz, h⟩ := gd_e h
        cases h
        exact g_zret0 C R0 hz tb_X6_readPart_1_ok (i := 0) rfl
  · have h := t4 c
    refine g_aload_n C tb_X6_readPart_0_ok (i := 5) rfl rfl ?_
    refine g_getR C tb_X6_readPart_0_ok (i := 6) rfl fl_X6_9 rfl k1 n2 ?_
    obtain ⟨r41, er41, h⟩ := cp_e h
    refine g_callV0 C tb_X6_readPart_0_ok (i := 7) [] rfl mw_X10_isTooLong mv_X10_isTooLong ml_X6_73 k3 (bl (by omega)) rfl rfl rfl (w_X10_isTooLong C.G y (y.2.1 a0 0) M) (pm_s er41) rfl rfl rfl ?_
    obtain ⟨t42, f43⟩ := br_e h
    refine g_if_eq C tb_X6_readPart_0_ok (i := 8) 31 rfl rfl (fun c => ?_) (fun c => ?_)
    · have h := t42 c
      refine g_aload_n C tb_X6_readPart_0_ok (i := 14) rfl rfl ?_
      obtain ⟨n44, h⟩ := gN_e h
      refine g_getM C tb_X6_readPart_0_ok (i := 15) rfl fl_X6_15 rfl k1 n44 ?_
      refine g_aload_n C tb_X6_readPart_0_ok (i := 16) rfl rfl ?_
      refine g_getR C tb_X6_readPart_0_ok (i := 17) rfl fl_X6_9 rfl k1 n2 ?_
      refine g_getI C tb_X6_readPart_0_ok (i := 18) rfl fl_X6_77 rfl k3 ?_
      obtain ⟨k45, h⟩ := gK_e h
      obtain ⟨r46, M47, er46, h⟩ := c0_e h
      refine g_callV0 C tb_X6_readPart_0_ok (i := 19) [.int (M.1 (y.2.1 a0 0) 5)] rfl mw_X5_put mv_X5_put ml_X6_50 k45 (bl (by omega)) rfl rfl rfl (w_X5_put C.G y (M.2.2 a0 1) (M.1 (y.2.1 a0 0) 5) M) er46 rfl rfl rfl ?_
      refine g_aload_n C tb_X6_readPart_0_ok (i := 20) rfl rfl ?_
      refine g_getR C tb_X6_readPart_0_ok (i := 21) rfl fl_X6_9 rfl k1 n2 ?_
      obtain ⟨r48, M49, er48, h⟩ := c0_e h
      refine g_callV0 C tb_X6_readPart_0_ok (i := 22) [] rfl mw_X10_advance mv_X10_advance ml_X6_47 k3 (bl (by omega)) rfl rfl rfl (w_X10_advance C.G y (y.2.1 a0 0) M47) er48 rfl rfl rfl ?_
      refine g_iconstv C tb_X6_readPart_0_ok (i := 23) 1 rfl k_iconstv_1 ?_
      cases h
      exact g_zret0 C R0 (by decide) tb_X6_readPart_0_ok (i := 24) rfl
    · have h := f43 c
      refine g_aload_n C tb_X6_readPart_0_ok (i := 9) rfl rfl ?_
      refine g_getR C tb_X6_readPart_0_ok (i := 10) rfl fl_X6_9 rfl k1 n2 ?_
      refine g_iconstv C tb_X6_readPart_0_ok (i := 11) 2 rfl k_iconstv_2 ?_
      obtain ⟨r50, M51, er50, h⟩ := c0_e h
      refine g_callV0 C tb_X6_readPart_0_ok (i := 12) [.int (2 : Int32)] rfl mw_X10_refuse mv_X10_refuse ml_X6_34 k3 (bl (by omega)) rfl rfl rfl (w_X10_refuse C.G y (y.2.1 a0 0) (2 : Int32) M) er50 rfl rfl rfl ?_
      obtain ⟨hz, h⟩ := gd_e h
      cases h
      exact g_zret0 C R0 hz tb_X6_readPart_0_ok (i := 13) rfl
def f_X6_readProduct (R : Lay → Nat → Int32 → Mem → Option (Int32 × Mem)) (y : Lay) (a0 : Nat) (a1 : Int32) (M : Mem) : Option (Int32 × Mem) := gK y a0 (0, 6) (c0 (f_X6_readPart R y a0 a1 M) fun (r2 : Int32) (M3 : Mem) => br (r2 = 0) (some ((0 : Int32), M3)) (fixN (fun _ _ => none) (fun (s8 : Int32 → Mem → Option (Int32 × Mem)) (v6 : Int32) (M7 : Mem) => jn (fun (_u : Unit) => some ((1 : Int32), M7)) fun j10 => br ((700 : Int32) ≤ v6) (j10 ()) (gN (y.2.1 a0 0) (gK y (y.2.1 a0 0) (0, 10) (jn (fun (_u : Unit) => jn (fun (v16 : Int32) => c0 (f_X10_advance y (y.2.1 a0 0) M7) fun (r18 : Int32) (M19 : Mem) => c0 (f_X6_readPart R y a0 a1 M19) fun (r20 : Int32) (M21 : Mem) => br (r20 = 0) (some ((0 : Int32), M21)) (gN (M21.2.2 a0 1) (gK y (M21.2.2 a0 1) (0, 5) (c0 (f_X5_put y (M21.2.2 a0 1) v16 M21) fun (r26 : Int32) (M27 : Mem) => lt (v6 + (1 : Int32)) fun (v28 : Int32) => s8 v28 M27)))) fun j17 => br ((M7.1 (y.2.1 a0 0) 2) = (42 : Int32)) (j17 ((-18) : Int32)) (j17 ((-19) : Int32))) fun j15 => br ((M7.1 (y.2.1 a0 0) 2) = (42 : Int32)) (j15 ()) (br ((M7.1 (y.2.1 a0 0) 2) = (47 : Int32)) (j15 ()) (j10 ())))))) FUEL (0 : Int32) M3))
theorem w_X6_readProduct {g : GX} {n : Nat} {R : Lay → Nat → Int32 → Mem → Option (Int32 × Mem)} (hR : ∀ l : Launch, GF g l → ∀ (y : Lay) (a0 : Nat) (a1 : Int32) (M : Mem), C0 g l yX6_readExpr cX6_readExpr 4 (some .boolean) (6 + 7 * n) y [.ref a0, .int a1] M (R y a0 a1 M)) {l : Launch} (hG : GF g l) (y : Lay) (a0 : Nat) (a1 : Int32) (M : Mem) : C0 g l yX6_readProduct cX6_readProduct 4 (some .boolean) (6 + 7 * n + 2) y [.ref a0, .int a1] M (f_X6_readProduct R y a0 a1 M) := by
  refine C0_of hG (by decide) [some (.ref a0), some (.int a1), none, none] rfl rfl (fun out h x Q C R0 => ?_)
  unfold f_X6_readProduct at h
  refine g_aload_n C tb_X6_readProduct_0_ok (i := 0) rfl rfl ?_
  refine g_iload_n C tb_X6_readProduct_0_ok (i := 1) rfl rfl ?_
  obtain ⟨k1, h⟩ := gK_e h
  obtain ⟨r2, M3, er2, h⟩ := c0_e h
  refine g_callV0 C tb_X6_readProduct_0_ok (i := 2) [.int a1] rfl mw_X6_readPart mv_X6_readPart ml_X6_70 k1 (bl (by omega)) rfl rfl rfl (w_X6_readPart (n := n) hR C.G y a0 a1 M) er2 rfl rfl rfl ?_
  obtain ⟨t4, f5⟩ := br_e h
  refine g_if_ne C tb_X6_readProduct_0_ok (i := 3) 10 rfl rfl (fun c => ?_) (fun c => ?_)
  · have h := f5 c
    refine g_iconstv C tb_X6_readProduct_0_ok (i := 6) 0 rfl k_iconstv_0 ?_
    refine g_istore_n C tb_X6_readProduct_0_ok (i := 7) rfl rfl rfl ?_
    refine g_less (L' := [some (.ref a0), some (.int a1), some (.int (0 : Int32)), none]) ⟨rfl, ⟨rfl, ⟨rfl, trivial⟩⟩⟩ ?_
    refine fix_i (P := fun (f : Int32 → Mem → Option (Int32 × Mem)) => ∀ (v6 : Int32) (M7 : Mem), f v6 M7 = some out → GG g x 4 Q 0 0 y M7 12 [some (.ref a0), some (.int a1), some (.int v6), none] []) ?_ ?_ _ (0 : Int32) M3 h
    · intro v6 M7 h; exact (nn_e h).elim
    · intro s8 ih9 v6 M7 h
      refine g_iload_n C tb_X6_readProduct_0_ok (i := 8) rfl rfl ?_
      refine g_sipushv C tb_X6_readProduct_0_ok (i := 9) 700 rfl k_sipushv_700 ?_
      obtain ⟨j10, ej10, h⟩ := jn_e h
      have J94 : ∀ (_u : Unit), j10 _u = some out → GG g x 4 Q 0 0 y M7 94 [none, none, none, none] [] := by
        intro _u h; subst ej10
        refine g_iconstv C tb_X6_readProduct_1_ok (i := 5) 1 rfl k_iconstv_1 ?_
        cases h
        exact g_zret0 C R0 (by decide) tb_X6_readProduct_1_ok (i := 6) rfl
      obtain ⟨t11, f12⟩ := br_e h
      refine g_icmp_ge C tb_X6_readProduct_0_ok (i := 10) 94 rfl rfl (fun c => ?_) (fun c => ?_)
      · have h := t11 c
        exact g_less (L' := [none, none, none, none]) trivial (J94 () h)
      · have h := f12 c
        refine g_aload_n C tb_X6_readProduct_0_ok (i := 11) rfl rfl ?_
        obtain ⟨n13, h⟩ := gN_e h
        refine g_getR C tb_X6_readProduct_0_ok (i := 12) rfl fl_X6_9 rfl k1 n13 ?_
        obtain ⟨k14, h⟩ := gK_e h
        refine g_getI C tb_X6_readProduct_0_ok (i := 13) rfl fl_X6_28 rfl k14 ?_
        refine g_bipushv C tb_X6_readProduct_0_ok (i := 14) 42 rfl k_bipushv_42 ?_
        obtain ⟨j15, ej15, h⟩ := jn_e h
        have J43 : ∀ (_u : Unit), j15 _u = some out → GG g x 4 Q 0 0 y M7 43 [some (.ref a0), some (.int a1), some (.int v6), none] [] := by
          intro _u h; subst ej15
          refine g_aload_n C tb_X6_readProduct_0_ok (i := 21) rfl rfl ?_
          refine g_getR C tb_X6_readProduct_0_ok (i := 22) rfl fl_X6_9 rfl k1 n13 ?_
          refine g_getI C tb_X6_readProduct_0_ok (i := 23) rfl fl_X6_28 rfl k14 ?_
          refine g_bipushv C tb_X6_readProduct_0_ok (i := 24) 42 rfl k_bipushv_42 ?_
          obtain ⟨j17, ej17, h⟩ := jn_e h
          have J62 : ∀ (v16 : Int32), j17 v16 = some out → GG g x 4 Q 0 0 y M7 62 [some (.ref a0), some (.int a1), some (.int v6), none] [.int v16] := by
            intro v16 h; subst ej17
            refine g_istore_n C tb_X6_readProduct_0_ok (i := 29) rfl rfl rfl ?_
            refine g_aload_n C tb_X6_readProduct_0_ok (i := 30) rfl rfl ?_
            refine g_getR C tb_X6_readProduct_0_ok (i := 31) rfl fl_X6_9 rfl k1 n13 ?_
            obtain ⟨r18, M19, er18, h⟩ := c0_e h
            refine g_callV0 C tb_X6_readProduct_0_ok (i := 32) [] rfl mw_X10_advance mv_X10_advance ml_X6_47 k14 (bl (by omega)) rfl rfl rfl (w_X10_advance C.G y (y.2.1 a0 0) M7) er18 rfl rfl rfl ?_
            refine g_aload_n C tb_X6_readProduct_0_ok (i := 33) rfl rfl ?_
            refine g_iload_n C tb_X6_readProduct_0_ok (i := 34) rfl rfl ?_
            obtain ⟨r20, M21, er20, h⟩ := c0_e h
            refine g_callV0 C tb_X6_readProduct_0_ok (i := 35) [.int a1] rfl mw_X6_readPart mv_X6_readPart ml_X6_70 k1 (bl (by omega)) rfl rfl rfl (w_X6_readPart (n := n) hR C.G y a0 a1 M19) er20 rfl rfl rfl ?_
            obtain ⟨t22, f23⟩ := br_e h
            refine g_if_ne C tb_X6_readProduct_0_ok (i := 36) 80 rfl rfl (fun c => ?_) (fun c => ?_)
            · have h := f23 c
              refine g_aload_n C tb_X6_readProduct_0_ok (i := 39) rfl rfl ?_
              obtain ⟨n24, h⟩ := gN_e h
              refine g_getM C tb_X6_readProduct_1_ok (i := 0) rfl fl_X6_15 rfl k1 n24 ?_
              refine g_iload_n C tb_X6_readProduct_1_ok (i := 1) rfl rfl ?_
              obtain ⟨k25, h⟩ := gK_e h
              obtain ⟨r26, M27, er26, h⟩ := c0_e h
              refine g_callV0 C tb_X6_readProduct_1_ok (i := 2) [.int v16] rfl mw_X5_put mv_X5_put ml_X6_50 k25 (bl (by omega)) rfl rfl rfl (w_X5_put C.G y (M21.2.2 a0 1) v16 M21) er26 rfl rfl rfl ?_
              obtain ⟨v28, ev28⟩ : ∃ w : Int32, w = v6 + (1 : Int32) := ⟨_, rfl⟩
              have h := lt_e ev28 h
              refine g_iincv C tb_X6_readProduct_1_ok (i := 3) (1 : Int32) ev28 rfl rfl k_iconstv_1 rfl rfl ?_
              refine g_goto C tb_X6_readProduct_1_ok (i := 4) 12 rfl rfl ?_
              exact g_less (L' := [some (.ref a0), some (.int a1), some (.int v28), none]) ⟨rfl, ⟨rfl, ⟨rfl, trivial⟩⟩⟩ (ih9 v28 M27 h)
            · have h := t22 c
              refine g_iconstv C tb_X6_readProduct_0_ok (i := 37) 0 rfl k_iconstv_0 ?_
              cases h
              exact g_zret0 C R0 (by decide) tb_X6_readProduct_0_ok (i := 38) rfl
          obtain ⟨t29, f30⟩ := br_e h
          refine g_icmp_ne C tb_X6_readProduct_0_ok (i := 25) 60 rfl rfl (fun c => ?_) (fun c => ?_)
          · have h := f30 c
            refine g_bipushv C tb_X6_readProduct_0_ok (i := 28) (-19) rfl k_bipushv_m19 ?_
            exact g_less (L' := [some (.ref a0), some (.int a1), some (.int v6), none]) ⟨rfl, ⟨rfl, ⟨rfl, trivial⟩⟩⟩ (J62 ((-19) : Int32) h)
          · have h := t29 c
            refine g_bipushv C tb_X6_readProduct_0_ok (i := 26) (-18) rfl k_bipushv_m18 ?_
            refine g_goto C tb_X6_readProduct_0_ok (i := 27) 62 rfl rfl ?_
            exact g_less (L' := [some (.ref a0), some (.int a1), some (.int v6), none]) ⟨rfl, ⟨rfl, ⟨rfl, trivial⟩⟩⟩ (J62 ((-18) : Int32) h)
        obtain ⟨t31, f32⟩ := br_e h
        refine g_icmp_eq C tb_X6_readProduct_0_ok (i := 15) 43 rfl rfl (fun c => ?_) (fun c => ?_)
        · have h := t31 c
          exact g_less (L' := [some (.ref a0), some (.int a1), some (.int v6), none]) ⟨rfl, ⟨rfl, ⟨rfl, trivial⟩⟩⟩ (J43 () h)
        · have h := f32 c
          refine g_aload_n C tb_X6_readProduct_0_ok (i := 16) rfl rfl ?_
          refine g_getR C tb_X6_readProduct_0_ok (i := 17) rfl fl_X6_9 rfl k1 n13 ?_
          refine g_getI C tb_X6_readProduct_0_ok (i := 18) rfl fl_X6_28 rfl k14 ?_
          refine g_bipushv C tb_X6_readProduct_0_ok (i := 19) 47 rfl k_bipushv_47 ?_
          obtain ⟨t33, f34⟩ := br_e h
          refine g_icmp_ne C tb_X6_readProduct_0_ok (i := 20) 94 rfl rfl (fun c => ?_) (fun c => ?_)
          · have h := f34 c
            exact g_less (L' := [none, none, none, none]) trivial (J94 () h)
          · have h := t33 c
            exact g_less (L' := [some (.ref a0), some (.int a1), some (.int v6), none]) ⟨rfl, ⟨rfl, ⟨rfl, trivial⟩⟩⟩ (J43 () h)
  · have h := t4 c
    refine g_iconstv C tb_X6_readProduct_0_ok (i := 4) 0 rfl k_iconstv_0 ?_
    cases h
    exact g_zret0 C R0 (by decide) tb_X6_readProduct_0_ok (i := 5) rfl
def f_X6_readSum (R : Lay → Nat → Int32 → Mem → Option (Int32 × Mem)) (y : Lay) (a0 : Nat) (a1 : Int32) (M : Mem) : Option (Int32 × Mem) := gK y a0 (0, 6) (c0 (f_X6_readProduct R y a0 a1 M) fun (r2 : Int32) (M3 : Mem) => br (r2 = 0) (some ((0 : Int32), M3)) (fixN (fun _ _ => none) (fun (s8 : Int32 → Mem → Option (Int32 × Mem)) (v6 : Int32) (M7 : Mem) => jn (fun (_u : Unit) => some ((1 : Int32), M7)) fun j10 => br ((700 : Int32) ≤ v6) (j10 ()) (gN (y.2.1 a0 0) (gK y (y.2.1 a0 0) (0, 10) (jn (fun (_u : Unit) => jn (fun (v16 : Int32) => c0 (f_X10_advance y (y.2.1 a0 0) M7) fun (r18 : Int32) (M19 : Mem) => c0 (f_X6_readProduct R y a0 a1 M19) fun (r20 : Int32) (M21 : Mem) => br (r20 = 0) (some ((0 : Int32), M21)) (gN (M21.2.2 a0 1) (gK y (M21.2.2 a0 1) (0, 5) (c0 (f_X5_put y (M21.2.2 a0 1) v16 M21) fun (r26 : Int32) (M27 : Mem) => lt (v6 + (1 : Int32)) fun (v28 : Int32) => s8 v28 M27)))) fun j17 => br ((M7.1 (y.2.1 a0 0) 2) = (43 : Int32)) (j17 ((-16) : Int32)) (j17 ((-17) : Int32))) fun j15 => br ((M7.1 (y.2.1 a0 0) 2) = (43 : Int32)) (j15 ()) (br ((M7.1 (y.2.1 a0 0) 2) = (45 : Int32)) (j15 ()) (j10 ())))))) FUEL (0 : Int32) M3))
theorem w_X6_readSum {g : GX} {n : Nat} {R : Lay → Nat → Int32 → Mem → Option (Int32 × Mem)} (hR : ∀ l : Launch, GF g l → ∀ (y : Lay) (a0 : Nat) (a1 : Int32) (M : Mem), C0 g l yX6_readExpr cX6_readExpr 4 (some .boolean) (6 + 7 * n) y [.ref a0, .int a1] M (R y a0 a1 M)) {l : Launch} (hG : GF g l) (y : Lay) (a0 : Nat) (a1 : Int32) (M : Mem) : C0 g l yX6_readSum cX6_readSum 4 (some .boolean) (6 + 7 * n + 3) y [.ref a0, .int a1] M (f_X6_readSum R y a0 a1 M) := by
  refine C0_of hG (by decide) [some (.ref a0), some (.int a1), none, none] rfl rfl (fun out h x Q C R0 => ?_)
  unfold f_X6_readSum at h
  refine g_aload_n C tb_X6_readSum_0_ok (i := 0) rfl rfl ?_
  refine g_iload_n C tb_X6_readSum_0_ok (i := 1) rfl rfl ?_
  obtain ⟨k1, h⟩ := gK_e h
  obtain ⟨r2, M3, er2, h⟩ := c0_e h
  refine g_callV0 C tb_X6_readSum_0_ok (i := 2) [.int a1] rfl mw_X6_readProduct mv_X6_readProduct ml_X6_67 k1 (bl (by omega)) rfl rfl rfl (w_X6_readProduct (n := n) hR C.G y a0 a1 M) er2 rfl rfl rfl ?_
  obtain ⟨t4, f5⟩ := br_e h
  refine g_if_ne C tb_X6_readSum_0_ok (i := 3) 10 rfl rfl (fun c => ?_) (fun c => ?_)
  · have h := f5 c
    refine g_iconstv C tb_X6_readSum_0_ok (i := 6) 0 rfl k_iconstv_0 ?_
    refine g_istore_n C tb_X6_readSum_0_ok (i := 7) rfl rfl rfl ?_
    refine g_less (L' := [some (.ref a0), some (.int a1), some (.int (0 : Int32)), none]) ⟨rfl, ⟨rfl, ⟨rfl, trivial⟩⟩⟩ ?_
    refine fix_i (P := fun (f : Int32 → Mem → Option (Int32 × Mem)) => ∀ (v6 : Int32) (M7 : Mem), f v6 M7 = some out → GG g x 4 Q 0 0 y M7 12 [some (.ref a0), some (.int a1), some (.int v6), none] []) ?_ ?_ _ (0 : Int32) M3 h
    · intro v6 M7 h; exact (nn_e h).elim
    · intro s8 ih9 v6 M7 h
      refine g_iload_n C tb_X6_readSum_0_ok (i := 8) rfl rfl ?_
      refine g_sipushv C tb_X6_readSum_0_ok (i := 9) 700 rfl k_sipushv_700 ?_
      obtain ⟨j10, ej10, h⟩ := jn_e h
      have J94 : ∀ (_u : Unit), j10 _u = some out → GG g x 4 Q 0 0 y M7 94 [none, none, none, none] [] := by
        intro _u h; subst ej10
        refine g_iconstv C tb_X6_readSum_1_ok (i := 5) 1 rfl k_iconstv_1 ?_
        cases h
        exact g_zret0 C R0 (by decide) tb_X6_readSum_1_ok (i := 6) rfl
      obtain ⟨t11, f12⟩ := br_e h
      refine g_icmp_ge C tb_X6_readSum_0_ok (i := 10) 94 rfl rfl (fun c => ?_) (fun c => ?_)
      · have h := t11 c
        exact g_less (L' := [none, none, none, none]) trivial (J94 () h)
      · have h := f12 c
        refine g_aload_n C tb_X6_readSum_0_ok (i := 11) rfl rfl ?_
        obtain ⟨n13, h⟩ := gN_e h
        refine g_getR C tb_X6_readSum_0_ok (i := 12) rfl fl_X6_9 rfl k1 n13 ?_
        obtain ⟨k14, h⟩ := gK_e h
        refine g_getI C tb_X6_readSum_0_ok (i := 13) rfl fl_X6_28 rfl k14 ?_
        refine g_bipushv C tb_X6_readSum_0_ok (i := 14) 43 rfl k_bipushv_43 ?_
        obtain ⟨j15, ej15, h⟩ := jn_e h
        have J43 : ∀ (_u : Unit), j15 _u = some out → GG g x 4 Q 0 0 y M7 43 [some (.ref a0), some (.int a1), some (.int v6), none] [] := by
          intro _u h; subst ej15
          refine g_aload_n C tb_X6_readSum_0_ok (i := 21) rfl rfl ?_
          refine g_getR C tb_X6_readSum_0_ok (i := 22) rfl fl_X6_9 rfl k1 n13 ?_
          refine g_getI C tb_X6_readSum_0_ok (i := 23) rfl fl_X6_28 rfl k14 ?_
          refine g_bipushv C tb_X6_readSum_0_ok (i := 24) 43 rfl k_bipushv_43 ?_
          obtain ⟨j17, ej17, h⟩ := jn_e h
          have J62 : ∀ (v16 : Int32), j17 v16 = some out → GG g x 4 Q 0 0 y M7 62 [some (.ref a0), some (.int a1), some (.int v6), none] [.int v16] := by
            intro v16 h; subst ej17
            refine g_istore_n C tb_X6_readSum_0_ok (i := 29) rfl rfl rfl ?_
            refine g_aload_n C tb_X6_readSum_0_ok (i := 30) rfl rfl ?_
            refine g_getR C tb_X6_readSum_0_ok (i := 31) rfl fl_X6_9 rfl k1 n13 ?_
            obtain ⟨r18, M19, er18, h⟩ := c0_e h
            refine g_callV0 C tb_X6_readSum_0_ok (i := 32) [] rfl mw_X10_advance mv_X10_advance ml_X6_47 k14 (bl (by omega)) rfl rfl rfl (w_X10_advance C.G y (y.2.1 a0 0) M7) er18 rfl rfl rfl ?_
            refine g_aload_n C tb_X6_readSum_0_ok (i := 33) rfl rfl ?_
            refine g_iload_n C tb_X6_readSum_0_ok (i := 34) rfl rfl ?_
            obtain ⟨r20, M21, er20, h⟩ := c0_e h
            refine g_callV0 C tb_X6_readSum_0_ok (i := 35) [.int a1] rfl mw_X6_readProduct mv_X6_readProduct ml_X6_67 k1 (bl (by omega)) rfl rfl rfl (w_X6_readProduct (n := n) hR C.G y a0 a1 M19) er20 rfl rfl rfl ?_
            obtain ⟨t22, f23⟩ := br_e h
            refine g_if_ne C tb_X6_readSum_0_ok (i := 36) 80 rfl rfl (fun c => ?_) (fun c => ?_)
            · have h := f23 c
              refine g_aload_n C tb_X6_readSum_0_ok (i := 39) rfl rfl ?_
              obtain ⟨n24, h⟩ := gN_e h
              refine g_getM C tb_X6_readSum_1_ok (i := 0) rfl fl_X6_15 rfl k1 n24 ?_
              refine g_iload_n C tb_X6_readSum_1_ok (i := 1) rfl rfl ?_
              obtain ⟨k25, h⟩ := gK_e h
              obtain ⟨r26, M27, er26, h⟩ := c0_e h
              refine g_callV0 C tb_X6_readSum_1_ok (i := 2) [.int v16] rfl mw_X5_put mv_X5_put ml_X6_50 k25 (bl (by omega)) rfl rfl rfl (w_X5_put C.G y (M21.2.2 a0 1) v16 M21) er26 rfl rfl rfl ?_
              obtain ⟨v28, ev28⟩ : ∃ w : Int32, w = v6 + (1 : Int32) := ⟨_, rfl⟩
              have h := lt_e ev28 h
              refine g_iincv C tb_X6_readSum_1_ok (i := 3) (1 : Int32) ev28 rfl rfl k_iconstv_1 rfl rfl ?_
              refine g_goto C tb_X6_readSum_1_ok (i := 4) 12 rfl rfl ?_
              exact g_less (L' := [some (.ref a0), some (.int a1), some (.int v28), none]) ⟨rfl, ⟨rfl, ⟨rfl, trivial⟩⟩⟩ (ih9 v28 M27 h)
            · have h := t22 c
              refine g_iconstv C tb_X6_readSum_0_ok (i := 37) 0 rfl k_iconstv_0 ?_
              cases h
              exact g_zret0 C R0 (by decide) tb_X6_readSum_0_ok (i := 38) rfl
          obtain ⟨t29, f30⟩ := br_e h
          refine g_icmp_ne C tb_X6_readSum_0_ok (i := 25) 60 rfl rfl (fun c => ?_) (fun c => ?_)
          · have h := f30 c
            refine g_bipushv C tb_X6_readSum_0_ok (i := 28) (-17) rfl k_bipushv_m17 ?_
            exact g_less (L' := [some (.ref a0), some (.int a1), some (.int v6), none]) ⟨rfl, ⟨rfl, ⟨rfl, trivial⟩⟩⟩ (J62 ((-17) : Int32) h)
          · have h := t29 c
            refine g_bipushv C tb_X6_readSum_0_ok (i := 26) (-16) rfl k_bipushv_m16 ?_
            refine g_goto C tb_X6_readSum_0_ok (i := 27) 62 rfl rfl ?_
            exact g_less (L' := [some (.ref a0), some (.int a1), some (.int v6), none]) ⟨rfl, ⟨rfl, ⟨rfl, trivial⟩⟩⟩ (J62 ((-16) : Int32) h)
        obtain ⟨t31, f32⟩ := br_e h
        refine g_icmp_eq C tb_X6_readSum_0_ok (i := 15) 43 rfl rfl (fun c => ?_) (fun c => ?_)
        · have h := t31 c
          exact g_less (L' := [some (.ref a0), some (.int a1), some (.int v6), none]) ⟨rfl, ⟨rfl, ⟨rfl, trivial⟩⟩⟩ (J43 () h)
        · have h := f32 c
          refine g_aload_n C tb_X6_readSum_0_ok (i := 16) rfl rfl ?_
          refine g_getR C tb_X6_readSum_0_ok (i := 17) rfl fl_X6_9 rfl k1 n13 ?_
          refine g_getI C tb_X6_readSum_0_ok (i := 18) rfl fl_X6_28 rfl k14 ?_
          refine g_bipushv C tb_X6_readSum_0_ok (i := 19) 45 rfl k_bipushv_45 ?_
          obtain ⟨t33, f34⟩ := br_e h
          refine g_icmp_ne C tb_X6_readSum_0_ok (i := 20) 94 rfl rfl (fun c => ?_) (fun c => ?_)
          · have h := f34 c
            exact g_less (L' := [none, none, none, none]) trivial (J94 () h)
          · have h := t33 c
            exact g_less (L' := [some (.ref a0), some (.int a1), some (.int v6), none]) ⟨rfl, ⟨rfl, ⟨rfl, trivial⟩⟩⟩ (J43 () h)
  · have h := t4 c
    refine g_iconstv C tb_X6_readSum_0_ok (i := 4) 0 rfl k_iconstv_0 ?_
    cases h
    exact g_zret0 C R0 (by decide) tb_X6_readSum_0_ok (i := 5) rfl
def f_X6_readTest (R : Lay → Nat → Int32 → Mem → Option (Int32 × Mem)) (y : Lay) (a0 : Nat) (a1 : Int32) (M : Mem) : Option (Int32 × Mem) := gK y a0 (0, 6) (c0 (f_X6_readSum R y a0 a1 M) fun (r2 : Int32) (M3 : Mem) => br (r2 = 0) (some ((0 : Int32), M3)) (gN (y.2.1 a0 0) (gK y (y.2.1 a0 0) (0, 10) (jn (fun (_u : Unit) => jn (fun (v9 : Int32) => c0 (f_X10_advance y (y.2.1 a0 0) M3) fun (r11 : Int32) (M12 : Mem) => c0 (f_X6_readSum R y a0 a1 M12) fun (r13 : Int32) (M14 : Mem) => br (r13 = 0) (some ((0 : Int32), M14)) (gN (M14.2.2 a0 1) (gK y (M14.2.2 a0 1) (0, 5) (c0 (f_X5_put y (M14.2.2 a0 1) v9 M14) fun (r19 : Int32) (M20 : Mem) => some ((1 : Int32), M20))))) fun j10 => br ((M3.1 (y.2.1 a0 0) 2) = (60 : Int32)) (j10 ((-14) : Int32)) (j10 ((-15) : Int32))) fun j8 => br ((M3.1 (y.2.1 a0 0) 2) = (60 : Int32)) (j8 ()) (br ((M3.1 (y.2.1 a0 0) 2) = (61 : Int32)) (j8 ()) (some ((1 : Int32), M3)))))))
theorem w_X6_readTest {g : GX} {n : Nat} {R : Lay → Nat → Int32 → Mem → Option (Int32 × Mem)} (hR : ∀ l : Launch, GF g l → ∀ (y : Lay) (a0 : Nat) (a1 : Int32) (M : Mem), C0 g l yX6_readExpr cX6_readExpr 4 (some .boolean) (6 + 7 * n) y [.ref a0, .int a1] M (R y a0 a1 M)) {l : Launch} (hG : GF g l) (y : Lay) (a0 : Nat) (a1 : Int32) (M : Mem) : C0 g l yX6_readTest cX6_readTest 3 (some .boolean) (6 + 7 * n + 4) y [.ref a0, .int a1] M (f_X6_readTest R y a0 a1 M) := by
  refine C0_of hG (by decide) [some (.ref a0), some (.int a1), none] rfl rfl (fun out h x Q C R0 => ?_)
  unfold f_X6_readTest at h
  refine g_aload_n C tb_X6_readTest_0_ok (i := 0) rfl rfl ?_
  refine g_iload_n C tb_X6_readTest_0_ok (i := 1) rfl rfl ?_
  obtain ⟨k1, h⟩ := gK_e h
  obtain ⟨r2, M3, er2, h⟩ := c0_e h
  refine g_callV0 C tb_X6_readTest_0_ok (i := 2) [.int a1] rfl mw_X6_readSum mv_X6_readSum ml_X6_64 k1 (bl (by omega)) rfl rfl rfl (w_X6_readSum (n := n) hR C.G y a0 a1 M) er2 rfl rfl rfl ?_
  obtain ⟨t4, f5⟩ := br_e h
  refine g_if_ne C tb_X6_readTest_0_ok (i := 3) 10 rfl rfl (fun c => ?_) (fun c => ?_)
  · have h := f5 c
    refine g_aload_n C tb_X6_readTest_0_ok (i := 6) rfl rfl ?_
    obtain ⟨n6, h⟩ := gN_e h
    refine g_getR C tb_X6_readTest_0_ok (i := 7) rfl fl_X6_9 rfl k1 n6 ?_
    obtain ⟨k7, h⟩ := gK_e h
    refine g_getI C tb_X6_readTest_0_ok (i := 8) rfl fl_X6_28 rfl k7 ?_
    refine g_bipushv C tb_X6_readTest_0_ok (i := 9) 60 rfl k_bipushv_60 ?_
    obtain ⟨j8, ej8, h⟩ := jn_e h
    have J36 : ∀ (_u : Unit), j8 _u = some out → GG g x 3 Q 0 0 y M3 36 [some (.ref a0), some (.int a1), none] [] := by
      intro _u h; subst ej8
      refine g_aload_n C tb_X6_readTest_0_ok (i := 18) rfl rfl ?_
      refine g_getR C tb_X6_readTest_0_ok (i := 19) rfl fl_X6_9 rfl k1 n6 ?_
      refine g_getI C tb_X6_readTest_0_ok (i := 20) rfl fl_X6_28 rfl k7 ?_
      refine g_bipushv C tb_X6_readTest_0_ok (i := 21) 60 rfl k_bipushv_60 ?_
      obtain ⟨j10, ej10, h⟩ := jn_e h
      have J55 : ∀ (v9 : Int32), j10 v9 = some out → GG g x 3 Q 0 0 y M3 55 [some (.ref a0), some (.int a1), none] [.int v9] := by
        intro v9 h; subst ej10
        refine g_istore_n C tb_X6_readTest_0_ok (i := 26) rfl rfl rfl ?_
        refine g_aload_n C tb_X6_readTest_0_ok (i := 27) rfl rfl ?_
        refine g_getR C tb_X6_readTest_0_ok (i := 28) rfl fl_X6_9 rfl k1 n6 ?_
        obtain ⟨r11, M12, er11, h⟩ := c0_e h
        refine g_callV0 C tb_X6_readTest_0_ok (i := 29) [] rfl mw_X10_advance mv_X10_advance ml_X6_47 k7 (bl (by omega)) rfl rfl rfl (w_X10_advance C.G y (y.2.1 a0 0) M3) er11 rfl rfl rfl ?_
        refine g_aload_n C tb_X6_readTest_0_ok (i := 30) rfl rfl ?_
        refine g_iload_n C tb_X6_readTest_0_ok (i := 31) rfl rfl ?_
        obtain ⟨r13, M14, er13, h⟩ := c0_e h
        refine g_callV0 C tb_X6_readTest_0_ok (i := 32) [.int a1] rfl mw_X6_readSum mv_X6_readSum ml_X6_64 k1 (bl (by omega)) rfl rfl rfl (w_X6_readSum (n := n) hR C.G y a0 a1 M12) er13 rfl rfl rfl ?_
        obtain ⟨t15, f16⟩ := br_e h
        refine g_if_ne C tb_X6_readTest_0_ok (i := 33) 73 rfl rfl (fun c => ?_) (fun c => ?_)
        · have h := f16 c
          refine g_aload_n C tb_X6_readTest_0_ok (i := 36) rfl rfl ?_
          obtain ⟨n17, h⟩ := gN_e h
          refine g_getM C tb_X6_readTest_0_ok (i := 37) rfl fl_X6_15 rfl k1 n17 ?_
          refine g_iload_n C tb_X6_readTest_0_ok (i := 38) rfl rfl ?_
          obtain ⟨k18, h⟩ := gK_e h
          obtain ⟨r19, M20, er19, h⟩ := c0_e h
          refine g_callV0 C tb_X6_readTest_0_ok (i := 39) [.int v9] rfl mw_X5_put mv_X5_put ml_X6_50 k18 (bl (by omega)) rfl rfl rfl (w_X5_put C.G y (M14.2.2 a0 1) v9 M14) er19 rfl rfl rfl ?_
          refine g_iconstv C tb_X6_readTest_1_ok (i := 0) 1 rfl k_iconstv_1 ?_
          cases h
          exact g_zret0 C R0 (by decide) tb_X6_readTest_1_ok (i := 1) rfl
        · have h := t15 c
          refine g_iconstv C tb_X6_readTest_0_ok (i := 34) 0 rfl k_iconstv_0 ?_
          cases h
          exact g_zret0 C R0 (by decide) tb_X6_readTest_0_ok (i := 35) rfl
      obtain ⟨t21, f22⟩ := br_e h
      refine g_icmp_ne C tb_X6_readTest_0_ok (i := 22) 53 rfl rfl (fun c => ?_) (fun c => ?_)
      · have h := f22 c
        refine g_bipushv C tb_X6_readTest_0_ok (i := 25) (-15) rfl k_bipushv_m15 ?_
        exact g_less (L' := [some (.ref a0), some (.int a1), none]) ⟨rfl, ⟨rfl, trivial⟩⟩ (J55 ((-15) : Int32) h)
      · have h := t21 c
        refine g_bipushv C tb_X6_readTest_0_ok (i := 23) (-14) rfl k_bipushv_m14 ?_
        refine g_goto C tb_X6_readTest_0_ok (i := 24) 55 rfl rfl ?_
        exact g_less (L' := [some (.ref a0), some (.int a1), none]) ⟨rfl, ⟨rfl, trivial⟩⟩ (J55 ((-14) : Int32) h)
    obtain ⟨t23, f24⟩ := br_e h
    refine g_icmp_eq C tb_X6_readTest_0_ok (i := 10) 36 rfl rfl (fun c => ?_) (fun c => ?_)
    · have h := t23 c
      exact g_less (L' := [some (.ref a0), some (.int a1), none]) ⟨rfl, ⟨rfl, trivial⟩⟩ (J36 () h)
    · have h := f24 c
      refine g_aload_n C tb_X6_readTest_0_ok (i := 11) rfl rfl ?_
      refine g_getR C tb_X6_readTest_0_ok (i := 12) rfl fl_X6_9 rfl k1 n6 ?_
      refine g_getI C tb_X6_readTest_0_ok (i := 13) rfl fl_X6_28 rfl k7 ?_
      refine g_bipushv C tb_X6_readTest_0_ok (i := 14) 61 rfl k_bipushv_61 ?_
      obtain ⟨t25, f26⟩ := br_e h
      refine g_icmp_eq C tb_X6_readTest_0_ok (i := 15) 36 rfl rfl (fun c => ?_) (fun c => ?_)
      · have h := t25 c
        exact g_less (L' := [some (.ref a0), some (.int a1), none]) ⟨rfl, ⟨rfl, trivial⟩⟩ (J36 () h)
      · have h := f26 c
        refine g_iconstv C tb_X6_readTest_0_ok (i := 16) 1 rfl k_iconstv_1 ?_
        cases h
        exact g_zret0 C R0 (by decide) tb_X6_readTest_0_ok (i := 17) rfl
  · have h := t4 c
    refine g_iconstv C tb_X6_readTest_0_ok (i := 4) 0 rfl k_iconstv_0 ?_
    cases h
    exact g_zret0 C R0 (by decide) tb_X6_readTest_0_ok (i := 5) rfl
def f_X6_readNot (R : Lay → Nat → Int32 → Mem → Option (Int32 × Mem)) (y : Lay) (a0 : Nat) (a1 : Int32) (M : Mem) : Option (Int32 × Mem) := fixN (fun _ _ => none) (fun (s3 : Int32 → Mem → Option (Int32 × Mem)) (v1 : Int32) (M2 : Mem) => jn (fun (_u : Unit) => jn (fun (_u : Unit) => gK y a0 (0, 6) (c0 (f_X6_readTest R y a0 a1 M2) fun (r8 : Int32) (M9 : Mem) => br (r8 = 0) (some ((0 : Int32), M9)) (fixN (fun _ _ => none) (fun (s14 : Int32 → Mem → Option (Int32 × Mem)) (v12 : Int32) (M13 : Mem) => br (v1 ≤ v12) (some ((1 : Int32), M13)) (gN (M13.2.2 a0 1) (gK y (M13.2.2 a0 1) (0, 5) (c0 (f_X5_put y (M13.2.2 a0 1) ((-13) : Int32) M13) fun (r20 : Int32) (M21 : Mem) => lt (v12 + (1 : Int32)) fun (v22 : Int32) => s14 v22 M21)))) FUEL (0 : Int32) M9))) fun j6 => br (v1 = (6 : Int32)) (gK y a0 (0, 6) (gN (y.2.1 a0 0) (gK y (y.2.1 a0 0) (0, 10) (cp (f_X10_isWord y (y.2.1 a0 0) 1009 M2) fun (r28 : Int32) => br (r28 = 0) (j6 ()) (c0 (f_X10_refuse y (y.2.1 a0 0) (2 : Int32) M2) fun (r31 : Int32) (M32 : Mem) => gd (r31 = 0 ∨ r31 = 1) (some (r31, M32))))))) (j6 ())) fun j5 => br ((6 : Int32) ≤ v1) (j5 ()) (gK y a0 (0, 6) (gN (y.2.1 a0 0) (gK y (y.2.1 a0 0) (0, 10) (cp (f_X10_isWord y (y.2.1 a0 0) 1009 M2) fun (r38 : Int32) => br (r38 = 0) (j5 ()) (c0 (f_X10_advance y (y.2.1 a0 0) M2) fun (r41 : Int32) (M42 : Mem) => lt (v1 + (1 : Int32)) fun (v43 : Int32) => s3 v43 M42)))))) FUEL (0 : Int32) M
theorem w_X6_readNot {g : GX} {n : Nat} {R : Lay → Nat → Int32 → Mem → Option (Int32 × Mem)} (hR : ∀ l : Launch, GF g l → ∀ (y : Lay) (a0 : Nat) (a1 : Int32) (M : Mem), C0 g l yX6_readExpr cX6_readExpr 4 (some .boolean) (6 + 7 * n) y [.ref a0, .int a1] M (R y a0 a1 M)) {l : Launch} (hG : GF g l) (y : Lay) (a0 : Nat) (a1 : Int32) (M : Mem) : C0 g l yX6_readNot cX6_readNot 4 (some .boolean) (6 + 7 * n + 5) y [.ref a0, .int a1] M (f_X6_readNot R y a0 a1 M) := by
  refine C0_of hG (by decide) [some (.ref a0), some (.int a1), none, none] rfl rfl (fun out h x Q C R0 => ?_)
  unfold f_X6_readNot at h
  refine g_iconstv C tb_X6_readNot_0_ok (i := 0) 0 rfl k_iconstv_0 ?_
  refine g_istore_n C tb_X6_readNot_0_ok (i := 1) rfl rfl rfl ?_
  refine g_less (L' := [some (.ref a0), some (.int a1), some (.int (0 : Int32)), none]) ⟨rfl, ⟨rfl, ⟨rfl, trivial⟩⟩⟩ ?_
  refine fix_i (P := fun (f : Int32 → Mem → Option (Int32 × Mem)) => ∀ (v1 : Int32) (M2 : Mem), f v1 M2 = some out → GG g x 4 Q 0 0 y M2 2 [some (.ref a0), some (.int a1), some (.int v1), none] []) ?_ ?_ _ (0 : Int32) M h
  · intro v1 M2 h; exact (nn_e h).elim
  · intro s3 ih4 v1 M2 h
    refine g_iload_n C tb_X6_readNot_0_ok (i := 2) rfl rfl ?_
    refine g_bipushv C tb_X6_readNot_0_ok (i := 3) 6 rfl k_bipushv_6 ?_
    obtain ⟨j5, ej5, h⟩ := jn_e h
    have J33 : ∀ (_u : Unit), j5 _u = some out → GG g x 4 Q 0 0 y M2 33 [some (.ref a0), some (.int a1), some (.int v1), none] [] := by
      intro _u h; subst ej5
      refine g_iload_n C tb_X6_readNot_0_ok (i := 15) rfl rfl ?_
      refine g_bipushv C tb_X6_readNot_0_ok (i := 16) 6 rfl k_bipushv_6 ?_
      obtain ⟨j6, ej6, h⟩ := jn_e h
      have J60 : ∀ (_u : Unit), j6 _u = some out → GG g x 4 Q 0 0 y M2 60 [some (.ref a0), some (.int a1), some (.int v1), none] [] := by
        intro _u h; subst ej6
        refine g_aload_n C tb_X6_readNot_0_ok (i := 28) rfl rfl ?_
        refine g_iload_n C tb_X6_readNot_0_ok (i := 29) rfl rfl ?_
        obtain ⟨k7, h⟩ := gK_e h
        obtain ⟨r8, M9, er8, h⟩ := c0_e h
        refine g_callV0 C tb_X6_readNot_0_ok (i := 30) [.int a1] rfl mw_X6_readTest mv_X6_readTest ml_X6_61 k7 (bl (by omega)) rfl rfl rfl (w_X6_readTest (n := n) hR C.G y a0 a1 M2) er8 rfl rfl rfl ?_
        obtain ⟨t10, f11⟩ := br_e h
        refine g_if_ne C tb_X6_readNot_0_ok (i := 31) 70 rfl rfl (fun c => ?_) (fun c => ?_)
        · have h := f11 c
          refine g_iconstv C tb_X6_readNot_0_ok (i := 34) 0 rfl k_iconstv_0 ?_
          refine g_istore_n C tb_X6_readNot_0_ok (i := 35) rfl rfl rfl ?_
          refine g_less (L' := [some (.ref a0), none, some (.int v1), some (.int (0 : Int32))]) ⟨rfl, ⟨rfl, ⟨rfl, trivial⟩⟩⟩ ?_
          refine fix_i (P := fun (f : Int32 → Mem → Option (Int32 × Mem)) => ∀ (v12 : Int32) (M13 : Mem), f v12 M13 = some out → GG g x 4 Q 0 0 y M13 72 [some (.ref a0), none, some (.int v1), some (.int v12)] []) ?_ ?_ _ (0 : Int32) M9 h
          · intro v12 M13 h; exact (nn_e h).elim
          · intro s14 ih15 v12 M13 h
            refine g_iload_n C tb_X6_readNot_0_ok (i := 36) rfl rfl ?_
            refine g_iload_n C tb_X6_readNot_0_ok (i := 37) rfl rfl ?_
            obtain ⟨t16, f17⟩ := br_e h
            refine g_icmp_ge C tb_X6_readNot_0_ok (i := 38) 92 rfl rfl (fun c => ?_) (fun c => ?_)
            · have h := t16 c
              refine g_iconstv C tb_X6_readNot_1_ok (i := 5) 1 rfl k_iconstv_1 ?_
              cases h
              exact g_zret0 C R0 (by decide) tb_X6_readNot_1_ok (i := 6) rfl
            · have h := f17 c
              refine g_aload_n C tb_X6_readNot_0_ok (i := 39) rfl rfl ?_
              obtain ⟨n18, h⟩ := gN_e h
              refine g_getM C tb_X6_readNot_1_ok (i := 0) rfl fl_X6_15 rfl k7 n18 ?_
              refine g_bipushv C tb_X6_readNot_1_ok (i := 1) (-13) rfl k_bipushv_m13 ?_
              obtain ⟨k19, h⟩ := gK_e h
              obtain ⟨r20, M21, er20, h⟩ := c0_e h
              refine g_callV0 C tb_X6_readNot_1_ok (i := 2) [.int ((-13) : Int32)] rfl mw_X5_put mv_X5_put ml_X6_50 k19 (bl (by omega)) rfl rfl rfl (w_X5_put C.G y (M13.2.2 a0 1) ((-13) : Int32) M13) er20 rfl rfl rfl ?_
              obtain ⟨v22, ev22⟩ : ∃ w : Int32, w = v12 + (1 : Int32) := ⟨_, rfl⟩
              have h := lt_e ev22 h
              refine g_iincv C tb_X6_readNot_1_ok (i := 3) (1 : Int32) ev22 rfl rfl k_iconstv_1 rfl rfl ?_
              refine g_goto C tb_X6_readNot_1_ok (i := 4) 72 rfl rfl ?_
              exact g_less (L' := [some (.ref a0), none, some (.int v1), some (.int v22)]) ⟨rfl, ⟨rfl, ⟨rfl, trivial⟩⟩⟩ (ih15 v22 M21 h)
        · have h := t10 c
          refine g_iconstv C tb_X6_readNot_0_ok (i := 32) 0 rfl k_iconstv_0 ?_
          cases h
          exact g_zret0 C R0 (by decide) tb_X6_readNot_0_ok (i := 33) rfl
      obtain ⟨t23, f24⟩ := br_e h
      refine g_icmp_ne C tb_X6_readNot_0_ok (i := 17) 60 rfl rfl (fun c => ?_) (fun c => ?_)
      · have h := f24 c
        exact g_less (L' := [some (.ref a0), some (.int a1), some (.int v1), none]) ⟨rfl, ⟨rfl, ⟨rfl, trivial⟩⟩⟩ (J60 () h)
      · have h := t23 c
        refine g_aload_n C tb_X6_readNot_0_ok (i := 18) rfl rfl ?_
        obtain ⟨k25, h⟩ := gK_e h
        obtain ⟨n26, h⟩ := gN_e h
        refine g_getR C tb_X6_readNot_0_ok (i := 19) rfl fl_X6_9 rfl k25 n26 ?_
        refine g_ldcS C tb_X6_readNot_0_ok (i := 20) (k := 9) (v := 1009) rfl rfl rfl (by decide) rfl ?_
        obtain ⟨k27, h⟩ := gK_e h
        obtain ⟨r28, er28, h⟩ := cp_e h
        refine g_callV0 C tb_X6_readNot_0_ok (i := 21) [.ref 1009] rfl mw_X10_isWord mv_X10_isWord ml_X6_43 k27 (bl (by omega)) rfl rfl rfl (w_X10_isWord C.G y (y.2.1 a0 0) 1009 M2) (pm_s er28) rfl rfl rfl ?_
        obtain ⟨t29, f30⟩ := br_e h
        refine g_if_eq C tb_X6_readNot_0_ok (i := 22) 60 rfl rfl (fun c => ?_) (fun c => ?_)
        · have h := t29 c
          exact g_less (L' := [some (.ref a0), some (.int a1), some (.int v1), none]) ⟨rfl, ⟨rfl, ⟨rfl, trivial⟩⟩⟩ (J60 () h)
        · have h := f30 c
          refine g_aload_n C tb_X6_readNot_0_ok (i := 23) rfl rfl ?_
          refine g_getR C tb_X6_readNot_0_ok (i := 24) rfl fl_X6_9 rfl k25 n26 ?_
          refine g_iconstv C tb_X6_readNot_0_ok (i := 25) 2 rfl k_iconstv_2 ?_
          obtain ⟨r31, M32, er31, h⟩ := c0_e h
          refine g_callV0 C tb_X6_readNot_0_ok (i := 26) [.int (2 : Int32)] rfl mw_X10_refuse mv_X10_refuse ml_X6_34 k27 (bl (by omega)) rfl rfl rfl (w_X10_refuse C.G y (y.2.1 a0 0) (2 : Int32) M2) er31 rfl rfl rfl ?_
          obtain ⟨hz, h⟩ := gd_e h
          cases h
          exact g_zret0 C R0 hz tb_X6_readNot_0_ok (i := 27) rfl
    obtain ⟨t33, f34⟩ := br_e h
    refine g_icmp_ge C tb_X6_readNot_0_ok (i := 4) 33 rfl rfl (fun c => ?_) (fun c => ?_)
    · have h := t33 c
      exact g_less (L' := [some (.ref a0), some (.int a1), some (.int v1), none]) ⟨rfl, ⟨rfl, ⟨rfl, trivial⟩⟩⟩ (J33 () h)
    · have h := f34 c
      refine g_aload_n C tb_X6_readNot_0_ok (i := 5) rfl rfl ?_
      obtain ⟨k35, h⟩ := gK_e h
      obtain ⟨n36, h⟩ := gN_e h
      refine g_getR C tb_X6_readNot_0_ok (i := 6) rfl fl_X6_9 rfl k35 n36 ?_
      refine g_ldcS C tb_X6_readNot_0_ok (i := 7) (k := 9) (v := 1009) rfl rfl rfl (by decide) rfl ?_
      obtain ⟨k37, h⟩ := gK_e h
      obtain ⟨r38, er38, h⟩ := cp_e h
      refine g_callV0 C tb_X6_readNot_0_ok (i := 8) [.ref 1009] rfl mw_X10_isWord mv_X10_isWord ml_X6_43 k37 (bl (by omega)) rfl rfl rfl (w_X10_isWord C.G y (y.2.1 a0 0) 1009 M2) (pm_s er38) rfl rfl rfl ?_
      obtain ⟨t39, f40⟩ := br_e h
      refine g_if_eq C tb_X6_readNot_0_ok (i := 9) 33 rfl rfl (fun c => ?_) (fun c => ?_)
      · have h := t39 c
        exact g_less (L' := [some (.ref a0), some (.int a1), some (.int v1), none]) ⟨rfl, ⟨rfl, ⟨rfl, trivial⟩⟩⟩ (J33 () h)
      · have h := f40 c
        refine g_aload_n C tb_X6_readNot_0_ok (i := 10) rfl rfl ?_
        refine g_getR C tb_X6_readNot_0_ok (i := 11) rfl fl_X6_9 rfl k35 n36 ?_
        obtain ⟨r41, M42, er41, h⟩ := c0_e h
        refine g_callV0 C tb_X6_readNot_0_ok (i := 12) [] rfl mw_X10_advance mv_X10_advance ml_X6_47 k37 (bl (by omega)) rfl rfl rfl (w_X10_advance C.G y (y.2.1 a0 0) M2) er41 rfl rfl rfl ?_
        obtain ⟨v43, ev43⟩ : ∃ w : Int32, w = v1 + (1 : Int32) := ⟨_, rfl⟩
        have h := lt_e ev43 h
        refine g_iincv C tb_X6_readNot_0_ok (i := 13) (1 : Int32) ev43 rfl rfl k_iconstv_1 rfl rfl ?_
        refine g_goto C tb_X6_readNot_0_ok (i := 14) 2 rfl rfl ?_
        exact g_less (L' := [some (.ref a0), some (.int a1), some (.int v43), none]) ⟨rfl, ⟨rfl, ⟨rfl, trivial⟩⟩⟩ (ih4 v43 M42 h)
def f_X6_readAnd (R : Lay → Nat → Int32 → Mem → Option (Int32 × Mem)) (y : Lay) (a0 : Nat) (a1 : Int32) (M : Mem) : Option (Int32 × Mem) := gK y a0 (0, 6) (c0 (f_X6_readNot R y a0 a1 M) fun (r2 : Int32) (M3 : Mem) => br (r2 = 0) (some ((0 : Int32), M3)) (fixN (fun _ _ => none) (fun (s8 : Int32 → Mem → Option (Int32 × Mem)) (v6 : Int32) (M7 : Mem) => jn (fun (_u : Unit) => some ((1 : Int32), M7)) fun j10 => br ((700 : Int32) ≤ v6) (j10 ()) (gN (y.2.1 a0 0) (gK y (y.2.1 a0 0) (0, 10) (cp (f_X10_isWord y (y.2.1 a0 0) 1016 M7) fun (r15 : Int32) => br (r15 = 0) (j10 ()) (c0 (f_X10_advance y (y.2.1 a0 0) M7) fun (r18 : Int32) (M19 : Mem) => c0 (f_X6_readNot R y a0 a1 M19) fun (r20 : Int32) (M21 : Mem) => br (r20 = 0) (some ((0 : Int32), M21)) (gN (M21.2.2 a0 1) (gK y (M21.2.2 a0 1) (0, 5) (c0 (f_X5_put y (M21.2.2 a0 1) ((-12) : Int32) M21) fun (r26 : Int32) (M27 : Mem) => lt (v6 + (1 : Int32)) fun (v28 : Int32) => s8 v28 M27)))))))) FUEL (0 : Int32) M3))
theorem w_X6_readAnd {g : GX} {n : Nat} {R : Lay → Nat → Int32 → Mem → Option (Int32 × Mem)} (hR : ∀ l : Launch, GF g l → ∀ (y : Lay) (a0 : Nat) (a1 : Int32) (M : Mem), C0 g l yX6_readExpr cX6_readExpr 4 (some .boolean) (6 + 7 * n) y [.ref a0, .int a1] M (R y a0 a1 M)) {l : Launch} (hG : GF g l) (y : Lay) (a0 : Nat) (a1 : Int32) (M : Mem) : C0 g l yX6_readAnd cX6_readAnd 3 (some .boolean) (6 + 7 * n + 6) y [.ref a0, .int a1] M (f_X6_readAnd R y a0 a1 M) := by
  refine C0_of hG (by decide) [some (.ref a0), some (.int a1), none] rfl rfl (fun out h x Q C R0 => ?_)
  unfold f_X6_readAnd at h
  refine g_aload_n C tb_X6_readAnd_0_ok (i := 0) rfl rfl ?_
  refine g_iload_n C tb_X6_readAnd_0_ok (i := 1) rfl rfl ?_
  obtain ⟨k1, h⟩ := gK_e h
  obtain ⟨r2, M3, er2, h⟩ := c0_e h
  refine g_callV0 C tb_X6_readAnd_0_ok (i := 2) [.int a1] rfl mw_X6_readNot mv_X6_readNot ml_X6_54 k1 (bl (by omega)) rfl rfl rfl (w_X6_readNot (n := n) hR C.G y a0 a1 M) er2 rfl rfl rfl ?_
  obtain ⟨t4, f5⟩ := br_e h
  refine g_if_ne C tb_X6_readAnd_0_ok (i := 3) 10 rfl rfl (fun c => ?_) (fun c => ?_)
  · have h := f5 c
    refine g_iconstv C tb_X6_readAnd_0_ok (i := 6) 0 rfl k_iconstv_0 ?_
    refine g_istore_n C tb_X6_readAnd_0_ok (i := 7) rfl rfl rfl ?_
    refine g_less (L' := [some (.ref a0), some (.int a1), some (.int (0 : Int32))]) ⟨rfl, ⟨rfl, ⟨rfl, trivial⟩⟩⟩ ?_
    refine fix_i (P := fun (f : Int32 → Mem → Option (Int32 × Mem)) => ∀ (v6 : Int32) (M7 : Mem), f v6 M7 = some out → GG g x 3 Q 0 0 y M7 12 [some (.ref a0), some (.int a1), some (.int v6)] []) ?_ ?_ _ (0 : Int32) M3 h
    · intro v6 M7 h; exact (nn_e h).elim
    · intro s8 ih9 v6 M7 h
      refine g_iload_n C tb_X6_readAnd_0_ok (i := 8) rfl rfl ?_
      refine g_sipushv C tb_X6_readAnd_0_ok (i := 9) 700 rfl k_sipushv_700 ?_
      obtain ⟨j10, ej10, h⟩ := jn_e h
      have J63 : ∀ (_u : Unit), j10 _u = some out → GG g x 3 Q 0 0 y M7 63 [none, none, none] [] := by
        intro _u h; subst ej10
        refine g_iconstv C tb_X6_readAnd_0_ok (i := 31) 1 rfl k_iconstv_1 ?_
        cases h
        exact g_zret0 C R0 (by decide) tb_X6_readAnd_0_ok (i := 32) rfl
      obtain ⟨t11, f12⟩ := br_e h
      refine g_icmp_ge C tb_X6_readAnd_0_ok (i := 10) 63 rfl rfl (fun c => ?_) (fun c => ?_)
      · have h := t11 c
        exact g_less (L' := [none, none, none]) trivial (J63 () h)
      · have h := f12 c
        refine g_aload_n C tb_X6_readAnd_0_ok (i := 11) rfl rfl ?_
        obtain ⟨n13, h⟩ := gN_e h
        refine g_getR C tb_X6_readAnd_0_ok (i := 12) rfl fl_X6_9 rfl k1 n13 ?_
        refine g_ldcS C tb_X6_readAnd_0_ok (i := 13) (k := 16) (v := 1016) rfl rfl rfl (by decide) rfl ?_
        obtain ⟨k14, h⟩ := gK_e h
        obtain ⟨r15, er15, h⟩ := cp_e h
        refine g_callV0 C tb_X6_readAnd_0_ok (i := 14) [.ref 1016] rfl mw_X10_isWord mv_X10_isWord ml_X6_43 k14 (bl (by omega)) rfl rfl rfl (w_X10_isWord C.G y (y.2.1 a0 0) 1016 M7) (pm_s er15) rfl rfl rfl ?_
        obtain ⟨t16, f17⟩ := br_e h
        refine g_if_eq C tb_X6_readAnd_0_ok (i := 15) 63 rfl rfl (fun c => ?_) (fun c => ?_)
        · have h := t16 c
          exact g_less (L' := [none, none, none]) trivial (J63 () h)
        · have h := f17 c
          refine g_aload_n C tb_X6_readAnd_0_ok (i := 16) rfl rfl ?_
          refine g_getR C tb_X6_readAnd_0_ok (i := 17) rfl fl_X6_9 rfl k1 n13 ?_
          obtain ⟨r18, M19, er18, h⟩ := c0_e h
          refine g_callV0 C tb_X6_readAnd_0_ok (i := 18) [] rfl mw_X10_advance mv_X10_advance ml_X6_47 k14 (bl (by omega)) rfl rfl rfl (w_X10_advance C.G y (y.2.1 a0 0) M7) er18 rfl rfl rfl ?_
          refine g_aload_n C tb_X6_readAnd_0_ok (i := 19) rfl rfl ?_
          refine g_iload_n C tb_X6_readAnd_0_ok (i := 20) rfl rfl ?_
          obtain ⟨r20, M21, er20, h⟩ := c0_e h
          refine g_callV0 C tb_X6_readAnd_0_ok (i := 21) [.int a1] rfl mw_X6_readNot mv_X6_readNot ml_X6_54 k1 (bl (by omega)) rfl rfl rfl (w_X6_readNot (n := n) hR C.G y a0 a1 M19) er20 rfl rfl rfl ?_
          obtain ⟨t22, f23⟩ := br_e h
          refine g_if_ne C tb_X6_readAnd_0_ok (i := 22) 48 rfl rfl (fun c => ?_) (fun c => ?_)
          · have h := f23 c
            refine g_aload_n C tb_X6_readAnd_0_ok (i := 25) rfl rfl ?_
            obtain ⟨n24, h⟩ := gN_e h
            refine g_getM C tb_X6_readAnd_0_ok (i := 26) rfl fl_X6_15 rfl k1 n24 ?_
            refine g_bipushv C tb_X6_readAnd_0_ok (i := 27) (-12) rfl k_bipushv_m12 ?_
            obtain ⟨k25, h⟩ := gK_e h
            obtain ⟨r26, M27, er26, h⟩ := c0_e h
            refine g_callV0 C tb_X6_readAnd_0_ok (i := 28) [.int ((-12) : Int32)] rfl mw_X5_put mv_X5_put ml_X6_50 k25 (bl (by omega)) rfl rfl rfl (w_X5_put C.G y (M21.2.2 a0 1) ((-12) : Int32) M21) er26 rfl rfl rfl ?_
            obtain ⟨v28, ev28⟩ : ∃ w : Int32, w = v6 + (1 : Int32) := ⟨_, rfl⟩
            have h := lt_e ev28 h
            refine g_iincv C tb_X6_readAnd_0_ok (i := 29) (1 : Int32) ev28 rfl rfl k_iconstv_1 rfl rfl ?_
            refine g_goto C tb_X6_readAnd_0_ok (i := 30) 12 rfl rfl ?_
            exact g_less (L' := [some (.ref a0), some (.int a1), some (.int v28)]) ⟨rfl, ⟨rfl, ⟨rfl, trivial⟩⟩⟩ (ih9 v28 M27 h)
          · have h := t22 c
            refine g_iconstv C tb_X6_readAnd_0_ok (i := 23) 0 rfl k_iconstv_0 ?_
            cases h
            exact g_zret0 C R0 (by decide) tb_X6_readAnd_0_ok (i := 24) rfl
  · have h := t4 c
    refine g_iconstv C tb_X6_readAnd_0_ok (i := 4) 0 rfl k_iconstv_0 ?_
    cases h
    exact g_zret0 C R0 (by decide) tb_X6_readAnd_0_ok (i := 5) rfl
def f_X6_readExprB (R : Lay → Nat → Int32 → Mem → Option (Int32 × Mem)) (y : Lay) (a0 : Nat) (a1 : Int32) (M : Mem) : Option (Int32 × Mem) := gK y a0 (0, 6) (gN (y.2.1 a0 0) (gK y (y.2.1 a0 0) (0, 10) (jn (fun (v4 : Int32) => jn (fun (_u : Unit) => c0 (f_X6_readAnd R y a0 a1 M) fun (r7 : Int32) (M8 : Mem) => br (r7 = 0) (some ((0 : Int32), M8)) (fixN (fun _ _ => none) (fun (s13 : Int32 → Mem → Option (Int32 × Mem)) (v11 : Int32) (M12 : Mem) => jn (fun (_u : Unit) => some ((1 : Int32), M12)) fun j15 => br ((700 : Int32) ≤ v11) (j15 ()) (cp (f_X10_isWord y (y.2.1 a0 0) 1017 M12) fun (r18 : Int32) => br (r18 = 0) (j15 ()) (c0 (f_X10_advance y (y.2.1 a0 0) M12) fun (r21 : Int32) (M22 : Mem) => c0 (f_X6_readAnd R y a0 a1 M22) fun (r23 : Int32) (M24 : Mem) => br (r23 = 0) (some ((0 : Int32), M24)) (gN (M24.2.2 a0 1) (gK y (M24.2.2 a0 1) (0, 5) (c0 (f_X5_put y (M24.2.2 a0 1) ((-11) : Int32) M24) fun (r29 : Int32) (M30 : Mem) => lt (v11 + (1 : Int32)) fun (v31 : Int32) => s13 v31 M30)))))) FUEL (0 : Int32) M8)) fun j6 => br (a1 < (6 : Int32)) (j6 ()) (br (v4 = 0) (j6 ()) (c0 (f_X10_refuse y (y.2.1 a0 0) (2 : Int32) M) fun (r36 : Int32) (M37 : Mem) => gd (r36 = 0 ∨ r36 = 1) (some (r36, M37))))) fun j5 => jn (fun (_u : Unit) => j5 (1 : Int32)) fun j38 => br ((M.1 (y.2.1 a0 0) 2) = ((-3) : Int32)) (j38 ()) (br ((M.1 (y.2.1 a0 0) 2) = ((-2) : Int32)) (j38 ()) (br ((M.1 (y.2.1 a0 0) 2) = (40 : Int32)) (j38 ()) (j5 (0 : Int32)))))))
theorem w_X6_readExprB {g : GX} {n : Nat} {R : Lay → Nat → Int32 → Mem → Option (Int32 × Mem)} (hR : ∀ l : Launch, GF g l → ∀ (y : Lay) (a0 : Nat) (a1 : Int32) (M : Mem), C0 g l yX6_readExpr cX6_readExpr 4 (some .boolean) (6 + 7 * n) y [.ref a0, .int a1] M (R y a0 a1 M)) {l : Launch} (hG : GF g l) (y : Lay) (a0 : Nat) (a1 : Int32) (M : Mem) : C0 g l yX6_readExpr cX6_readExpr 4 (some .boolean) (6 + 7 * n + 7) y [.ref a0, .int a1] M (f_X6_readExprB R y a0 a1 M) := by
  refine C0_of hG (by decide) [some (.ref a0), some (.int a1), none, none] rfl rfl (fun out h x Q C R0 => ?_)
  unfold f_X6_readExprB at h
  refine g_aload_n C tb_X6_readExpr_0_ok (i := 0) rfl rfl ?_
  obtain ⟨k1, h⟩ := gK_e h
  obtain ⟨n2, h⟩ := gN_e h
  refine g_getR C tb_X6_readExpr_0_ok (i := 1) rfl fl_X6_9 rfl k1 n2 ?_
  obtain ⟨k3, h⟩ := gK_e h
  refine g_getI C tb_X6_readExpr_0_ok (i := 2) rfl fl_X6_28 rfl k3 ?_
  refine g_bipushv C tb_X6_readExpr_0_ok (i := 3) (-3) rfl k_bipushv_m3 ?_
  obtain ⟨j5, ej5, h⟩ := jn_e h
  have J41 : ∀ (v4 : Int32), j5 v4 = some out → GG g x 4 Q 0 0 y M 41 [some (.ref a0), some (.int a1), none, none] [.int v4] := by
    intro v4 h; subst ej5
    refine g_istore_n C tb_X6_readExpr_0_ok (i := 18) rfl rfl rfl ?_
    refine g_iload_n C tb_X6_readExpr_0_ok (i := 19) rfl rfl ?_
    refine g_bipushv C tb_X6_readExpr_0_ok (i := 20) 6 rfl k_bipushv_6 ?_
    obtain ⟨j6, ej6, h⟩ := jn_e h
    have J61 : ∀ (_u : Unit), j6 _u = some out → GG g x 4 Q 0 0 y M 61 [some (.ref a0), some (.int a1), none, none] [] := by
      intro _u h; subst ej6
      refine g_aload_n C tb_X6_readExpr_0_ok (i := 29) rfl rfl ?_
      refine g_iload_n C tb_X6_readExpr_0_ok (i := 30) rfl rfl ?_
      obtain ⟨r7, M8, er7, h⟩ := c0_e h
      refine g_callV0 C tb_X6_readExpr_0_ok (i := 31) [.int a1] rfl mw_X6_readAnd mv_X6_readAnd ml_X6_38 k1 (bl (by omega)) rfl rfl rfl (w_X6_readAnd (n := n) hR C.G y a0 a1 M) er7 rfl rfl rfl ?_
      obtain ⟨t9, f10⟩ := br_e h
      refine g_if_ne C tb_X6_readExpr_0_ok (i := 32) 71 rfl rfl (fun c => ?_) (fun c => ?_)
      · have h := f10 c
        refine g_iconstv C tb_X6_readExpr_0_ok (i := 35) 0 rfl k_iconstv_0 ?_
        refine g_istore_n C tb_X6_readExpr_0_ok (i := 36) rfl rfl rfl ?_
        refine g_less (L' := [some (.ref a0), some (.int a1), none, some (.int (0 : Int32))]) ⟨rfl, ⟨rfl, ⟨rfl, trivial⟩⟩⟩ ?_
        refine fix_i (P := fun (f : Int32 → Mem → Option (Int32 × Mem)) => ∀ (v11 : Int32) (M12 : Mem), f v11 M12 = some out → GG g x 4 Q 0 0 y M12 73 [some (.ref a0), some (.int a1), none, some (.int v11)] []) ?_ ?_ _ (0 : Int32) M8 h
        · intro v11 M12 h; exact (nn_e h).elim
        · intro s13 ih14 v11 M12 h
          refine g_iload_n C tb_X6_readExpr_0_ok (i := 37) rfl rfl ?_
          refine g_sipushv C tb_X6_readExpr_0_ok (i := 38) 700 rfl k_sipushv_700 ?_
          obtain ⟨j15, ej15, h⟩ := jn_e h
          have J124 : ∀ (_u : Unit), j15 _u = some out → GG g x 4 Q 0 0 y M12 124 [none, none, none, none] [] := by
            intro _u h; subst ej15
            refine g_iconstv C tb_X6_readExpr_1_ok (i := 20) 1 rfl k_iconstv_1 ?_
            cases h
            exact g_zret0 C R0 (by decide) tb_X6_readExpr_1_ok (i := 21) rfl
          obtain ⟨t16, f17⟩ := br_e h
          refine g_icmp_ge C tb_X6_readExpr_0_ok (i := 39) 124 rfl rfl (fun c => ?_) (fun c => ?_)
          · have h := t16 c
            exact g_less (L' := [none, none, none, none]) trivial (J124 () h)
          · have h := f17 c
            refine g_aload_n C tb_X6_readExpr_1_ok (i := 0) rfl rfl ?_
            refine g_getR C tb_X6_readExpr_1_ok (i := 1) rfl fl_X6_9 rfl k1 n2 ?_
            refine g_ldcS C tb_X6_readExpr_1_ok (i := 2) (k := 17) (v := 1017) rfl rfl rfl (by decide) rfl ?_
            obtain ⟨r18, er18, h⟩ := cp_e h
            refine g_callV0 C tb_X6_readExpr_1_ok (i := 3) [.ref 1017] rfl mw_X10_isWord mv_X10_isWord ml_X6_43 k3 (bl (by omega)) rfl rfl rfl (w_X10_isWord C.G y (y.2.1 a0 0) 1017 M12) (pm_s er18) rfl rfl rfl ?_
            obtain ⟨t19, f20⟩ := br_e h
            refine g_if_eq C tb_X6_readExpr_1_ok (i := 4) 124 rfl rfl (fun c => ?_) (fun c => ?_)
            · have h := t19 c
              exact g_less (L' := [none, none, none, none]) trivial (J124 () h)
            · have h := f20 c
              refine g_aload_n C tb_X6_readExpr_1_ok (i := 5) rfl rfl ?_
              refine g_getR C tb_X6_readExpr_1_ok (i := 6) rfl fl_X6_9 rfl k1 n2 ?_
              obtain ⟨r21, M22, er21, h⟩ := c0_e h
              refine g_callV0 C tb_X6_readExpr_1_ok (i := 7) [] rfl mw_X10_advance mv_X10_advance ml_X6_47 k3 (bl (by omega)) rfl rfl rfl (w_X10_advance C.G y (y.2.1 a0 0) M12) er21 rfl rfl rfl ?_
              refine g_aload_n C tb_X6_readExpr_1_ok (i := 8) rfl rfl ?_
              refine g_iload_n C tb_X6_readExpr_1_ok (i := 9) rfl rfl ?_
              obtain ⟨r23, M24, er23, h⟩ := c0_e h
              refine g_callV0 C tb_X6_readExpr_1_ok (i := 10) [.int a1] rfl mw_X6_readAnd mv_X6_readAnd ml_X6_38 k1 (bl (by omega)) rfl rfl rfl (w_X6_readAnd (n := n) hR C.G y a0 a1 M22) er23 rfl rfl rfl ?_
              obtain ⟨t25, f26⟩ := br_e h
              refine g_if_ne C tb_X6_readExpr_1_ok (i := 11) 109 rfl rfl (fun c => ?_) (fun c => ?_)
              · have h := f26 c
                refine g_aload_n C tb_X6_readExpr_1_ok (i := 14) rfl rfl ?_
                obtain ⟨n27, h⟩ := gN_e h
                refine g_getM C tb_X6_readExpr_1_ok (i := 15) rfl fl_X6_15 rfl k1 n27 ?_
                refine g_bipushv C tb_X6_readExpr_1_ok (i := 16) (-11) rfl k_bipushv_m11 ?_
                obtain ⟨k28, h⟩ := gK_e h
                obtain ⟨r29, M30, er29, h⟩ := c0_e h
                refine g_callV0 C tb_X6_readExpr_1_ok (i := 17) [.int ((-11) : Int32)] rfl mw_X5_put mv_X5_put ml_X6_50 k28 (bl (by omega)) rfl rfl rfl (w_X5_put C.G y (M24.2.2 a0 1) ((-11) : Int32) M24) er29 rfl rfl rfl ?_
                obtain ⟨v31, ev31⟩ : ∃ w : Int32, w = v11 + (1 : Int32) := ⟨_, rfl⟩
                have h := lt_e ev31 h
                refine g_iincv C tb_X6_readExpr_1_ok (i := 18) (1 : Int32) ev31 rfl rfl k_iconstv_1 rfl rfl ?_
                refine g_goto C tb_X6_readExpr_1_ok (i := 19) 73 rfl rfl ?_
                exact g_less (L' := [some (.ref a0), some (.int a1), none, some (.int v31)]) ⟨rfl, ⟨rfl, ⟨rfl, trivial⟩⟩⟩ (ih14 v31 M30 h)
              · have h := t25 c
                refine g_iconstv C tb_X6_readExpr_1_ok (i := 12) 0 rfl k_iconstv_0 ?_
                cases h
                exact g_zret0 C R0 (by decide) tb_X6_readExpr_1_ok (i := 13) rfl
      · have h := t9 c
        refine g_iconstv C tb_X6_readExpr_0_ok (i := 33) 0 rfl k_iconstv_0 ?_
        cases h
        exact g_zret0 C R0 (by decide) tb_X6_readExpr_0_ok (i := 34) rfl
    obtain ⟨t32, f33⟩ := br_e h
    refine g_icmp_lt C tb_X6_readExpr_0_ok (i := 21) 61 rfl rfl (fun c => ?_) (fun c => ?_)
    · have h := t32 c
      exact g_less (L' := [some (.ref a0), some (.int a1), none, none]) ⟨rfl, ⟨rfl, trivial⟩⟩ (J61 () h)
    · have h := f33 c
      refine g_iload_n C tb_X6_readExpr_0_ok (i := 22) rfl rfl ?_
      obtain ⟨t34, f35⟩ := br_e h
      refine g_if_eq C tb_X6_readExpr_0_ok (i := 23) 61 rfl rfl (fun c => ?_) (fun c => ?_)
      · have h := t34 c
        exact g_less (L' := [some (.ref a0), some (.int a1), none, none]) ⟨rfl, ⟨rfl, trivial⟩⟩ (J61 () h)
      · have h := f35 c
        refine g_aload_n C tb_X6_readExpr_0_ok (i := 24) rfl rfl ?_
        refine g_getR C tb_X6_readExpr_0_ok (i := 25) rfl fl_X6_9 rfl k1 n2 ?_
        refine g_iconstv C tb_X6_readExpr_0_ok (i := 26) 2 rfl k_iconstv_2 ?_
        obtain ⟨r36, M37, er36, h⟩ := c0_e h
        refine g_callV0 C tb_X6_readExpr_0_ok (i := 27) [.int (2 : Int32)] rfl mw_X10_refuse mv_X10_refuse ml_X6_34 k3 (bl (by omega)) rfl rfl rfl (w_X10_refuse C.G y (y.2.1 a0 0) (2 : Int32) M) er36 rfl rfl rfl ?_
        obtain ⟨hz, h⟩ := gd_e h
        cases h
        exact g_zret0 C R0 hz tb_X6_readExpr_0_ok (i := 28) rfl
  obtain ⟨j38, ej38, h⟩ := jn_e h
  have J36 : ∀ (_u : Unit), j38 _u = some out → GG g x 4 Q 0 0 y M 36 [some (.ref a0), some (.int a1), none, none] [] := by
    intro _u h; subst ej38
    refine g_iconstv C tb_X6_readExpr_0_ok (i := 15) 1 rfl k_iconstv_1 ?_
    refine g_goto C tb_X6_readExpr_0_ok (i := 16) 41 rfl rfl ?_
    exact g_less (L' := [some (.ref a0), some (.int a1), none, none]) ⟨rfl, ⟨rfl, trivial⟩⟩ (J41 (1 : Int32) h)
  obtain ⟨t39, f40⟩ := br_e h
  refine g_icmp_eq C tb_X6_readExpr_0_ok (i := 4) 36 rfl rfl (fun c => ?_) (fun c => ?_)
  · have h := t39 c
    exact g_less (L' := [some (.ref a0), some (.int a1), none, none]) ⟨rfl, ⟨rfl, trivial⟩⟩ (J36 () h)
  · have h := f40 c
    refine g_aload_n C tb_X6_readExpr_0_ok (i := 5) rfl rfl ?_
    refine g_getR C tb_X6_readExpr_0_ok (i := 6) rfl fl_X6_9 rfl k1 n2 ?_
    refine g_getI C tb_X6_readExpr_0_ok (i := 7) rfl fl_X6_28 rfl k3 ?_
    refine g_bipushv C tb_X6_readExpr_0_ok (i := 8) (-2) rfl k_bipushv_m2 ?_
    obtain ⟨t41, f42⟩ := br_e h
    refine g_icmp_eq C tb_X6_readExpr_0_ok (i := 9) 36 rfl rfl (fun c => ?_) (fun c => ?_)
    · have h := t41 c
      exact g_less (L' := [some (.ref a0), some (.int a1), none, none]) ⟨rfl, ⟨rfl, trivial⟩⟩ (J36 () h)
    · have h := f42 c
      refine g_aload_n C tb_X6_readExpr_0_ok (i := 10) rfl rfl ?_
      refine g_getR C tb_X6_readExpr_0_ok (i := 11) rfl fl_X6_9 rfl k1 n2 ?_
      refine g_getI C tb_X6_readExpr_0_ok (i := 12) rfl fl_X6_28 rfl k3 ?_
      refine g_bipushv C tb_X6_readExpr_0_ok (i := 13) 40 rfl k_bipushv_40 ?_
      obtain ⟨t43, f44⟩ := br_e h
      refine g_icmp_ne C tb_X6_readExpr_0_ok (i := 14) 40 rfl rfl (fun c => ?_) (fun c => ?_)
      · have h := f44 c
        refine g_iconstv C tb_X6_readExpr_0_ok (i := 17) 0 rfl k_iconstv_0 ?_
        exact g_less (L' := [some (.ref a0), some (.int a1), none, none]) ⟨rfl, ⟨rfl, trivial⟩⟩ (J41 (0 : Int32) h)
      · have h := t43 c
        exact g_less (L' := [some (.ref a0), some (.int a1), none, none]) ⟨rfl, ⟨rfl, trivial⟩⟩ (J36 () h)
def f_X6_readExpr (y : Lay) (a0 : Nat) (a1 : Int32) (M : Mem) : Option (Int32 × Mem) := fixN (fun _ _ _ _ => none) (fun R => f_X6_readExprB R) 12 y a0 a1 M
theorem w_X6_readExpr {g : GX} {l : Launch} (hG : GF g l) (y : Lay) (a0 : Nat) (a1 : Int32) (M : Mem) : C0 g l yX6_readExpr cX6_readExpr 4 (some .boolean) 90 y [.ref a0, .int a1] M (f_X6_readExpr y a0 a1 M) := by
  have key : ∀ n : Nat, ∀ l : Launch, GF g l → ∀ (y : Lay) (a0 : Nat) (a1 : Int32) (M : Mem), C0 g l yX6_readExpr cX6_readExpr 4 (some .boolean) (6 + 7 * n) y [.ref a0, .int a1] M (fixN (fun _ _ _ _ => none) (fun R => f_X6_readExprB R) n y a0 a1 M) := by
    intro n
    induction n with
    | zero => intro l hG y a0 a1 M out h; exact (nn_e h).elim
    | succ n ih =>
      intro l hG y a0 a1 M
      rw [show 6 + 7 * (n + 1) = 6 + 7 * n + 7 by omega]
      exact w_X6_readExprB ih hG y a0 a1 M
  exact key 12 l hG y a0 a1 M
def f_X2_readRule (y : Lay) (a0 : Nat) (a1 : Int32) (a2 : Nat) (M : Mem) : Option (Int32 × Mem) := gK y a0 (0, 2) (c0 (f_X2_passesOnce y a0 a1 M) fun (r2 : Int32) (M3 : Mem) => br (r2 = 0) (some ((0 : Int32), M3)) (gN (y.2.1 a0 1) (jn (fun (v7 : Int32) => gK y (y.2.1 a0 1) (0, 6) (c0 (f_X6_begin y (y.2.1 a0 1) a2 v7 M3) fun (r10 : Int32) (M11 : Mem) => c0 (f_X6_readExpr y (y.2.1 a0 1) (0 : Int32) M11) fun (r12 : Int32) (M13 : Mem) => jn (fun (v14 : Int32) (M15 : Mem) => gd (v14 = 0 ∨ v14 = 1) (some (v14, M15))) fun j16 => jn (fun (M17 : Mem) => j16 (0 : Int32) M17) fun j18 => br (r12 = 0) (j18 M13) (gN (y.2.1 a0 0) (gK y (y.2.1 a0 0) (0, 10) (c0 (f_X10_passes y (y.2.1 a0 0) (59 : Int32) M13) fun (r23 : Int32) (M24 : Mem) => br (r23 = 0) (j18 M24) (j16 (1 : Int32) M24)))))) fun j8 => br (a1 = (16 : Int32)) (j8 (1 : Int32)) (j8 (0 : Int32)))))
theorem w_X2_readRule {g : GX} {l : Launch} (hG : GF g l) (y : Lay) (a0 : Nat) (a1 : Int32) (a2 : Nat) (M : Mem) : C0 g l yX2_readRule cX2_readRule 3 (some .boolean) 91 y [.ref a0, .int a1, .ref a2] M (f_X2_readRule y a0 a1 a2 M) := by
  refine C0_of hG (by decide) [some (.ref a0), some (.int a1), some (.ref a2)] rfl rfl (fun out h x Q C R => ?_)
  unfold f_X2_readRule at h
  refine g_aload_n C tb_X2_readRule_0_ok (i := 0) rfl rfl ?_
  refine g_iload_n C tb_X2_readRule_0_ok (i := 1) rfl rfl ?_
  obtain ⟨k1, h⟩ := gK_e h
  obtain ⟨r2, M3, er2, h⟩ := c0_e h
  refine g_callV0 C tb_X2_readRule_0_ok (i := 2) [.int a1] rfl mw_X2_passesOnce mv_X2_passesOnce ml_X2_135 k1 rfl rfl rfl rfl (w_X2_passesOnce C.G y a0 a1 M) er2 rfl rfl rfl ?_
  obtain ⟨t4, f5⟩ := br_e h
  refine g_if_ne C tb_X2_readRule_0_ok (i := 3) 10 rfl rfl (fun c => ?_) (fun c => ?_)
  · have h := f5 c
    refine g_aload_n C tb_X2_readRule_0_ok (i := 6) rfl rfl ?_
    obtain ⟨n6, h⟩ := gN_e h
    refine g_getR C tb_X2_readRule_0_ok (i := 7) rfl fl_X2_45 rfl k1 n6 ?_
    refine g_aload_n C tb_X2_readRule_0_ok (i := 8) rfl rfl ?_
    refine g_iload_n C tb_X2_readRule_0_ok (i := 9) rfl rfl ?_
    refine g_bipushv C tb_X2_readRule_0_ok (i := 10) 16 rfl k_bipushv_16 ?_
    obtain ⟨j8, ej8, h⟩ := jn_e h
    have J26 : ∀ (v7 : Int32), j8 v7 = some out → GG g x 3 Q 0 0 y M3 26 [some (.ref a0), none, none] [.int v7, .ref a2, .ref (y.2.1 a0 1)] := by
      intro v7 h; subst ej8
      obtain ⟨k9, h⟩ := gK_e h
      obtain ⟨r10, M11, er10, h⟩ := c0_e h
      refine g_callV0 C tb_X2_readRule_0_ok (i := 15) [.ref a2, .int v7] rfl mw_X6_begin mv_X6_begin ml_X2_184 k9 rfl rfl rfl rfl (w_X6_begin C.G y (y.2.1 a0 1) a2 v7 M3) er10 rfl rfl rfl ?_
      refine g_aload_n C tb_X2_readRule_0_ok (i := 16) rfl rfl ?_
      refine g_getR C tb_X2_readRule_0_ok (i := 17) rfl fl_X2_45 rfl k1 n6 ?_
      refine g_iconstv C tb_X2_readRule_0_ok (i := 18) 0 rfl k_iconstv_0 ?_
      obtain ⟨r12, M13, er12, h⟩ := c0_e h
      refine g_callN0 C tb_X2_readRule_0_ok (i := 19) [.int (0 : Int32)] rfl mw_X6_readExpr mv_X6_readExpr mln_X2_187 k9 rfl rfl rfl rfl (w_X6_readExpr C.G y (y.2.1 a0 1) (0 : Int32) M11) er12 rfl rfl rfl ?_
      obtain ⟨j16, ej16, h⟩ := jn_e h
      have J57 : ∀ (v14 : Int32) (M15 : Mem), j16 v14 M15 = some out → GG g x 3 Q 0 0 y M15 57 [none, none, none] [.int v14] := by
        intro v14 M15 h; subst ej16
        obtain ⟨hz, h⟩ := gd_e h
        cases h
        exact g_zret0 C R hz tb_X2_readRule_0_ok (i := 29) rfl
      obtain ⟨j18, ej18, h⟩ := jn_e h
      have J56 : ∀ (M17 : Mem), j18 M17 = some out → GG g x 3 Q 0 0 y M17 56 [none, none, none] [] := by
        intro M17 h; subst ej18
        refine g_iconstv C tb_X2_readRule_0_ok (i := 28) 0 rfl k_iconstv_0 ?_
        exact g_less (L' := [none, none, none]) trivial (J57 (0 : Int32) M17 h)
      obtain ⟨t19, f20⟩ := br_e h
      refine g_if_eq C tb_X2_readRule_0_ok (i := 20) 56 rfl rfl (fun c => ?_) (fun c => ?_)
      · have h := t19 c
        exact g_less (L' := [none, none, none]) trivial (J56 M13 h)
      · have h := f20 c
        refine g_aload_n C tb_X2_readRule_0_ok (i := 21) rfl rfl ?_
        obtain ⟨n21, h⟩ := gN_e h
        refine g_getR C tb_X2_readRule_0_ok (i := 22) rfl fl_X2_32 rfl k1 n21 ?_
        refine g_bipushv C tb_X2_readRule_0_ok (i := 23) 59 rfl k_bipushv_59 ?_
        obtain ⟨k22, h⟩ := gK_e h
        obtain ⟨r23, M24, er23, h⟩ := c0_e h
        refine g_callV0 C tb_X2_readRule_0_ok (i := 24) [.int (59 : Int32)] rfl mw_X10_passes mv_X10_passes ml_X2_146 k22 rfl rfl rfl rfl (w_X10_passes C.G y (y.2.1 a0 0) (59 : Int32) M13) er23 rfl rfl rfl ?_
        obtain ⟨t25, f26⟩ := br_e h
        refine g_if_eq C tb_X2_readRule_0_ok (i := 25) 56 rfl rfl (fun c => ?_) (fun c => ?_)
        · have h := t25 c
          exact g_less (L' := [none, none, none]) trivial (J56 M24 h)
        · have h := f26 c
          refine g_iconstv C tb_X2_readRule_0_ok (i := 26) 1 rfl k_iconstv_1 ?_
          refine g_goto C tb_X2_readRule_0_ok (i := 27) 57 rfl rfl ?_
          exact g_less (L' := [none, none, none]) trivial (J57 (1 : Int32) M24 h)
    obtain ⟨t27, f28⟩ := br_e h
    refine g_icmp_ne C tb_X2_readRule_0_ok (i := 11) 25 rfl rfl (fun c => ?_) (fun c => ?_)
    · have h := f28 c
      refine g_iconstv C tb_X2_readRule_0_ok (i := 14) 0 rfl k_iconstv_0 ?_
      exact g_less (L' := [some (.ref a0), none, none]) ⟨rfl, trivial⟩ (J26 (0 : Int32) h)
    · have h := t27 c
      refine g_iconstv C tb_X2_readRule_0_ok (i := 12) 1 rfl k_iconstv_1 ?_
      refine g_goto C tb_X2_readRule_0_ok (i := 13) 26 rfl rfl ?_
      exact g_less (L' := [some (.ref a0), none, none]) ⟨rfl, trivial⟩ (J26 (1 : Int32) h)
  · have h := t4 c
    refine g_iconstv C tb_X2_readRule_0_ok (i := 4) 0 rfl k_iconstv_0 ?_
    cases h
    exact g_zret0 C R (by decide) tb_X2_readRule_0_ok (i := 5) rfl
def f_X2_readLine (y : Lay) (a0 : Nat) (M : Mem) : Option (Int32 × Mem) := gK y a0 (0, 2) (gN (y.2.1 a0 0) (gK y (y.2.1 a0 0) (0, 10) (cp (f_X10_isWord y (y.2.1 a0 0) 1000 M) fun (r4 : Int32) => br (r4 = 0) (cp (f_X10_isWord y (y.2.1 a0 0) 1001 M) fun (r7 : Int32) => br (r7 = 0) (cp (f_X10_isWord y (y.2.1 a0 0) 1002 M) fun (r10 : Int32) => br (r10 = 0) (cp (f_X10_isWord y (y.2.1 a0 0) 1003 M) fun (r13 : Int32) => br (r13 = 0) (cp (f_X10_isWord y (y.2.1 a0 0) 1004 M) fun (r16 : Int32) => br (r16 = 0) (cp (f_X10_isWord y (y.2.1 a0 0) 1005 M) fun (r19 : Int32) => br (r19 = 0) (cp (f_X10_isWord y (y.2.1 a0 0) 1006 M) fun (r22 : Int32) => br (r22 = 0) (cp (f_X10_isWord y (y.2.1 a0 0) 1007 M) fun (r25 : Int32) => br (r25 = 0) (cp (f_X10_isWord y (y.2.1 a0 0) 1008 M) fun (r28 : Int32) => br (r28 = 0) (cp (f_X10_isWord y (y.2.1 a0 0) 1018 M) fun (r31 : Int32) => br (r31 = 0) (c0 (f_X10_refuse y (y.2.1 a0 0) (1 : Int32) M) fun (r34 : Int32) (M35 : Mem) => gd (r34 = 0 ∨ r34 = 1) (some (r34, M35))) (gN (y.2.1 a0 2) (gK y (y.2.1 a0 2) (0, 1) (gN (y.2.1 (y.2.1 a0 2) 8) (c0 (f_X2_readRule y a0 (32 : Int32) (y.2.1 (y.2.1 a0 2) 8) M) fun (r39 : Int32) (M40 : Mem) => gd (r39 = 0 ∨ r39 = 1) (some (r39, M40))))))) (gN (y.2.1 a0 2) (gK y (y.2.1 a0 2) (0, 1) (gN (y.2.1 (y.2.1 a0 2) 7) (c0 (f_X2_readRule y a0 (16 : Int32) (y.2.1 (y.2.1 a0 2) 7) M) fun (r44 : Int32) (M45 : Mem) => gd (r44 = 0 ∨ r44 = 1) (some (r44, M45))))))) (c0 (f_X2_readBound y a0 M) fun (r46 : Int32) (M47 : Mem) => gd (r46 = 0 ∨ r46 = 1) (some (r46, M47)))) (c0 (f_X2_readRinse y a0 M) fun (r48 : Int32) (M49 : Mem) => gd (r48 = 0 ∨ r48 = 1) (some (r48, M49)))) (c0 (f_X2_readKnobs y a0 M) fun (r50 : Int32) (M51 : Mem) => gd (r50 = 0 ∨ r50 = 1) (some (r50, M51)))) (c0 (f_X2_readPegs y a0 M) fun (r52 : Int32) (M53 : Mem) => gd (r52 = 0 ∨ r52 = 1) (some (r52, M53)))) (c0 (f_X2_readGirl y a0 (1 : Int32) M) fun (r54 : Int32) (M55 : Mem) => gd (r54 = 0 ∨ r54 = 1) (some (r54, M55)))) (c0 (f_X2_readGirl y a0 (0 : Int32) M) fun (r56 : Int32) (M57 : Mem) => gd (r56 = 0 ∨ r56 = 1) (some (r56, M57)))) (c0 (f_X2_readBlue y a0 M) fun (r58 : Int32) (M59 : Mem) => gd (r58 = 0 ∨ r58 = 1) (some (r58, M59)))) (c0 (f_X2_readSky y a0 M) fun (r60 : Int32) (M61 : Mem) => gd (r60 = 0 ∨ r60 = 1) (some (r60, M61))))))
theorem w_X2_readLine {g : GX} {l : Launch} (hG : GF g l) (y : Lay) (a0 : Nat) (M : Mem) : C0 g l yX2_readLine cX2_readLine 1 (some .boolean) 92 y [.ref a0] M (f_X2_readLine y a0 M) := by
  refine C0_of hG (by decide) [some (.ref a0)] rfl rfl (fun out h x Q C R => ?_)
  unfold f_X2_readLine at h
  refine g_aload_n C tb_X2_readLine_0_ok (i := 0) rfl rfl ?_
  obtain ⟨k1, h⟩ := gK_e h
  obtain ⟨n2, h⟩ := gN_e h
  refine g_getR C tb_X2_readLine_0_ok (i := 1) rfl fl_X2_32 rfl k1 n2 ?_
  refine g_ldcS C tb_X2_readLine_0_ok (i := 2) (k := 0) (v := 1000) rfl rfl rfl (by decide) rfl ?_
  obtain ⟨k3, h⟩ := gK_e h
  obtain ⟨r4, er4, h⟩ := cp_e h
  refine g_callV0 C tb_X2_readLine_0_ok (i := 3) [.ref 1000] rfl mw_X10_isWord mv_X10_isWord ml_X2_82 k3 rfl rfl rfl rfl (w_X10_isWord C.G y (y.2.1 a0 0) 1000 M) (pm_s er4) rfl rfl rfl ?_
  obtain ⟨t5, f6⟩ := br_e h
  refine g_if_eq C tb_X2_readLine_0_ok (i := 4) 17 rfl rfl (fun c => ?_) (fun c => ?_)
  · have h := t5 c
    refine g_aload_n C tb_X2_readLine_0_ok (i := 8) rfl rfl ?_
    refine g_getR C tb_X2_readLine_0_ok (i := 9) rfl fl_X2_32 rfl k1 n2 ?_
    refine g_ldcS C tb_X2_readLine_0_ok (i := 10) (k := 1) (v := 1001) rfl rfl rfl (by decide) rfl ?_
    obtain ⟨r7, er7, h⟩ := cp_e h
    refine g_callV0 C tb_X2_readLine_0_ok (i := 11) [.ref 1001] rfl mw_X10_isWord mv_X10_isWord ml_X2_82 k3 rfl rfl rfl rfl (w_X10_isWord C.G y (y.2.1 a0 0) 1001 M) (pm_s er7) rfl rfl rfl ?_
    obtain ⟨t8, f9⟩ := br_e h
    refine g_if_eq C tb_X2_readLine_0_ok (i := 12) 34 rfl rfl (fun c => ?_) (fun c => ?_)
    · have h := t8 c
      refine g_aload_n C tb_X2_readLine_0_ok (i := 16) rfl rfl ?_
      refine g_getR C tb_X2_readLine_0_ok (i := 17) rfl fl_X2_32 rfl k1 n2 ?_
      refine g_ldcS C tb_X2_readLine_0_ok (i := 18) (k := 2) (v := 1002) rfl rfl rfl (by decide) rfl ?_
      obtain ⟨r10, er10, h⟩ := cp_e h
      refine g_callV0 C tb_X2_readLine_0_ok (i := 19) [.ref 1002] rfl mw_X10_isWord mv_X10_isWord ml_X2_82 k3 rfl rfl rfl rfl (w_X10_isWord C.G y (y.2.1 a0 0) 1002 M) (pm_s er10) rfl rfl rfl ?_
      obtain ⟨t11, f12⟩ := br_e h
      refine g_if_eq C tb_X2_readLine_0_ok (i := 20) 52 rfl rfl (fun c => ?_) (fun c => ?_)
      · have h := t11 c
        refine g_aload_n C tb_X2_readLine_0_ok (i := 25) rfl rfl ?_
        refine g_getR C tb_X2_readLine_0_ok (i := 26) rfl fl_X2_32 rfl k1 n2 ?_
        refine g_ldcS C tb_X2_readLine_0_ok (i := 27) (k := 3) (v := 1003) rfl rfl rfl (by decide) rfl ?_
        obtain ⟨r13, er13, h⟩ := cp_e h
        refine g_callV0 C tb_X2_readLine_0_ok (i := 28) [.ref 1003] rfl mw_X10_isWord mv_X10_isWord ml_X2_82 k3 rfl rfl rfl rfl (w_X10_isWord C.G y (y.2.1 a0 0) 1003 M) (pm_s er13) rfl rfl rfl ?_
        obtain ⟨t14, f15⟩ := br_e h
        refine g_if_eq C tb_X2_readLine_0_ok (i := 29) 70 rfl rfl (fun c => ?_) (fun c => ?_)
        · have h := t14 c
          refine g_aload_n C tb_X2_readLine_0_ok (i := 34) rfl rfl ?_
          refine g_getR C tb_X2_readLine_0_ok (i := 35) rfl fl_X2_32 rfl k1 n2 ?_
          refine g_ldcS C tb_X2_readLine_0_ok (i := 36) (k := 4) (v := 1004) rfl rfl rfl (by decide) rfl ?_
          obtain ⟨r16, er16, h⟩ := cp_e h
          refine g_callV0 C tb_X2_readLine_0_ok (i := 37) [.ref 1004] rfl mw_X10_isWord mv_X10_isWord ml_X2_82 k3 rfl rfl rfl rfl (w_X10_isWord C.G y (y.2.1 a0 0) 1004 M) (pm_s er16) rfl rfl rfl ?_
          obtain ⟨t17, f18⟩ := br_e h
          refine g_if_eq C tb_X2_readLine_0_ok (i := 38) 87 rfl rfl (fun c => ?_) (fun c => ?_)
          · have h := t17 c
            refine g_aload_n C tb_X2_readLine_1_ok (i := 2) rfl rfl ?_
            refine g_getR C tb_X2_readLine_1_ok (i := 3) rfl fl_X2_32 rfl k1 n2 ?_
            refine g_ldcS C tb_X2_readLine_1_ok (i := 4) (k := 5) (v := 1005) rfl rfl rfl (by decide) rfl ?_
            obtain ⟨r19, er19, h⟩ := cp_e h
            refine g_callV0 C tb_X2_readLine_1_ok (i := 5) [.ref 1005] rfl mw_X10_isWord mv_X10_isWord ml_X2_82 k3 rfl rfl rfl rfl (w_X10_isWord C.G y (y.2.1 a0 0) 1005 M) (pm_s er19) rfl rfl rfl ?_
            obtain ⟨t20, f21⟩ := br_e h
            refine g_if_eq C tb_X2_readLine_1_ok (i := 6) 104 rfl rfl (fun c => ?_) (fun c => ?_)
            · have h := t20 c
              refine g_aload_n C tb_X2_readLine_1_ok (i := 10) rfl rfl ?_
              refine g_getR C tb_X2_readLine_1_ok (i := 11) rfl fl_X2_32 rfl k1 n2 ?_
              refine g_ldcS C tb_X2_readLine_1_ok (i := 12) (k := 6) (v := 1006) rfl rfl rfl (by decide) rfl ?_
              obtain ⟨r22, er22, h⟩ := cp_e h
              refine g_callV0 C tb_X2_readLine_1_ok (i := 13) [.ref 1006] rfl mw_X10_isWord mv_X10_isWord ml_X2_82 k3 rfl rfl rfl rfl (w_X10_isWord C.G y (y.2.1 a0 0) 1006 M) (pm_s er22) rfl rfl rfl ?_
              obtain ⟨t23, f24⟩ := br_e h
              refine g_if_eq C tb_X2_readLine_1_ok (i := 14) 121 rfl rfl (fun c => ?_) (fun c => ?_)
              · have h := t23 c
                refine g_aload_n C tb_X2_readLine_1_ok (i := 18) rfl rfl ?_
                refine g_getR C tb_X2_readLine_1_ok (i := 19) rfl fl_X2_32 rfl k1 n2 ?_
                refine g_ldcS C tb_X2_readLine_1_ok (i := 20) (k := 7) (v := 1007) rfl rfl rfl (by decide) rfl ?_
                obtain ⟨r25, er25, h⟩ := cp_e h
                refine g_callV0 C tb_X2_readLine_1_ok (i := 21) [.ref 1007] rfl mw_X10_isWord mv_X10_isWord ml_X2_82 k3 rfl rfl rfl rfl (w_X10_isWord C.G y (y.2.1 a0 0) 1007 M) (pm_s er25) rfl rfl rfl ?_
                obtain ⟨t26, f27⟩ := br_e h
                refine g_if_eq C tb_X2_readLine_1_ok (i := 22) 138 rfl rfl (fun c => ?_) (fun c => ?_)
                · have h := t26 c
                  refine g_aload_n C tb_X2_readLine_1_ok (i := 26) rfl rfl ?_
                  refine g_getR C tb_X2_readLine_1_ok (i := 27) rfl fl_X2_32 rfl k1 n2 ?_
                  refine g_ldcS C tb_X2_readLine_1_ok (i := 28) (k := 8) (v := 1008) rfl rfl rfl (by decide) rfl ?_
                  obtain ⟨r28, er28, h⟩ := cp_e h
                  refine g_callV0 C tb_X2_readLine_1_ok (i := 29) [.ref 1008] rfl mw_X10_isWord mv_X10_isWord ml_X2_82 k3 rfl rfl rfl rfl (w_X10_isWord C.G y (y.2.1 a0 0) 1008 M) (pm_s er28) rfl rfl rfl ?_
                  obtain ⟨t29, f30⟩ := br_e h
                  refine g_if_eq C tb_X2_readLine_1_ok (i := 30) 164 rfl rfl (fun c => ?_) (fun c => ?_)
                  · have h := t29 c
                    refine g_aload_n C tb_X2_readLine_1_ok (i := 38) rfl rfl ?_
                    refine g_getR C tb_X2_readLine_1_ok (i := 39) rfl fl_X2_32 rfl k1 n2 ?_
                    refine g_ldcS C tb_X2_readLine_2_ok (i := 0) (k := 18) (v := 1018) rfl rfl rfl (by decide) rfl ?_
                    obtain ⟨r31, er31, h⟩ := cp_e h
                    refine g_callV0 C tb_X2_readLine_2_ok (i := 1) [.ref 1018] rfl mw_X10_isWord mv_X10_isWord ml_X2_82 k3 rfl rfl rfl rfl (w_X10_isWord C.G y (y.2.1 a0 0) 1018 M) (pm_s er31) rfl rfl rfl ?_
                    obtain ⟨t32, f33⟩ := br_e h
                    refine g_if_eq C tb_X2_readLine_2_ok (i := 2) 190 rfl rfl (fun c => ?_) (fun c => ?_)
                    · have h := t32 c
                      refine g_aload_n C tb_X2_readLine_2_ok (i := 10) rfl rfl ?_
                      refine g_getR C tb_X2_readLine_2_ok (i := 11) rfl fl_X2_32 rfl k1 n2 ?_
                      refine g_iconstv C tb_X2_readLine_2_ok (i := 12) 1 rfl k_iconstv_1 ?_
                      obtain ⟨r34, M35, er34, h⟩ := c0_e h
                      refine g_callV0 C tb_X2_readLine_2_ok (i := 13) [.int (1 : Int32)] rfl mw_X10_refuse mv_X10_refuse ml_X2_131 k3 rfl rfl rfl rfl (w_X10_refuse C.G y (y.2.1 a0 0) (1 : Int32) M) er34 rfl rfl rfl ?_
                      obtain ⟨hz, h⟩ := gd_e h
                      cases h
                      exact g_zret0 C R hz tb_X2_readLine_2_ok (i := 14) rfl
                    · have h := f33 c
                      refine g_aload_n C tb_X2_readLine_2_ok (i := 3) rfl rfl ?_
                      refine g_bipushv C tb_X2_readLine_2_ok (i := 4) 32 rfl k_bipushv_32 ?_
                      refine g_aload_n C tb_X2_readLine_2_ok (i := 5) rfl rfl ?_
                      obtain ⟨n36, h⟩ := gN_e h
                      refine g_getR C tb_X2_readLine_2_ok (i := 6) rfl fl_X2_12 rfl k1 n36 ?_
                      obtain ⟨k37, h⟩ := gK_e h
                      obtain ⟨n38, h⟩ := gN_e h
                      refine g_getR C tb_X2_readLine_2_ok (i := 7) rfl fl_X2_129 rfl k37 n38 ?_
                      obtain ⟨r39, M40, er39, h⟩ := c0_e h
                      refine g_callV0 C tb_X2_readLine_2_ok (i := 8) [.int (32 : Int32), .ref (y.2.1 (y.2.1 a0 2) 8)] rfl mw_X2_readRule mv_X2_readRule ml_X2_123 k1 rfl rfl rfl rfl (w_X2_readRule C.G y a0 (32 : Int32) (y.2.1 (y.2.1 a0 2) 8) M) er39 rfl rfl rfl ?_
                      obtain ⟨hz, h⟩ := gd_e h
                      cases h
                      exact g_zret0 C R hz tb_X2_readLine_2_ok (i := 9) rfl
                  · have h := f30 c
                    refine g_aload_n C tb_X2_readLine_1_ok (i := 31) rfl rfl ?_
                    refine g_bipushv C tb_X2_readLine_1_ok (i := 32) 16 rfl k_bipushv_16 ?_
                    refine g_aload_n C tb_X2_readLine_1_ok (i := 33) rfl rfl ?_
                    obtain ⟨n41, h⟩ := gN_e h
                    refine g_getR C tb_X2_readLine_1_ok (i := 34) rfl fl_X2_12 rfl k1 n41 ?_
                    obtain ⟨k42, h⟩ := gK_e h
                    obtain ⟨n43, h⟩ := gN_e h
                    refine g_getR C tb_X2_readLine_1_ok (i := 35) rfl fl_X2_38 rfl k42 n43 ?_
                    obtain ⟨r44, M45, er44, h⟩ := c0_e h
                    refine g_callV0 C tb_X2_readLine_1_ok (i := 36) [.int (16 : Int32), .ref (y.2.1 (y.2.1 a0 2) 7)] rfl mw_X2_readRule mv_X2_readRule ml_X2_123 k1 rfl rfl rfl rfl (w_X2_readRule C.G y a0 (16 : Int32) (y.2.1 (y.2.1 a0 2) 7) M) er44 rfl rfl rfl ?_
                    obtain ⟨hz, h⟩ := gd_e h
                    cases h
                    exact g_zret0 C R hz tb_X2_readLine_1_ok (i := 37) rfl
                · have h := f27 c
                  refine g_aload_n C tb_X2_readLine_1_ok (i := 23) rfl rfl ?_
                  obtain ⟨r46, M47, er46, h⟩ := c0_e h
                  refine g_callV0 C tb_X2_readLine_1_ok (i := 24) [] rfl mw_X2_readBound mv_X2_readBound ml_X2_119 k1 rfl rfl rfl rfl (w_X2_readBound C.G y a0 M) er46 rfl rfl rfl ?_
                  obtain ⟨hz, h⟩ := gd_e h
                  cases h
                  exact g_zret0 C R hz tb_X2_readLine_1_ok (i := 25) rfl
              · have h := f24 c
                refine g_aload_n C tb_X2_readLine_1_ok (i := 15) rfl rfl ?_
                obtain ⟨r48, M49, er48, h⟩ := c0_e h
                refine g_callV0 C tb_X2_readLine_1_ok (i := 16) [] rfl mw_X2_readRinse mv_X2_readRinse ml_X2_114 k1 rfl rfl rfl rfl (w_X2_readRinse C.G y a0 M) er48 rfl rfl rfl ?_
                obtain ⟨hz, h⟩ := gd_e h
                cases h
                exact g_zret0 C R hz tb_X2_readLine_1_ok (i := 17) rfl
            · have h := f21 c
              refine g_aload_n C tb_X2_readLine_1_ok (i := 7) rfl rfl ?_
              obtain ⟨r50, M51, er50, h⟩ := c0_e h
              refine g_callV0 C tb_X2_readLine_1_ok (i := 8) [] rfl mw_X2_readKnobs mv_X2_readKnobs ml_X2_109 k1 rfl rfl rfl rfl (w_X2_readKnobs C.G y a0 M) er50 rfl rfl rfl ?_
              obtain ⟨hz, h⟩ := gd_e h
              cases h
              exact g_zret0 C R hz tb_X2_readLine_1_ok (i := 9) rfl
          · have h := f18 c
            refine g_aload_n C tb_X2_readLine_0_ok (i := 39) rfl rfl ?_
            obtain ⟨r52, M53, er52, h⟩ := c0_e h
            refine g_callV0 C tb_X2_readLine_1_ok (i := 0) [] rfl mw_X2_readPegs mv_X2_readPegs ml_X2_104 k1 rfl rfl rfl rfl (w_X2_readPegs C.G y a0 M) er52 rfl rfl rfl ?_
            obtain ⟨hz, h⟩ := gd_e h
            cases h
            exact g_zret0 C R hz tb_X2_readLine_1_ok (i := 1) rfl
        · have h := f15 c
          refine g_aload_n C tb_X2_readLine_0_ok (i := 30) rfl rfl ?_
          refine g_iconstv C tb_X2_readLine_0_ok (i := 31) 1 rfl k_iconstv_1 ?_
          obtain ⟨r54, M55, er54, h⟩ := c0_e h
          refine g_callV0 C tb_X2_readLine_0_ok (i := 32) [.int (1 : Int32)] rfl mw_X2_readGirl mv_X2_readGirl ml_X2_96 k1 rfl rfl rfl rfl (w_X2_readGirl C.G y a0 (1 : Int32) M) er54 rfl rfl rfl ?_
          obtain ⟨hz, h⟩ := gd_e h
          cases h
          exact g_zret0 C R hz tb_X2_readLine_0_ok (i := 33) rfl
      · have h := f12 c
        refine g_aload_n C tb_X2_readLine_0_ok (i := 21) rfl rfl ?_
        refine g_iconstv C tb_X2_readLine_0_ok (i := 22) 0 rfl k_iconstv_0 ?_
        obtain ⟨r56, M57, er56, h⟩ := c0_e h
        refine g_callV0 C tb_X2_readLine_0_ok (i := 23) [.int (0 : Int32)] rfl mw_X2_readGirl mv_X2_readGirl ml_X2_96 k1 rfl rfl rfl rfl (w_X2_readGirl C.G y a0 (0 : Int32) M) er56 rfl rfl rfl ?_
        obtain ⟨hz, h⟩ := gd_e h
        cases h
        exact g_zret0 C R hz tb_X2_readLine_0_ok (i := 24) rfl
    · have h := f9 c
      refine g_aload_n C tb_X2_readLine_0_ok (i := 13) rfl rfl ?_
      obtain ⟨r58, M59, er58, h⟩ := c0_e h
      refine g_callV0 C tb_X2_readLine_0_ok (i := 14) [] rfl mw_X2_readBlue mv_X2_readBlue ml_X2_91 k1 rfl rfl rfl rfl (w_X2_readBlue C.G y a0 M) er58 rfl rfl rfl ?_
      obtain ⟨hz, h⟩ := gd_e h
      cases h
      exact g_zret0 C R hz tb_X2_readLine_0_ok (i := 15) rfl
  · have h := f6 c
    refine g_aload_n C tb_X2_readLine_0_ok (i := 5) rfl rfl ?_
    obtain ⟨r60, M61, er60, h⟩ := c0_e h
    refine g_callV0 C tb_X2_readLine_0_ok (i := 6) [] rfl mw_X2_readSky mv_X2_readSky ml_X2_86 k1 rfl rfl rfl rfl (w_X2_readSky C.G y a0 M) er60 rfl rfl rfl ?_
    obtain ⟨hz, h⟩ := gd_e h
    cases h
    exact g_zret0 C R hz tb_X2_readLine_0_ok (i := 7) rfl
def f_X2_read (y : Lay) (a0 : Nat) (a1 : Int32) (M : Mem) : Option (Int32 × Mem) := gK y a0 (0, 2) (gN (y.2.1 a0 2) (gK y (y.2.1 a0 2) (0, 1) (c0 (f_X1_begin y (y.2.1 a0 2) M) fun (r4 : Int32) (M5 : Mem) => gN (y.2.1 a0 3) (gK y (y.2.1 a0 3) (0, 8) (c0 (f_X8_begin y (y.2.1 a0 3) M5) fun (r8 : Int32) (M9 : Mem) => lt (wI M9 a0 4 (0 : Int32)) fun (M10 : Mem) => lt (wI M10 a0 5 (0 : Int32)) fun (M11 : Mem) => lt (wI M11 a0 6 (0 : Int32)) fun (M12 : Mem) => gN (y.2.1 a0 0) (gK y (y.2.1 a0 0) (0, 10) (c0 (f_X10_begin y (y.2.1 a0 0) a1 M12) fun (r15 : Int32) (M16 : Mem) => fixN (fun _ _ _ => none) (fun (s20 : Int32 → Int32 → Mem → Option (Int32 × Mem)) (v17 : Int32) (v18 : Int32) (M19 : Mem) => jn (fun (_u : Unit) => some ((M19.1 (y.2.1 a0 0) 6), M19)) fun j22 => br ((700 : Int32) ≤ v18) (j22 ()) (br (v17 = 0) (j22 ()) (br ((M19.1 (y.2.1 a0 0) 2) = ((-1) : Int32)) (j22 ()) (c0 (f_X2_readLine y a0 M19) fun (r29 : Int32) (M30 : Mem) => lt (v18 + (1 : Int32)) fun (v31 : Int32) => s20 r29 v31 M30)))) FUEL (1 : Int32) (0 : Int32) M16)))))))
theorem w_X2_read {g : GX} {l : Launch} (hG : GF g l) (y : Lay) (a0 : Nat) (a1 : Int32) (M : Mem) : C0 g l yX2_read cX2_read 4 (some .int) 93 y [.ref a0, .int a1] M (f_X2_read y a0 a1 M) := by
  refine C0_of hG (by decide) [some (.ref a0), some (.int a1), none, none] rfl rfl (fun out h x Q C R => ?_)
  unfold f_X2_read at h
  refine g_aload_n C tb_X2_read_0_ok (i := 0) rfl rfl ?_
  obtain ⟨k1, h⟩ := gK_e h
  obtain ⟨n2, h⟩ := gN_e h
  refine g_getR C tb_X2_read_0_ok (i := 1) rfl fl_X2_12 rfl k1 n2 ?_
  obtain ⟨k3, h⟩ := gK_e h
  obtain ⟨r4, M5, er4, h⟩ := c0_e h
  refine g_callV0 C tb_X2_read_0_ok (i := 2) [] rfl mw_X1_begin mv_X1_begin ml_X2_49 k3 rfl rfl rfl rfl (w_X1_begin C.G y (y.2.1 a0 2) M) er4 rfl rfl rfl ?_
  refine g_aload_n C tb_X2_read_0_ok (i := 3) rfl rfl ?_
  obtain ⟨n6, h⟩ := gN_e h
  refine g_getR C tb_X2_read_0_ok (i := 4) rfl fl_X2_23 rfl k1 n6 ?_
  obtain ⟨k7, h⟩ := gK_e h
  obtain ⟨r8, M9, er8, h⟩ := c0_e h
  refine g_callV0 C tb_X2_read_0_ok (i := 5) [] rfl mw_X8_begin mv_X8_begin ml_X2_52 k7 rfl rfl rfl rfl (w_X8_begin C.G y (y.2.1 a0 3) M5) er8 rfl rfl rfl ?_
  refine g_aload_n C tb_X2_read_0_ok (i := 6) rfl rfl ?_
  refine g_iconstv C tb_X2_read_0_ok (i := 7) 0 rfl k_iconstv_0 ?_
  refine g_putI C tb_X2_read_0_ok (i := 8) rfl fl_X2_53 ft_2_4 rfl k1 ?_
  refine g_mem (fun M10 eM10 => ?_)
  have h := lt_e eM10 h
  refine g_aload_n C tb_X2_read_0_ok (i := 9) rfl rfl ?_
  refine g_iconstv C tb_X2_read_0_ok (i := 10) 0 rfl k_iconstv_0 ?_
  refine g_putI C tb_X2_read_0_ok (i := 11) rfl fl_X2_57 ft_2_5 rfl k1 ?_
  refine g_mem (fun M11 eM11 => ?_)
  have h := lt_e eM11 h
  refine g_aload_n C tb_X2_read_0_ok (i := 12) rfl rfl ?_
  refine g_iconstv C tb_X2_read_0_ok (i := 13) 0 rfl k_iconstv_0 ?_
  refine g_putZ C tb_X2_read_0_ok (i := 14) rfl fl_X2_60 ft_2_6 rfl (by decide) k1 ?_
  refine g_mem (fun M12 eM12 => ?_)
  have h := lt_e eM12 h
  refine g_aload_n C tb_X2_read_0_ok (i := 15) rfl rfl ?_
  obtain ⟨n13, h⟩ := gN_e h
  refine g_getR C tb_X2_read_0_ok (i := 16) rfl fl_X2_32 rfl k1 n13 ?_
  refine g_iload_n C tb_X2_read_0_ok (i := 17) rfl rfl ?_
  obtain ⟨k14, h⟩ := gK_e h
  obtain ⟨r15, M16, er15, h⟩ := c0_e h
  refine g_callV0 C tb_X2_read_0_ok (i := 18) [.int a1] rfl mw_X10_begin mv_X10_begin ml_X2_64 k14 rfl rfl rfl rfl (w_X10_begin C.G y (y.2.1 a0 0) a1 M12) er15 rfl rfl rfl ?_
  refine g_iconstv C tb_X2_read_0_ok (i := 19) 1 rfl k_iconstv_1 ?_
  refine g_istore_n C tb_X2_read_0_ok (i := 20) rfl rfl rfl ?_
  refine g_iconstv C tb_X2_read_0_ok (i := 21) 0 rfl k_iconstv_0 ?_
  refine g_istore_n C tb_X2_read_0_ok (i := 22) rfl rfl rfl ?_
  refine g_less (L' := [some (.ref a0), none, some (.int (1 : Int32)), some (.int (0 : Int32))]) ⟨rfl, ⟨rfl, ⟨rfl, trivial⟩⟩⟩ ?_
  refine fix_i (P := fun (f : Int32 → Int32 → Mem → Option (Int32 × Mem)) => ∀ (v17 : Int32) (v18 : Int32) (M19 : Mem), f v17 v18 M19 = some out → GG g x 4 Q 0 0 y M19 41 [some (.ref a0), none, some (.int v17), some (.int v18)] []) ?_ ?_ _ (1 : Int32) (0 : Int32) M16 h
  · intro v17 v18 M19 h; exact (nn_e h).elim
  · intro s20 ih21 v17 v18 M19 h
    refine g_iload_n C tb_X2_read_0_ok (i := 23) rfl rfl ?_
    refine g_sipushv C tb_X2_read_0_ok (i := 24) 700 rfl k_sipushv_700 ?_
    obtain ⟨j22, ej22, h⟩ := jn_e h
    have J74 : ∀ (_u : Unit), j22 _u = some out → GG g x 4 Q 0 0 y M19 74 [some (.ref a0), none, none, none] [] := by
      intro _u h; subst ej22
      refine g_aload_n C tb_X2_read_0_ok (i := 38) rfl rfl ?_
      refine g_getR C tb_X2_read_0_ok (i := 39) rfl fl_X2_32 rfl k1 n13 ?_
      refine g_getI C tb_X2_read_1_ok (i := 0) rfl fl_X2_74 rfl k14 ?_
      cases h
      exact g_iret0 C R tb_X2_read_1_ok (i := 1) rfl
    obtain ⟨t23, f24⟩ := br_e h
    refine g_icmp_ge C tb_X2_read_0_ok (i := 25) 74 rfl rfl (fun c => ?_) (fun c => ?_)
    · have h := t23 c
      exact g_less (L' := [some (.ref a0), none, none, none]) ⟨rfl, trivial⟩ (J74 () h)
    · have h := f24 c
      refine g_iload_n C tb_X2_read_0_ok (i := 26) rfl rfl ?_
      obtain ⟨t25, f26⟩ := br_e h
      refine g_if_eq C tb_X2_read_0_ok (i := 27) 74 rfl rfl (fun c => ?_) (fun c => ?_)
      · have h := t25 c
        exact g_less (L' := [some (.ref a0), none, none, none]) ⟨rfl, trivial⟩ (J74 () h)
      · have h := f26 c
        refine g_aload_n C tb_X2_read_0_ok (i := 28) rfl rfl ?_
        refine g_getR C tb_X2_read_0_ok (i := 29) rfl fl_X2_32 rfl k1 n13 ?_
        refine g_getI C tb_X2_read_0_ok (i := 30) rfl fl_X2_67 rfl k14 ?_
        refine g_iconstv C tb_X2_read_0_ok (i := 31) (-1) rfl k_iconstv_m1 ?_
        obtain ⟨t27, f28⟩ := br_e h
        refine g_icmp_eq C tb_X2_read_0_ok (i := 32) 74 rfl rfl (fun c => ?_) (fun c => ?_)
        · have h := t27 c
          exact g_less (L' := [some (.ref a0), none, none, none]) ⟨rfl, trivial⟩ (J74 () h)
        · have h := f28 c
          refine g_aload_n C tb_X2_read_0_ok (i := 33) rfl rfl ?_
          obtain ⟨r29, M30, er29, h⟩ := c0_e h
          refine g_callV0 C tb_X2_read_0_ok (i := 34) [] rfl mw_X2_readLine mv_X2_readLine ml_X2_70 k1 rfl rfl rfl rfl (w_X2_readLine C.G y a0 M19) er29 rfl rfl rfl ?_
          refine g_istore_n C tb_X2_read_0_ok (i := 35) rfl rfl rfl ?_
          obtain ⟨v31, ev31⟩ : ∃ w : Int32, w = v18 + (1 : Int32) := ⟨_, rfl⟩
          have h := lt_e ev31 h
          refine g_iincv C tb_X2_read_0_ok (i := 36) (1 : Int32) ev31 rfl rfl k_iconstv_1 rfl rfl ?_
          refine g_goto C tb_X2_read_0_ok (i := 37) 41 rfl rfl ?_
          exact g_less (L' := [some (.ref a0), none, some (.int r29), some (.int v31)]) ⟨rfl, ⟨rfl, ⟨rfl, trivial⟩⟩⟩ (ih21 r29 v31 M30 h)
def f_X9_clear (y : Lay) (a0 : Nat) (M : Mem) : Option (Int32 × Mem) := gK y a0 (0, 9) (lt (wI M a0 1 (0 : Int32)) fun (M2 : Mem) => some (0, M2))
theorem w_X9_clear {g : GX} {l : Launch} (hG : GF g l) (y : Lay) (a0 : Nat) (M : Mem) : C0 g l yX9_clear cX9_clear 1 none 0 y [.ref a0] M (f_X9_clear y a0 M) := by
  refine C0_of hG (by decide) [some (.ref a0)] rfl rfl (fun out h x Q C R => ?_)
  unfold f_X9_clear at h
  refine g_aload_n C tb_X9_clear_0_ok (i := 0) rfl rfl ?_
  refine g_iconstv C tb_X9_clear_0_ok (i := 1) 0 rfl k_iconstv_0 ?_
  obtain ⟨k1, h⟩ := gK_e h
  refine g_putI C tb_X9_clear_0_ok (i := 2) rfl fl_X9_15 ft_9_1 rfl k1 ?_
  refine g_mem (fun M2 eM2 => ?_)
  have h := lt_e eM2 h
  cases h
  exact g_vret0 C R tb_X9_clear_0_ok (i := 3) rfl
def f_X2_faultPlace (y : Lay) (a0 : Nat) (M : Mem) : Option Int32 := gK y a0 (0, 2) (gN (y.2.1 a0 0) (gK y (y.2.1 a0 0) (0, 10) (some (M.1 (y.2.1 a0 0) 7))))
theorem w_X2_faultPlace {g : GX} {l : Launch} (hG : GF g l) (y : Lay) (a0 : Nat) (M : Mem) : C0 g l yX2_faultPlace cX2_faultPlace 1 (some .int) 0 y [.ref a0] M (pm M (f_X2_faultPlace y a0 M)) := by
  refine CP_of hG (by decide) [some (.ref a0)] rfl rfl (fun out h x Q C R => ?_)
  unfold f_X2_faultPlace at h
  refine g_aload_n C tb_X2_faultPlace_0_ok (i := 0) rfl rfl ?_
  obtain ⟨k1, h⟩ := gK_e h
  obtain ⟨n2, h⟩ := gN_e h
  refine g_getR C tb_X2_faultPlace_0_ok (i := 1) rfl fl_X2_32 rfl k1 n2 ?_
  obtain ⟨k3, h⟩ := gK_e h
  refine g_getI C tb_X2_faultPlace_0_ok (i := 2) rfl fl_X2_77 rfl k3 ?_
  cases h
  exact g_iret0 C R tb_X2_faultPlace_0_ok (i := 3) rfl
def f_X5_copyFrom (y : Lay) (a0 : Nat) (a1 : Nat) (M : Mem) : Option (Int32 × Mem) := gK y a1 (0, 5) (gN (y.2.1 a1 0) (gK y a0 (0, 5) (gN (y.2.1 a0 0) (gC y (y.2.1 a1 0) (y.2.1 a0 0) (0 : Int32) (0 : Int32) (700 : Int32) (lt (cpI M (y.2.1 a1 0) (y.2.1 a0 0) (0 : Int32).toNatClampNeg (0 : Int32).toNatClampNeg (700 : Int32).toNatClampNeg) fun (M6 : Mem) => lt (wI M6 a0 2 (M6.1 a1 2)) fun (M7 : Mem) => some (0, M7))))))
theorem w_X5_copyFrom {g : GX} {l : Launch} (hG : GF g l) (y : Lay) (a0 : Nat) (a1 : Nat) (M : Mem) : C0 g l yX5_copyFrom cX5_copyFrom 2 none 0 y [.ref a0, .ref a1] M (f_X5_copyFrom y a0 a1 M) := by
  refine C0_of hG (by decide) [some (.ref a0), some (.ref a1)] rfl rfl (fun out h x Q C R => ?_)
  unfold f_X5_copyFrom at h
  refine g_aload_n C tb_X5_copyFrom_0_ok (i := 0) rfl rfl ?_
  obtain ⟨k1, h⟩ := gK_e h
  obtain ⟨n2, h⟩ := gN_e h
  refine g_getR C tb_X5_copyFrom_0_ok (i := 1) rfl fl_X5_9 rfl k1 n2 ?_
  refine g_iconstv C tb_X5_copyFrom_0_ok (i := 2) 0 rfl k_iconstv_0 ?_
  refine g_aload_n C tb_X5_copyFrom_0_ok (i := 3) rfl rfl ?_
  obtain ⟨k3, h⟩ := gK_e h
  obtain ⟨n4, h⟩ := gN_e h
  refine g_getR C tb_X5_copyFrom_0_ok (i := 4) rfl fl_X5_9 rfl k3 n4 ?_
  refine g_iconstv C tb_X5_copyFrom_0_ok (i := 5) 0 rfl k_iconstv_0 ?_
  refine g_sipushv C tb_X5_copyFrom_0_ok (i := 6) 700 rfl k_sipushv_700 ?_
  obtain ⟨b5, h⟩ := gC_e h
  refine g_copy C tb_X5_copyFrom_0_ok (i := 7) rfl mt_X5_26 rfl b5 ?_
  refine g_mem (fun M6 eM6 => ?_)
  have h := lt_e eM6 h
  refine g_aload_n C tb_X5_copyFrom_0_ok (i := 8) rfl rfl ?_
  refine g_aload_n C tb_X5_copyFrom_0_ok (i := 9) rfl rfl ?_
  refine g_getI C tb_X5_copyFrom_0_ok (i := 10) rfl fl_X5_18 rfl k1 ?_
  refine g_putI C tb_X5_copyFrom_0_ok (i := 11) rfl fl_X5_18 ft_5_2 rfl k3 ?_
  refine g_mem (fun M7 eM7 => ?_)
  have h := lt_e eM7 h
  cases h
  exact g_vret0 C R tb_X5_copyFrom_0_ok (i := 12) rfl
def f_X1_copyFrom (y : Lay) (a0 : Nat) (a1 : Nat) (M : Mem) : Option (Int32 × Mem) := gK y a1 (0, 1) (gK y a0 (0, 1) (c0 (f_X1_shape y a0 (M.1 a1 0) (M.1 a1 1) M) fun (r3 : Int32) (M4 : Mem) => lt (wI M4 a0 2 (M4.1 a1 2)) fun (M5 : Mem) => lt (wI M5 a0 3 (M5.1 a1 3)) fun (M6 : Mem) => lt (wI M6 a0 4 (M6.1 a1 4)) fun (M7 : Mem) => lt (wI M7 a0 5 (M7.1 a1 5)) fun (M8 : Mem) => gN (y.2.1 a0 7) (gN (y.2.1 a1 7) (gK y (y.2.1 a0 7) (0, 5) (c0 (f_X5_copyFrom y (y.2.1 a0 7) (y.2.1 a1 7) M8) fun (r12 : Int32) (M13 : Mem) => gN (y.2.1 a0 8) (gN (y.2.1 a1 8) (gK y (y.2.1 a0 8) (0, 5) (c0 (f_X5_copyFrom y (y.2.1 a0 8) (y.2.1 a1 8) M13) fun (r17 : Int32) (M18 : Mem) => some (0, M18)))))))))
theorem w_X1_copyFrom {g : GX} {l : Launch} (hG : GF g l) (y : Lay) (a0 : Nat) (a1 : Nat) (M : Mem) : C0 g l yX1_copyFrom cX1_copyFrom 2 none 3 y [.ref a0, .ref a1] M (f_X1_copyFrom y a0 a1 M) := by
  refine C0_of hG (by decide) [some (.ref a0), some (.ref a1)] rfl rfl (fun out h x Q C R => ?_)
  unfold f_X1_copyFrom at h
  refine g_aload_n C tb_X1_copyFrom_0_ok (i := 0) rfl rfl ?_
  refine g_aload_n C tb_X1_copyFrom_0_ok (i := 1) rfl rfl ?_
  obtain ⟨k1, h⟩ := gK_e h
  refine g_getI C tb_X1_copyFrom_0_ok (i := 2) rfl fl_X1_48 rfl k1 ?_
  refine g_aload_n C tb_X1_copyFrom_0_ok (i := 3) rfl rfl ?_
  refine g_getI C tb_X1_copyFrom_0_ok (i := 4) rfl fl_X1_51 rfl k1 ?_
  obtain ⟨k2, h⟩ := gK_e h
  obtain ⟨r3, M4, er3, h⟩ := c0_e h
  refine g_callV0 C tb_X1_copyFrom_0_ok (i := 5) [.int (M.1 a1 0), .int (M.1 a1 1)] rfl mw_X1_shape mv_X1_shape ml_X1_28 k2 rfl rfl rfl rfl (w_X1_shape C.G y a0 (M.1 a1 0) (M.1 a1 1) M) er3 rfl rfl rfl ?_
  refine g_aload_n C tb_X1_copyFrom_0_ok (i := 6) rfl rfl ?_
  refine g_aload_n C tb_X1_copyFrom_0_ok (i := 7) rfl rfl ?_
  refine g_getI C tb_X1_copyFrom_0_ok (i := 8) rfl fl_X1_32 rfl k1 ?_
  refine g_putI C tb_X1_copyFrom_0_ok (i := 9) rfl fl_X1_32 ft_1_2 rfl k2 ?_
  refine g_mem (fun M5 eM5 => ?_)
  have h := lt_e eM5 h
  refine g_aload_n C tb_X1_copyFrom_0_ok (i := 10) rfl rfl ?_
  refine g_aload_n C tb_X1_copyFrom_0_ok (i := 11) rfl rfl ?_
  refine g_getI C tb_X1_copyFrom_0_ok (i := 12) rfl fl_X1_36 rfl k1 ?_
  refine g_putI C tb_X1_copyFrom_0_ok (i := 13) rfl fl_X1_36 ft_1_3 rfl k2 ?_
  refine g_mem (fun M6 eM6 => ?_)
  have h := lt_e eM6 h
  refine g_aload_n C tb_X1_copyFrom_0_ok (i := 14) rfl rfl ?_
  refine g_aload_n C tb_X1_copyFrom_0_ok (i := 15) rfl rfl ?_
  refine g_getI C tb_X1_copyFrom_0_ok (i := 16) rfl fl_X1_39 rfl k1 ?_
  refine g_putI C tb_X1_copyFrom_0_ok (i := 17) rfl fl_X1_39 ft_1_4 rfl k2 ?_
  refine g_mem (fun M7 eM7 => ?_)
  have h := lt_e eM7 h
  refine g_aload_n C tb_X1_copyFrom_0_ok (i := 18) rfl rfl ?_
  refine g_aload_n C tb_X1_copyFrom_0_ok (i := 19) rfl rfl ?_
  refine g_getI C tb_X1_copyFrom_0_ok (i := 20) rfl fl_X1_42 rfl k1 ?_
  refine g_putI C tb_X1_copyFrom_0_ok (i := 21) rfl fl_X1_42 ft_1_5 rfl k2 ?_
  refine g_mem (fun M8 eM8 => ?_)
  have h := lt_e eM8 h
  refine g_aload_n C tb_X1_copyFrom_0_ok (i := 22) rfl rfl ?_
  obtain ⟨n9, h⟩ := gN_e h
  refine g_getR C tb_X1_copyFrom_0_ok (i := 23) rfl fl_X1_18 rfl k2 n9 ?_
  refine g_aload_n C tb_X1_copyFrom_0_ok (i := 24) rfl rfl ?_
  obtain ⟨n10, h⟩ := gN_e h
  refine g_getR C tb_X1_copyFrom_0_ok (i := 25) rfl fl_X1_18 rfl k1 n10 ?_
  obtain ⟨k11, h⟩ := gK_e h
  obtain ⟨r12, M13, er12, h⟩ := c0_e h
  refine g_callV0 C tb_X1_copyFrom_0_ok (i := 26) [.ref (y.2.1 a1 7)] rfl mw_X5_copyFrom mv_X5_copyFrom ml_X1_65 k11 rfl rfl rfl rfl (w_X5_copyFrom C.G y (y.2.1 a0 7) (y.2.1 a1 7) M8) er12 rfl rfl rfl ?_
  refine g_aload_n C tb_X1_copyFrom_0_ok (i := 27) rfl rfl ?_
  obtain ⟨n14, h⟩ := gN_e h
  refine g_getR C tb_X1_copyFrom_0_ok (i := 28) rfl fl_X1_22 rfl k2 n14 ?_
  refine g_aload_n C tb_X1_copyFrom_0_ok (i := 29) rfl rfl ?_
  obtain ⟨n15, h⟩ := gN_e h
  refine g_getR C tb_X1_copyFrom_0_ok (i := 30) rfl fl_X1_22 rfl k1 n15 ?_
  obtain ⟨k16, h⟩ := gK_e h
  obtain ⟨r17, M18, er17, h⟩ := c0_e h
  refine g_callV0 C tb_X1_copyFrom_0_ok (i := 31) [.ref (y.2.1 a1 8)] rfl mw_X5_copyFrom mv_X5_copyFrom ml_X1_65 k16 rfl rfl rfl rfl (w_X5_copyFrom C.G y (y.2.1 a0 8) (y.2.1 a1 8) M13) er17 rfl rfl rfl ?_
  cases h
  exact g_vret0 C R tb_X1_copyFrom_0_ok (i := 32) rfl
def f_X0_clear (y : Lay) (a0 : Nat) (M : Mem) : Option (Int32 × Mem) := gK y a0 (0, 0) (lt (wI M a0 1 (0 : Int32)) fun (M2 : Mem) => some (0, M2))
theorem w_X0_clear {g : GX} {l : Launch} (hG : GF g l) (y : Lay) (a0 : Nat) (M : Mem) : C0 g l yX0_clear cX0_clear 1 none 0 y [.ref a0] M (f_X0_clear y a0 M) := by
  refine C0_of hG (by decide) [some (.ref a0)] rfl rfl (fun out h x Q C R => ?_)
  unfold f_X0_clear at h
  refine g_aload_n C tb_X0_clear_0_ok (i := 0) rfl rfl ?_
  refine g_iconstv C tb_X0_clear_0_ok (i := 1) 0 rfl k_iconstv_0 ?_
  obtain ⟨k1, h⟩ := gK_e h
  refine g_putI C tb_X0_clear_0_ok (i := 2) rfl fl_X0_17 ft_0_1 rfl k1 ?_
  refine g_mem (fun M2 eM2 => ?_)
  have h := lt_e eM2 h
  cases h
  exact g_vret0 C R tb_X0_clear_0_ok (i := 3) rfl
def f_X4_begin (y : Lay) (a0 : Nat) (a1 : Nat) (M : Mem) : Option (Int32 × Mem) := gK y a0 (0, 4) (gN (y.2.1 a0 0) (gK y (y.2.1 a0 0) (0, 8) (c0 (f_X8_copyFrom y (y.2.1 a0 0) a1 M) fun (r4 : Int32) (M5 : Mem) => gN (y.2.1 a0 1) (gK y (y.2.1 a0 1) (0, 0) (c0 (f_X0_clear y (y.2.1 a0 1) M5) fun (r8 : Int32) (M9 : Mem) => lt (wI M9 a0 6 (0 : Int32)) fun (M10 : Mem) => some (0, M10))))))
theorem w_X4_begin {g : GX} {l : Launch} (hG : GF g l) (y : Lay) (a0 : Nat) (a1 : Nat) (M : Mem) : C0 g l yX4_begin cX4_begin 2 none 1 y [.ref a0, .ref a1] M (f_X4_begin y a0 a1 M) := by
  refine C0_of hG (by decide) [some (.ref a0), some (.ref a1)] rfl rfl (fun out h x Q C R => ?_)
  unfold f_X4_begin at h
  refine g_aload_n C tb_X4_begin_0_ok (i := 0) rfl rfl ?_
  obtain ⟨k1, h⟩ := gK_e h
  obtain ⟨n2, h⟩ := gN_e h
  refine g_getR C tb_X4_begin_0_ok (i := 1) rfl fl_X4_36 rfl k1 n2 ?_
  refine g_aload_n C tb_X4_begin_0_ok (i := 2) rfl rfl ?_
  obtain ⟨k3, h⟩ := gK_e h
  obtain ⟨r4, M5, er4, h⟩ := c0_e h
  refine g_callV0 C tb_X4_begin_0_ok (i := 3) [.ref a1] rfl mw_X8_copyFrom mv_X8_copyFrom ml_X4_40 k3 rfl rfl rfl rfl (w_X8_copyFrom C.G y (y.2.1 a0 0) a1 M) er4 rfl rfl rfl ?_
  refine g_aload_n C tb_X4_begin_0_ok (i := 4) rfl rfl ?_
  obtain ⟨n6, h⟩ := gN_e h
  refine g_getR C tb_X4_begin_0_ok (i := 5) rfl fl_X4_12 rfl k1 n6 ?_
  obtain ⟨k7, h⟩ := gK_e h
  obtain ⟨r8, M9, er8, h⟩ := c0_e h
  refine g_callV0 C tb_X4_begin_0_ok (i := 6) [] rfl mw_X0_clear mv_X0_clear ml_X4_44 k7 rfl rfl rfl rfl (w_X0_clear C.G y (y.2.1 a0 1) M5) er8 rfl rfl rfl ?_
  refine g_aload_n C tb_X4_begin_0_ok (i := 7) rfl rfl ?_
  refine g_iconstv C tb_X4_begin_0_ok (i := 8) 0 rfl k_iconstv_0 ?_
  refine g_putI C tb_X4_begin_0_ok (i := 9) rfl fl_X4_47 ft_4_6 rfl k1 ?_
  refine g_mem (fun M10 eM10 => ?_)
  have h := lt_e eM10 h
  cases h
  exact g_vret0 C R tb_X4_begin_0_ok (i := 10) rfl
def f_X11_coast (y : Lay) (a0 : Nat) (a1 : Int32) (M : Mem) : Option (Nat × Int32 × Mem) := jn (fun (_u : Unit) => some (2, 0, M)) fun j1 => br (a1 < 0) (j1 ()) (gK y a0 (0, 11) (gN (y.2.1 a0 0) (gK y (y.2.1 a0 0) (0, 9) (br (a1 ≤ (M.1 (y.2.1 a0 0) 1)) (gN (y.2.1 a0 2) (gK y (y.2.1 a0 2) (0, 2) (c0 (f_X2_read y (y.2.1 a0 2) a1 M) fun (r11 : Int32) (M12 : Mem) => c0 (f_X9_clear y (y.2.1 a0 0) M12) fun (r13 : Int32) (M14 : Mem) => cp (f_X2_faultPlace y (y.2.1 a0 2) M14) fun (r15 : Int32) => lt (wI M14 a0 12 r15) fun (M16 : Mem) => br (r11 = 0) (gN (y.2.1 a0 1) (gN (y.2.1 (y.2.1 a0 2) 2) (gK y (y.2.1 a0 1) (0, 1) (c0 (f_X1_copyFrom y (y.2.1 a0 1) (y.2.1 (y.2.1 a0 2) 2) M16) fun (r22 : Int32) (M23 : Mem) => gN (y.2.1 a0 3) (gN (y.2.1 (y.2.1 a0 2) 3) (gK y (y.2.1 a0 3) (0, 4) (c0 (f_X4_begin y (y.2.1 a0 3) (y.2.1 (y.2.1 a0 2) 3) M23) fun (r27 : Int32) (M28 : Mem) => lt (wI M28 a0 11 (0 : Int32)) fun (M29 : Mem) => some (0, (0 : Int32), M29)))))))) (gN (y.2.1 a0 3) (gK y (y.2.1 a0 3) (0, 4) (c0 (f_X4_refuse y (y.2.1 a0 3) (0 : Int32) M16) fun (r32 : Int32) (M33 : Mem) => some (0, r11, M33))))))) (j1 ())))))
theorem w_X11_coast {g : GX} {l : Launch} (hG : GF g l) (y : Lay) (a0 : Nat) (a1 : Int32) (M : Mem) : C1 g l yX11_coast cX11_coast 3 (some .int) 94 1 6 y [.ref a0, .int a1] M (f_X11_coast y a0 a1 M) := by
  refine C1_of hG (by decide) [some (.ref a0), some (.int a1), none] rfl rfl (fun out h x Q C R => ?_)
  unfold f_X11_coast at h
  refine g_iload_n C tb_X11_coast_0_ok (i := 0) rfl rfl ?_
  obtain ⟨j1, ej1, h⟩ := jn_e h
  have J15 : ∀ (_u : Unit), j1 _u = some out → GG g x 3 Q 0 0 y M 15 [none, none, none] [] := by
    intro _u h; subst ej1
    cases h
    exact g_throw (T2 := []) C tb_X11_coast_0_ok (i0 := 7) (i1 := 8) (i2 := 9) (i3 := 10) (e := 1) R tw_X11_96_98 rfl rfl rfl rfl rfl rfl rfl
  obtain ⟨t2, f3⟩ := br_e h
  refine g_if_lt C tb_X11_coast_0_ok (i := 1) 15 rfl rfl (fun c => ?_) (fun c => ?_)
  · have h := t2 c
    exact g_less (L' := [none, none, none]) trivial (J15 () h)
  · have h := f3 c
    refine g_iload_n C tb_X11_coast_0_ok (i := 2) rfl rfl ?_
    refine g_aload_n C tb_X11_coast_0_ok (i := 3) rfl rfl ?_
    obtain ⟨k4, h⟩ := gK_e h
    obtain ⟨n5, h⟩ := gN_e h
    refine g_getR C tb_X11_coast_0_ok (i := 4) rfl fl_X11_10 rfl k4 n5 ?_
    obtain ⟨k6, h⟩ := gK_e h
    refine g_getI C tb_X11_coast_0_ok (i := 5) rfl fl_X11_93 rfl k6 ?_
    obtain ⟨t7, f8⟩ := br_e h
    refine g_icmp_le C tb_X11_coast_0_ok (i := 6) 23 rfl rfl (fun c => ?_) (fun c => ?_)
    · have h := t7 c
      refine g_aload_n C tb_X11_coast_0_ok (i := 11) rfl rfl ?_
      obtain ⟨n9, h⟩ := gN_e h
      refine g_getR C tb_X11_coast_0_ok (i := 12) rfl fl_X11_28 rfl k4 n9 ?_
      refine g_iload_n C tb_X11_coast_0_ok (i := 13) rfl rfl ?_
      obtain ⟨k10, h⟩ := gK_e h
      obtain ⟨r11, M12, er11, h⟩ := c0_e h
      refine g_callV0 C tb_X11_coast_0_ok (i := 14) [.int a1] rfl mw_X2_read mv_X2_read ml_X11_99 k10 rfl rfl rfl rfl (w_X2_read C.G y (y.2.1 a0 2) a1 M) er11 rfl rfl rfl ?_
      refine g_istore_n C tb_X11_coast_0_ok (i := 15) rfl rfl rfl ?_
      refine g_aload_n C tb_X11_coast_0_ok (i := 16) rfl rfl ?_
      refine g_getR C tb_X11_coast_0_ok (i := 17) rfl fl_X11_10 rfl k4 n5 ?_
      obtain ⟨r13, M14, er13, h⟩ := c0_e h
      refine g_callV0 C tb_X11_coast_0_ok (i := 18) [] rfl mw_X9_clear mv_X9_clear ml_X11_103 k6 rfl rfl rfl rfl (w_X9_clear C.G y (y.2.1 a0 0) M12) er13 rfl rfl rfl ?_
      refine g_aload_n C tb_X11_coast_0_ok (i := 19) rfl rfl ?_
      refine g_aload_n C tb_X11_coast_0_ok (i := 20) rfl rfl ?_
      refine g_getR C tb_X11_coast_0_ok (i := 21) rfl fl_X11_28 rfl k4 n9 ?_
      obtain ⟨r15, er15, h⟩ := cp_e h
      refine g_callV0 C tb_X11_coast_0_ok (i := 22) [] rfl mw_X2_faultPlace mv_X2_faultPlace ml_X11_106 k10 rfl rfl rfl rfl (w_X2_faultPlace C.G y (y.2.1 a0 2) M14) (pm_s er15) rfl rfl rfl ?_
      refine g_putI C tb_X11_coast_0_ok (i := 23) rfl fl_X11_81 ft_11_12 rfl k4 ?_
      refine g_mem (fun M16 eM16 => ?_)
      have h := lt_e eM16 h
      refine g_iload_n C tb_X11_coast_0_ok (i := 24) rfl rfl ?_
      obtain ⟨t17, f18⟩ := br_e h
      refine g_if_eq C tb_X11_coast_0_ok (i := 25) 64 rfl rfl (fun c => ?_) (fun c => ?_)
      · have h := t17 c
        refine g_aload_n C tb_X11_coast_0_ok (i := 32) rfl rfl ?_
        obtain ⟨n19, h⟩ := gN_e h
        refine g_getR C tb_X11_coast_0_ok (i := 33) rfl fl_X11_19 rfl k4 n19 ?_
        refine g_aload_n C tb_X11_coast_0_ok (i := 34) rfl rfl ?_
        refine g_getR C tb_X11_coast_0_ok (i := 35) rfl fl_X11_28 rfl k4 n9 ?_
        obtain ⟨n20, h⟩ := gN_e h
        refine g_getR C tb_X11_coast_0_ok (i := 36) rfl fl_X11_112 rfl k10 n20 ?_
        obtain ⟨k21, h⟩ := gK_e h
        obtain ⟨r22, M23, er22, h⟩ := c0_e h
        refine g_callV0 C tb_X11_coast_0_ok (i := 37) [.ref (y.2.1 (y.2.1 a0 2) 2)] rfl mw_X1_copyFrom mv_X1_copyFrom ml_X11_115 k21 rfl rfl rfl rfl (w_X1_copyFrom C.G y (y.2.1 a0 1) (y.2.1 (y.2.1 a0 2) 2) M16) er22 rfl rfl rfl ?_
        refine g_aload_n C tb_X11_coast_0_ok (i := 38) rfl rfl ?_
        obtain ⟨n24, h⟩ := gN_e h
        refine g_getR C tb_X11_coast_0_ok (i := 39) rfl fl_X11_37 rfl k4 n24 ?_
        refine g_aload_n C tb_X11_coast_1_ok (i := 0) rfl rfl ?_
        refine g_getR C tb_X11_coast_1_ok (i := 1) rfl fl_X11_28 rfl k4 n9 ?_
        obtain ⟨n25, h⟩ := gN_e h
        refine g_getR C tb_X11_coast_1_ok (i := 2) rfl fl_X11_118 rfl k10 n25 ?_
        obtain ⟨k26, h⟩ := gK_e h
        obtain ⟨r27, M28, er27, h⟩ := c0_e h
        refine g_callV0 C tb_X11_coast_1_ok (i := 3) [.ref (y.2.1 (y.2.1 a0 2) 3)] rfl mw_X4_begin mv_X4_begin ml_X11_121 k26 rfl rfl rfl rfl (w_X4_begin C.G y (y.2.1 a0 3) (y.2.1 (y.2.1 a0 2) 3) M23) er27 rfl rfl rfl ?_
        refine g_aload_n C tb_X11_coast_1_ok (i := 4) rfl rfl ?_
        refine g_iconstv C tb_X11_coast_1_ok (i := 5) 0 rfl k_iconstv_0 ?_
        refine g_putZ C tb_X11_coast_1_ok (i := 6) rfl fl_X11_124 ft_11_11 rfl (by decide) k4 ?_
        refine g_mem (fun M29 eM29 => ?_)
        have h := lt_e eM29 h
        refine g_iconstv C tb_X11_coast_1_ok (i := 7) 0 rfl k_iconstv_0 ?_
        cases h
        exact g_iret1 C R rfl rfl tb_X11_coast_1_ok (i := 8) rfl
      · have h := f18 c
        refine g_aload_n C tb_X11_coast_0_ok (i := 26) rfl rfl ?_
        obtain ⟨n30, h⟩ := gN_e h
        refine g_getR C tb_X11_coast_0_ok (i := 27) rfl fl_X11_37 rfl k4 n30 ?_
        refine g_iconstv C tb_X11_coast_0_ok (i := 28) 0 rfl k_iconstv_0 ?_
        obtain ⟨k31, h⟩ := gK_e h
        obtain ⟨r32, M33, er32, h⟩ := c0_e h
        refine g_callV0 C tb_X11_coast_0_ok (i := 29) [.int (0 : Int32)] rfl mw_X4_refuse mv_X4_refuse ml_X11_109 k31 rfl rfl rfl rfl (w_X4_refuse C.G y (y.2.1 a0 3) (0 : Int32) M16) er32 rfl rfl rfl ?_
        refine g_iload_n C tb_X11_coast_0_ok (i := 30) rfl rfl ?_
        cases h
        exact g_iret1 C R rfl rfl tb_X11_coast_0_ok (i := 31) rfl
    · have h := f8 c
      exact g_less (L' := [none, none, none]) trivial (J15 () h)
def f_X8_allBlue (y : Lay) (a0 : Nat) (M : Mem) : Option Int32 := fixN (fun _ _ => none) (fun (s3 : Int32 → Int32 → Option Int32) (v1 : Int32) (v2 : Int32) => br ((30 : Int32) ≤ v2) (some v1) (gK y a0 (0, 8) (gN (y.2.1 a0 1) (gA y (y.2.1 a0 1) 1 v2 (lt (v1 + (M.1 (y.2.1 a0 1) v2.toNatClampNeg)) fun (v10 : Int32) => lt (v2 + (1 : Int32)) fun (v11 : Int32) => s3 v10 v11))))) FUEL (0 : Int32) (0 : Int32)
theorem w_X8_allBlue {g : GX} {l : Launch} (hG : GF g l) (y : Lay) (a0 : Nat) (M : Mem) : C0 g l yX8_allBlue cX8_allBlue 3 (some .int) 0 y [.ref a0] M (pm M (f_X8_allBlue y a0 M)) := by
  refine CP_of hG (by decide) [some (.ref a0), none, none] rfl rfl (fun out h x Q C R => ?_)
  unfold f_X8_allBlue at h
  refine g_iconstv C tb_X8_allBlue_0_ok (i := 0) 0 rfl k_iconstv_0 ?_
  refine g_istore_n C tb_X8_allBlue_0_ok (i := 1) rfl rfl rfl ?_
  refine g_iconstv C tb_X8_allBlue_0_ok (i := 2) 0 rfl k_iconstv_0 ?_
  refine g_istore_n C tb_X8_allBlue_0_ok (i := 3) rfl rfl rfl ?_
  refine g_less (L' := [some (.ref a0), some (.int (0 : Int32)), some (.int (0 : Int32))]) ⟨rfl, ⟨rfl, ⟨rfl, trivial⟩⟩⟩ ?_
  refine fix_i (P := fun (f : Int32 → Int32 → Option Int32) => ∀ (v1 : Int32) (v2 : Int32), f v1 v2 = some out → GG g x 3 Q 0 0 y M 4 [some (.ref a0), some (.int v1), some (.int v2)] []) ?_ ?_ _ (0 : Int32) (0 : Int32) h
  · intro v1 v2 h; exact (nn_e h).elim
  · intro s3 ih4 v1 v2 h
    refine g_iload_n C tb_X8_allBlue_0_ok (i := 4) rfl rfl ?_
    refine g_bipushv C tb_X8_allBlue_0_ok (i := 5) 30 rfl k_bipushv_30 ?_
    obtain ⟨t5, f6⟩ := br_e h
    refine g_icmp_ge C tb_X8_allBlue_0_ok (i := 6) 25 rfl rfl (fun c => ?_) (fun c => ?_)
    · have h := t5 c
      refine g_iload_n C tb_X8_allBlue_0_ok (i := 16) rfl rfl ?_
      cases h
      exact g_iret0 C R tb_X8_allBlue_0_ok (i := 17) rfl
    · have h := f6 c
      refine g_iload_n C tb_X8_allBlue_0_ok (i := 7) rfl rfl ?_
      refine g_aload_n C tb_X8_allBlue_0_ok (i := 8) rfl rfl ?_
      obtain ⟨k7, h⟩ := gK_e h
      obtain ⟨n8, h⟩ := gN_e h
      refine g_getR C tb_X8_allBlue_0_ok (i := 9) rfl fl_X8_9 rfl k7 n8 ?_
      refine g_iload_n C tb_X8_allBlue_0_ok (i := 10) rfl rfl ?_
      obtain ⟨b9, h⟩ := gA_e h
      refine g_iald C tb_X8_allBlue_0_ok (i := 11) rfl b9 ?_
      refine g_iadd C tb_X8_allBlue_0_ok (i := 12) rfl ?_
      refine g_topi (fun v10 ev10 => ?_)
      have h := lt_e ev10 h
      refine g_istore_n C tb_X8_allBlue_0_ok (i := 13) rfl rfl rfl ?_
      obtain ⟨v11, ev11⟩ : ∃ w : Int32, w = v2 + (1 : Int32) := ⟨_, rfl⟩
      have h := lt_e ev11 h
      refine g_iincv C tb_X8_allBlue_0_ok (i := 14) (1 : Int32) ev11 rfl rfl k_iconstv_1 rfl rfl ?_
      refine g_goto C tb_X8_allBlue_0_ok (i := 15) 4 rfl rfl ?_
      exact g_less (L' := [some (.ref a0), some (.int v10), some (.int v11)]) ⟨rfl, ⟨rfl, ⟨rfl, trivial⟩⟩⟩ (ih4 v10 v11 h)
def f_X4_refused (y : Lay) (a0 : Nat) (a1 : Int32) (M : Mem) : Option Int32 := jn (fun (v1 : Int32) => some v1) fun j2 => jn (fun (_u : Unit) => j2 (0 : Int32)) fun j3 => br (a1 < 0) (j3 ()) (br ((3 : Int32) ≤ a1) (j3 ()) (gK y a0 (0, 4) (gN (y.2.1 a0 5) (gA y (y.2.1 a0 5) 1 a1 (j2 (M.1 (y.2.1 a0 5) a1.toNatClampNeg))))))
theorem w_X4_refused {g : GX} {l : Launch} (hG : GF g l) (y : Lay) (a0 : Nat) (a1 : Int32) (M : Mem) : C0 g l yX4_refused cX4_refused 2 (some .int) 0 y [.ref a0, .int a1] M (pm M (f_X4_refused y a0 a1 M)) := by
  refine CP_of hG (by decide) [some (.ref a0), some (.int a1)] rfl rfl (fun out h x Q C R => ?_)
  unfold f_X4_refused at h
  refine g_iload_n C tb_X4_refused_0_ok (i := 0) rfl rfl ?_
  obtain ⟨j2, ej2, h⟩ := jn_e h
  have J19 : ∀ (v1 : Int32), j2 v1 = some out → GG g x 2 Q 0 0 y M 19 [none, none] [.int v1] := by
    intro v1 h; subst ej2
    cases h
    exact g_iret0 C R tb_X4_refused_0_ok (i := 11) rfl
  obtain ⟨j3, ej3, h⟩ := jn_e h
  have J18 : ∀ (_u : Unit), j3 _u = some out → GG g x 2 Q 0 0 y M 18 [none, none] [] := by
    intro _u h; subst ej3
    refine g_iconstv C tb_X4_refused_0_ok (i := 10) 0 rfl k_iconstv_0 ?_
    exact g_less (L' := [none, none]) trivial (J19 (0 : Int32) h)
  obtain ⟨t4, f5⟩ := br_e h
  refine g_if_lt C tb_X4_refused_0_ok (i := 1) 18 rfl rfl (fun c => ?_) (fun c => ?_)
  · have h := t4 c
    exact g_less (L' := [none, none]) trivial (J18 () h)
  · have h := f5 c
    refine g_iload_n C tb_X4_refused_0_ok (i := 2) rfl rfl ?_
    refine g_iconstv C tb_X4_refused_0_ok (i := 3) 3 rfl k_iconstv_3 ?_
    obtain ⟨t6, f7⟩ := br_e h
    refine g_icmp_ge C tb_X4_refused_0_ok (i := 4) 18 rfl rfl (fun c => ?_) (fun c => ?_)
    · have h := t6 c
      exact g_less (L' := [none, none]) trivial (J18 () h)
    · have h := f7 c
      refine g_aload_n C tb_X4_refused_0_ok (i := 5) rfl rfl ?_
      obtain ⟨k8, h⟩ := gK_e h
      obtain ⟨n9, h⟩ := gN_e h
      refine g_getR C tb_X4_refused_0_ok (i := 6) rfl fl_X4_28 rfl k8 n9 ?_
      refine g_iload_n C tb_X4_refused_0_ok (i := 7) rfl rfl ?_
      obtain ⟨b10, h⟩ := gA_e h
      refine g_iald C tb_X4_refused_0_ok (i := 8) rfl b10 ?_
      refine g_goto C tb_X4_refused_0_ok (i := 9) 19 rfl rfl ?_
      exact g_less (L' := [none, none]) trivial (J19 (M.1 (y.2.1 a0 5) a1.toNatClampNeg) h)
def f_X11_count (y : Lay) (a0 : Nat) (a1 : Int32) (M : Mem) : Option (Nat × Int32 × Mem) := br (a1 < (0 : Int32) ∨ (16 : Int32) < a1) (some (1, 0, M)) (br (a1 = (0 : Int32)) (gK y a0 (0, 11) (gN (y.2.1 a0 1) (gK y (y.2.1 a0 1) (0, 1) (cp (f_X1_cells y (y.2.1 a0 1) M) fun (r6 : Int32) => some (0, r6, M))))) (br (a1 = (1 : Int32)) (gK y a0 (0, 11) (gN (y.2.1 a0 1) (gK y (y.2.1 a0 1) (0, 1) (some (0, (M.1 (y.2.1 a0 1) 0), M))))) (br (a1 = (2 : Int32)) (gK y a0 (0, 11) (gN (y.2.1 a0 1) (gK y (y.2.1 a0 1) (0, 1) (some (0, (M.1 (y.2.1 a0 1) 4), M))))) (br (a1 = (3 : Int32)) (gK y a0 (0, 11) (gN (y.2.1 a0 3) (gK y (y.2.1 a0 3) (0, 4) (gN (y.2.1 (y.2.1 a0 3) 0) (gK y (y.2.1 (y.2.1 a0 3) 0) (0, 8) (some (0, (M.1 (y.2.1 (y.2.1 a0 3) 0) 11), M))))))) (br (a1 = (4 : Int32)) (gK y a0 (0, 11) (gN (y.2.1 a0 3) (gK y (y.2.1 a0 3) (0, 4) (gN (y.2.1 (y.2.1 a0 3) 0) (gK y (y.2.1 (y.2.1 a0 3) 0) (0, 8) (some (0, (M.1 (y.2.1 (y.2.1 a0 3) 0) 9), M))))))) (br (a1 = (5 : Int32)) (gK y a0 (0, 11) (gN (y.2.1 a0 1) (gK y (y.2.1 a0 1) (0, 1) (some (0, (M.1 (y.2.1 a0 1) 2), M))))) (br (a1 = (6 : Int32)) (gK y a0 (0, 11) (gN (y.2.1 a0 1) (gK y (y.2.1 a0 1) (0, 1) (some (0, (M.1 (y.2.1 a0 1) 3), M))))) (br (a1 = (7 : Int32)) (gK y a0 (0, 11) (gN (y.2.1 a0 3) (gK y (y.2.1 a0 3) (0, 4) (gN (y.2.1 (y.2.1 a0 3) 0) (gK y (y.2.1 (y.2.1 a0 3) 0) (0, 8) (some (0, (M.1 (y.2.1 (y.2.1 a0 3) 0) 10), M))))))) (br (a1 = (8 : Int32)) (gK y a0 (0, 11) (gN (y.2.1 a0 3) (gK y (y.2.1 a0 3) (0, 4) (gN (y.2.1 (y.2.1 a0 3) 0) (gK y (y.2.1 (y.2.1 a0 3) 0) (0, 8) (some (0, (M.1 (y.2.1 (y.2.1 a0 3) 0) 7), M))))))) (br (a1 = (9 : Int32)) (gK y a0 (0, 11) (gN (y.2.1 a0 3) (gK y (y.2.1 a0 3) (0, 4) (gN (y.2.1 (y.2.1 a0 3) 0) (gK y (y.2.1 (y.2.1 a0 3) 0) (0, 8) (some (0, (M.1 (y.2.1 (y.2.1 a0 3) 0) 8), M))))))) (br (a1 = (10 : Int32)) (gK y a0 (0, 11) (gN (y.2.1 a0 3) (gK y (y.2.1 a0 3) (0, 4) (gN (y.2.1 (y.2.1 a0 3) 0) (gK y (y.2.1 (y.2.1 a0 3) 0) (0, 8) (cp (f_X8_allBlue y (y.2.1 (y.2.1 a0 3) 0) M) fun (r69 : Int32) => some (0, r69, M))))))) (br (a1 = (11 : Int32)) (gK y a0 (0, 11) (gN (y.2.1 a0 3) (gK y (y.2.1 a0 3) (0, 4) (gN (y.2.1 (y.2.1 a0 3) 1) (gK y (y.2.1 (y.2.1 a0 3) 1) (0, 0) (some (0, (M.1 (y.2.1 (y.2.1 a0 3) 1) 1), M))))))) (br (a1 = (12 : Int32)) (gK y a0 (0, 11) (gN (y.2.1 a0 3) (gK y (y.2.1 a0 3) (0, 4) (some (0, (M.1 (y.2.1 a0 3) 6), M))))) (br (a1 = (13 : Int32)) (gK y a0 (0, 11) (gN (y.2.1 a0 0) (gK y (y.2.1 a0 0) (0, 9) (some (0, (M.1 (y.2.1 a0 0) 1), M))))) (br (a1 = (14 : Int32)) (gK y a0 (0, 11) (gN (y.2.1 a0 3) (gK y (y.2.1 a0 3) (0, 4) (cp (f_X4_refused y (y.2.1 a0 3) (0 : Int32) M) fun (r92 : Int32) => some (0, r92, M))))) (br (a1 = (15 : Int32)) (gK y a0 (0, 11) (gN (y.2.1 a0 3) (gK y (y.2.1 a0 3) (0, 4) (cp (f_X4_refused y (y.2.1 a0 3) (1 : Int32) M) fun (r98 : Int32) => some (0, r98, M))))) (gK y a0 (0, 11) (gN (y.2.1 a0 3) (gK y (y.2.1 a0 3) (0, 4) (cp (f_X4_refused y (y.2.1 a0 3) (2 : Int32) M) fun (r104 : Int32) => some (0, r104, M)))))))))))))))))))))
theorem w_X11_count {g : GX} {l : Launch} (hG : GF g l) (y : Lay) (a0 : Nat) (a1 : Int32) (M : Mem) : C1 g l yX11_count cX11_count 2 (some .int) 1 1 6 y [.ref a0, .int a1] M (f_X11_count y a0 a1 M) := by
  refine C1_of hG (by decide) [some (.ref a0), some (.int a1)] rfl rfl (fun out h x Q C R => ?_)
  unfold f_X11_count at h
  refine g_iload_n C tb_X11_count_0_ok (i := 0) rfl rfl ?_
  obtain ⟨t1, f2⟩ := br_e h
  by_cases hsw : a1 < (0 : Int32) ∨ (16 : Int32) < a1
  · have h := t1 hsw
    refine g_tableOut C tb_X11_count_0_ok (i := 1) 0 16 244 rfl hsw (by decide) rfl ?_
    cases h
    exact g_throw (T2 := []) C tb_X11_count_2_ok (i0 := 0) (i1 := 1) (i2 := 2) (i3 := 3) (e := 0) R tw_X11_176_178 rfl rfl rfl rfl rfl rfl rfl
  have h := f2 hsw
  obtain ⟨t7, f8⟩ := br_e h
  by_cases hs1000 : a1 = (0 : Int32)
  · have h := t7 hs1000
    refine g_tableIn C tb_X11_count_0_ok (i := 1) 0 84 83 rfl hs1000 (by decide) rfl ?_
    refine g_aload_n C tb_X11_count_0_ok (i := 2) rfl rfl ?_
    obtain ⟨k3, h⟩ := gK_e h
    obtain ⟨n4, h⟩ := gN_e h
    refine g_getR C tb_X11_count_0_ok (i := 3) rfl fl_X11_19 rfl k3 n4 ?_
    obtain ⟨k5, h⟩ := gK_e h
    obtain ⟨r6, er6, h⟩ := cp_e h
    refine g_callV0 C tb_X11_count_0_ok (i := 4) [] rfl mw_X1_cells mv_X1_cells ml_X11_128 k5 rfl rfl rfl rfl (w_X1_cells C.G y (y.2.1 a0 1) M) (pm_s er6) rfl rfl rfl ?_
    cases h
    exact g_iret1 C R rfl rfl tb_X11_count_0_ok (i := 5) rfl
  have h := f8 hs1000
  obtain ⟨t12, f13⟩ := br_e h
  by_cases hs1001 : a1 = (1 : Int32)
  · have h := t12 hs1001
    refine g_tableIn C tb_X11_count_0_ok (i := 1) 1 92 91 rfl hs1001 (by decide) rfl ?_
    refine g_aload_n C tb_X11_count_0_ok (i := 6) rfl rfl ?_
    obtain ⟨k9, h⟩ := gK_e h
    obtain ⟨n10, h⟩ := gN_e h
    refine g_getR C tb_X11_count_0_ok (i := 7) rfl fl_X11_19 rfl k9 n10 ?_
    obtain ⟨k11, h⟩ := gK_e h
    refine g_getI C tb_X11_count_0_ok (i := 8) rfl fl_X11_131 rfl k11 ?_
    cases h
    exact g_iret1 C R rfl rfl tb_X11_count_0_ok (i := 9) rfl
  have h := f13 hs1001
  obtain ⟨t17, f18⟩ := br_e h
  by_cases hs1002 : a1 = (2 : Int32)
  · have h := t17 hs1002
    refine g_tableIn C tb_X11_count_0_ok (i := 1) 2 100 99 rfl hs1002 (by decide) rfl ?_
    refine g_aload_n C tb_X11_count_0_ok (i := 10) rfl rfl ?_
    obtain ⟨k14, h⟩ := gK_e h
    obtain ⟨n15, h⟩ := gN_e h
    refine g_getR C tb_X11_count_0_ok (i := 11) rfl fl_X11_19 rfl k14 n15 ?_
    obtain ⟨k16, h⟩ := gK_e h
    refine g_getI C tb_X11_count_0_ok (i := 12) rfl fl_X11_134 rfl k16 ?_
    cases h
    exact g_iret1 C R rfl rfl tb_X11_count_0_ok (i := 13) rfl
  have h := f18 hs1002
  obtain ⟨t24, f25⟩ := br_e h
  by_cases hs1003 : a1 = (3 : Int32)
  · have h := t24 hs1003
    refine g_tableIn C tb_X11_count_0_ok (i := 1) 3 108 107 rfl hs1003 (by decide) rfl ?_
    refine g_aload_n C tb_X11_count_0_ok (i := 14) rfl rfl ?_
    obtain ⟨k19, h⟩ := gK_e h
    obtain ⟨n20, h⟩ := gN_e h
    refine g_getR C tb_X11_count_0_ok (i := 15) rfl fl_X11_37 rfl k19 n20 ?_
    obtain ⟨k21, h⟩ := gK_e h
    obtain ⟨n22, h⟩ := gN_e h
    refine g_getR C tb_X11_count_0_ok (i := 16) rfl fl_X11_53 rfl k21 n22 ?_
    obtain ⟨k23, h⟩ := gK_e h
    refine g_getI C tb_X11_count_0_ok (i := 17) rfl fl_X11_137 rfl k23 ?_
    cases h
    exact g_iret1 C R rfl rfl tb_X11_count_0_ok (i := 18) rfl
  have h := f25 hs1003
  obtain ⟨t31, f32⟩ := br_e h
  by_cases hs1004 : a1 = (4 : Int32)
  · have h := t31 hs1004
    refine g_tableIn C tb_X11_count_0_ok (i := 1) 4 119 118 rfl hs1004 (by decide) rfl ?_
    refine g_aload_n C tb_X11_count_0_ok (i := 19) rfl rfl ?_
    obtain ⟨k26, h⟩ := gK_e h
    obtain ⟨n27, h⟩ := gN_e h
    refine g_getR C tb_X11_count_0_ok (i := 20) rfl fl_X11_37 rfl k26 n27 ?_
    obtain ⟨k28, h⟩ := gK_e h
    obtain ⟨n29, h⟩ := gN_e h
    refine g_getR C tb_X11_count_0_ok (i := 21) rfl fl_X11_53 rfl k28 n29 ?_
    obtain ⟨k30, h⟩ := gK_e h
    refine g_getI C tb_X11_count_0_ok (i := 22) rfl fl_X11_140 rfl k30 ?_
    cases h
    exact g_iret1 C R rfl rfl tb_X11_count_0_ok (i := 23) rfl
  have h := f32 hs1004
  obtain ⟨t36, f37⟩ := br_e h
  by_cases hs1005 : a1 = (5 : Int32)
  · have h := t36 hs1005
    refine g_tableIn C tb_X11_count_0_ok (i := 1) 5 130 129 rfl hs1005 (by decide) rfl ?_
    refine g_aload_n C tb_X11_count_0_ok (i := 24) rfl rfl ?_
    obtain ⟨k33, h⟩ := gK_e h
    obtain ⟨n34, h⟩ := gN_e h
    refine g_getR C tb_X11_count_0_ok (i := 25) rfl fl_X11_19 rfl k33 n34 ?_
    obtain ⟨k35, h⟩ := gK_e h
    refine g_getI C tb_X11_count_0_ok (i := 26) rfl fl_X11_143 rfl k35 ?_
    cases h
    exact g_iret1 C R rfl rfl tb_X11_count_0_ok (i := 27) rfl
  have h := f37 hs1005
  obtain ⟨t41, f42⟩ := br_e h
  by_cases hs1006 : a1 = (6 : Int32)
  · have h := t41 hs1006
    refine g_tableIn C tb_X11_count_0_ok (i := 1) 6 138 137 rfl hs1006 (by decide) rfl ?_
    refine g_aload_n C tb_X11_count_0_ok (i := 28) rfl rfl ?_
    obtain ⟨k38, h⟩ := gK_e h
    obtain ⟨n39, h⟩ := gN_e h
    refine g_getR C tb_X11_count_0_ok (i := 29) rfl fl_X11_19 rfl k38 n39 ?_
    obtain ⟨k40, h⟩ := gK_e h
    refine g_getI C tb_X11_count_0_ok (i := 30) rfl fl_X11_146 rfl k40 ?_
    cases h
    exact g_iret1 C R rfl rfl tb_X11_count_0_ok (i := 31) rfl
  have h := f42 hs1006
  obtain ⟨t48, f49⟩ := br_e h
  by_cases hs1007 : a1 = (7 : Int32)
  · have h := t48 hs1007
    refine g_tableIn C tb_X11_count_0_ok (i := 1) 7 146 145 rfl hs1007 (by decide) rfl ?_
    refine g_aload_n C tb_X11_count_0_ok (i := 32) rfl rfl ?_
    obtain ⟨k43, h⟩ := gK_e h
    obtain ⟨n44, h⟩ := gN_e h
    refine g_getR C tb_X11_count_0_ok (i := 33) rfl fl_X11_37 rfl k43 n44 ?_
    obtain ⟨k45, h⟩ := gK_e h
    obtain ⟨n46, h⟩ := gN_e h
    refine g_getR C tb_X11_count_0_ok (i := 34) rfl fl_X11_53 rfl k45 n46 ?_
    obtain ⟨k47, h⟩ := gK_e h
    refine g_getI C tb_X11_count_0_ok (i := 35) rfl fl_X11_149 rfl k47 ?_
    cases h
    exact g_iret1 C R rfl rfl tb_X11_count_0_ok (i := 36) rfl
  have h := f49 hs1007
  obtain ⟨t55, f56⟩ := br_e h
  by_cases hs1008 : a1 = (8 : Int32)
  · have h := t55 hs1008
    refine g_tableIn C tb_X11_count_0_ok (i := 1) 8 157 156 rfl hs1008 (by decide) rfl ?_
    refine g_aload_n C tb_X11_count_0_ok (i := 37) rfl rfl ?_
    obtain ⟨k50, h⟩ := gK_e h
    obtain ⟨n51, h⟩ := gN_e h
    refine g_getR C tb_X11_count_0_ok (i := 38) rfl fl_X11_37 rfl k50 n51 ?_
    obtain ⟨k52, h⟩ := gK_e h
    obtain ⟨n53, h⟩ := gN_e h
    refine g_getR C tb_X11_count_0_ok (i := 39) rfl fl_X11_53 rfl k52 n53 ?_
    obtain ⟨k54, h⟩ := gK_e h
    refine g_getI C tb_X11_count_1_ok (i := 0) rfl fl_X11_152 rfl k54 ?_
    cases h
    exact g_iret1 C R rfl rfl tb_X11_count_1_ok (i := 1) rfl
  have h := f56 hs1008
  obtain ⟨t62, f63⟩ := br_e h
  by_cases hs1009 : a1 = (9 : Int32)
  · have h := t62 hs1009
    refine g_tableIn C tb_X11_count_0_ok (i := 1) 9 168 167 rfl hs1009 (by decide) rfl ?_
    refine g_aload_n C tb_X11_count_1_ok (i := 2) rfl rfl ?_
    obtain ⟨k57, h⟩ := gK_e h
    obtain ⟨n58, h⟩ := gN_e h
    refine g_getR C tb_X11_count_1_ok (i := 3) rfl fl_X11_37 rfl k57 n58 ?_
    obtain ⟨k59, h⟩ := gK_e h
    obtain ⟨n60, h⟩ := gN_e h
    refine g_getR C tb_X11_count_1_ok (i := 4) rfl fl_X11_53 rfl k59 n60 ?_
    obtain ⟨k61, h⟩ := gK_e h
    refine g_getI C tb_X11_count_1_ok (i := 5) rfl fl_X11_155 rfl k61 ?_
    cases h
    exact g_iret1 C R rfl rfl tb_X11_count_1_ok (i := 6) rfl
  have h := f63 hs1009
  obtain ⟨t70, f71⟩ := br_e h
  by_cases hs1010 : a1 = (10 : Int32)
  · have h := t70 hs1010
    refine g_tableIn C tb_X11_count_0_ok (i := 1) 10 179 178 rfl hs1010 (by decide) rfl ?_
    refine g_aload_n C tb_X11_count_1_ok (i := 7) rfl rfl ?_
    obtain ⟨k64, h⟩ := gK_e h
    obtain ⟨n65, h⟩ := gN_e h
    refine g_getR C tb_X11_count_1_ok (i := 8) rfl fl_X11_37 rfl k64 n65 ?_
    obtain ⟨k66, h⟩ := gK_e h
    obtain ⟨n67, h⟩ := gN_e h
    refine g_getR C tb_X11_count_1_ok (i := 9) rfl fl_X11_53 rfl k66 n67 ?_
    obtain ⟨k68, h⟩ := gK_e h
    obtain ⟨r69, er69, h⟩ := cp_e h
    refine g_callV0 C tb_X11_count_1_ok (i := 10) [] rfl mw_X8_allBlue mv_X8_allBlue ml_X11_158 k68 rfl rfl rfl rfl (w_X8_allBlue C.G y (y.2.1 (y.2.1 a0 3) 0) M) (pm_s er69) rfl rfl rfl ?_
    cases h
    exact g_iret1 C R rfl rfl tb_X11_count_1_ok (i := 11) rfl
  have h := f71 hs1010
  obtain ⟨t77, f78⟩ := br_e h
  by_cases hs1011 : a1 = (11 : Int32)
  · have h := t77 hs1011
    refine g_tableIn C tb_X11_count_0_ok (i := 1) 11 190 189 rfl hs1011 (by decide) rfl ?_
    refine g_aload_n C tb_X11_count_1_ok (i := 12) rfl rfl ?_
    obtain ⟨k72, h⟩ := gK_e h
    obtain ⟨n73, h⟩ := gN_e h
    refine g_getR C tb_X11_count_1_ok (i := 13) rfl fl_X11_37 rfl k72 n73 ?_
    obtain ⟨k74, h⟩ := gK_e h
    obtain ⟨n75, h⟩ := gN_e h
    refine g_getR C tb_X11_count_1_ok (i := 14) rfl fl_X11_161 rfl k74 n75 ?_
    obtain ⟨k76, h⟩ := gK_e h
    refine g_getI C tb_X11_count_1_ok (i := 15) rfl fl_X11_165 rfl k76 ?_
    cases h
    exact g_iret1 C R rfl rfl tb_X11_count_1_ok (i := 16) rfl
  have h := f78 hs1011
  obtain ⟨t82, f83⟩ := br_e h
  by_cases hs1012 : a1 = (12 : Int32)
  · have h := t82 hs1012
    refine g_tableIn C tb_X11_count_0_ok (i := 1) 12 201 200 rfl hs1012 (by decide) rfl ?_
    refine g_aload_n C tb_X11_count_1_ok (i := 17) rfl rfl ?_
    obtain ⟨k79, h⟩ := gK_e h
    obtain ⟨n80, h⟩ := gN_e h
    refine g_getR C tb_X11_count_1_ok (i := 18) rfl fl_X11_37 rfl k79 n80 ?_
    obtain ⟨k81, h⟩ := gK_e h
    refine g_getI C tb_X11_count_1_ok (i := 19) rfl fl_X11_170 rfl k81 ?_
    cases h
    exact g_iret1 C R rfl rfl tb_X11_count_1_ok (i := 20) rfl
  have h := f83 hs1012
  obtain ⟨t87, f88⟩ := br_e h
  by_cases hs1013 : a1 = (13 : Int32)
  · have h := t87 hs1013
    refine g_tableIn C tb_X11_count_0_ok (i := 1) 13 209 208 rfl hs1013 (by decide) rfl ?_
    refine g_aload_n C tb_X11_count_1_ok (i := 21) rfl rfl ?_
    obtain ⟨k84, h⟩ := gK_e h
    obtain ⟨n85, h⟩ := gN_e h
    refine g_getR C tb_X11_count_1_ok (i := 22) rfl fl_X11_10 rfl k84 n85 ?_
    obtain ⟨k86, h⟩ := gK_e h
    refine g_getI C tb_X11_count_1_ok (i := 23) rfl fl_X11_93 rfl k86 ?_
    cases h
    exact g_iret1 C R rfl rfl tb_X11_count_1_ok (i := 24) rfl
  have h := f88 hs1013
  obtain ⟨t93, f94⟩ := br_e h
  by_cases hs1014 : a1 = (14 : Int32)
  · have h := t93 hs1014
    refine g_tableIn C tb_X11_count_0_ok (i := 1) 14 217 216 rfl hs1014 (by decide) rfl ?_
    refine g_aload_n C tb_X11_count_1_ok (i := 25) rfl rfl ?_
    obtain ⟨k89, h⟩ := gK_e h
    obtain ⟨n90, h⟩ := gN_e h
    refine g_getR C tb_X11_count_1_ok (i := 26) rfl fl_X11_37 rfl k89 n90 ?_
    refine g_iconstv C tb_X11_count_1_ok (i := 27) 0 rfl k_iconstv_0 ?_
    obtain ⟨k91, h⟩ := gK_e h
    obtain ⟨r92, er92, h⟩ := cp_e h
    refine g_callV0 C tb_X11_count_1_ok (i := 28) [.int (0 : Int32)] rfl mw_X4_refused mv_X4_refused ml_X11_173 k91 rfl rfl rfl rfl (w_X4_refused C.G y (y.2.1 a0 3) (0 : Int32) M) (pm_s er92) rfl rfl rfl ?_
    cases h
    exact g_iret1 C R rfl rfl tb_X11_count_1_ok (i := 29) rfl
  have h := f94 hs1014
  obtain ⟨t99, f100⟩ := br_e h
  by_cases hs1015 : a1 = (15 : Int32)
  · have h := t99 hs1015
    refine g_tableIn C tb_X11_count_0_ok (i := 1) 15 226 225 rfl hs1015 (by decide) rfl ?_
    refine g_aload_n C tb_X11_count_1_ok (i := 30) rfl rfl ?_
    obtain ⟨k95, h⟩ := gK_e h
    obtain ⟨n96, h⟩ := gN_e h
    refine g_getR C tb_X11_count_1_ok (i := 31) rfl fl_X11_37 rfl k95 n96 ?_
    refine g_iconstv C tb_X11_count_1_ok (i := 32) 1 rfl k_iconstv_1 ?_
    obtain ⟨k97, h⟩ := gK_e h
    obtain ⟨r98, er98, h⟩ := cp_e h
    refine g_callV0 C tb_X11_count_1_ok (i := 33) [.int (1 : Int32)] rfl mw_X4_refused mv_X4_refused ml_X11_173 k97 rfl rfl rfl rfl (w_X4_refused C.G y (y.2.1 a0 3) (1 : Int32) M) (pm_s er98) rfl rfl rfl ?_
    cases h
    exact g_iret1 C R rfl rfl tb_X11_count_1_ok (i := 34) rfl
  have h := f100 hs1015
  have hlast : a1 = (16 : Int32) := i32_sw (l := [(0 : Int32), (1 : Int32), (2 : Int32), (3 : Int32), (4 : Int32), (5 : Int32), (6 : Int32), (7 : Int32), (8 : Int32), (9 : Int32), (10 : Int32), (11 : Int32), (12 : Int32), (13 : Int32), (14 : Int32), (15 : Int32)]) (n := 16) hsw (by decide +kernel) (i32_ne [(0 : Int32), (1 : Int32), (2 : Int32), (3 : Int32), (4 : Int32), (5 : Int32), (6 : Int32), (7 : Int32), (8 : Int32), (9 : Int32), (10 : Int32), (11 : Int32), (12 : Int32), (13 : Int32), (14 : Int32), (15 : Int32)] rfl (by intro c hc; simp only [List.mem_cons, List.not_mem_nil, or_false] at hc; rcases hc with rfl | rfl | rfl | rfl | rfl | rfl | rfl | rfl | rfl | rfl | rfl | rfl | rfl | rfl | rfl | rfl <;> assumption))
  refine g_tableIn C tb_X11_count_0_ok (i := 1) 16 235 234 rfl hlast (by decide) rfl ?_
  refine g_aload_n C tb_X11_count_1_ok (i := 35) rfl rfl ?_
  obtain ⟨k101, h⟩ := gK_e h
  obtain ⟨n102, h⟩ := gN_e h
  refine g_getR C tb_X11_count_1_ok (i := 36) rfl fl_X11_37 rfl k101 n102 ?_
  refine g_iconstv C tb_X11_count_1_ok (i := 37) 2 rfl k_iconstv_2 ?_
  obtain ⟨k103, h⟩ := gK_e h
  obtain ⟨r104, er104, h⟩ := cp_e h
  refine g_callV0 C tb_X11_count_1_ok (i := 38) [.int (2 : Int32)] rfl mw_X4_refused mv_X4_refused ml_X11_173 k103 rfl rfl rfl rfl (w_X4_refused C.G y (y.2.1 a0 3) (2 : Int32) M) (pm_s er104) rfl rfl rfl ?_
  cases h
  exact g_iret1 C R rfl rfl tb_X11_count_1_ok (i := 39) rfl
def f_X11_needCell (y : Lay) (a0 : Nat) (a1 : Int32) (M : Mem) : Option (Nat × Int32 × Mem) := jn (fun (_u : Unit) => some (1, 0, M)) fun j1 => br (a1 < 0) (j1 ()) (gK y a0 (0, 11) (gN (y.2.1 a0 1) (gK y (y.2.1 a0 1) (0, 1) (cp (f_X1_cells y (y.2.1 a0 1) M) fun (r7 : Int32) => br (a1 < r7) (some (0, 0, M)) (j1 ())))))
theorem w_X11_needCell {g : GX} {l : Launch} (hG : GF g l) (y : Lay) (a0 : Nat) (a1 : Int32) (M : Mem) : C1 g l yX11_needCell cX11_needCell 2 none 1 1 6 y [.ref a0, .int a1] M (f_X11_needCell y a0 a1 M) := by
  refine C1_of hG (by decide) [some (.ref a0), some (.int a1)] rfl rfl (fun out h x Q C R => ?_)
  unfold f_X11_needCell at h
  refine g_iload_n C tb_X11_needCell_0_ok (i := 0) rfl rfl ?_
  obtain ⟨j1, ej1, h⟩ := jn_e h
  have J15 : ∀ (_u : Unit), j1 _u = some out → GG g x 2 Q 0 0 y M 15 [none, none] [] := by
    intro _u h; subst ej1
    cases h
    exact g_throw (T2 := []) C tb_X11_needCell_0_ok (i0 := 7) (i1 := 8) (i2 := 9) (i3 := 10) (e := 0) R tw_X11_176_178 rfl rfl rfl rfl rfl rfl rfl
  obtain ⟨t2, f3⟩ := br_e h
  refine g_if_lt C tb_X11_needCell_0_ok (i := 1) 15 rfl rfl (fun c => ?_) (fun c => ?_)
  · have h := t2 c
    exact g_less (L' := [none, none]) trivial (J15 () h)
  · have h := f3 c
    refine g_iload_n C tb_X11_needCell_0_ok (i := 2) rfl rfl ?_
    refine g_aload_n C tb_X11_needCell_0_ok (i := 3) rfl rfl ?_
    obtain ⟨k4, h⟩ := gK_e h
    obtain ⟨n5, h⟩ := gN_e h
    refine g_getR C tb_X11_needCell_0_ok (i := 4) rfl fl_X11_19 rfl k4 n5 ?_
    obtain ⟨k6, h⟩ := gK_e h
    obtain ⟨r7, er7, h⟩ := cp_e h
    refine g_callV0 C tb_X11_needCell_0_ok (i := 5) [] rfl mw_X1_cells mv_X1_cells ml_X11_128 k6 rfl rfl rfl rfl (w_X1_cells C.G y (y.2.1 a0 1) M) (pm_s er7) rfl rfl rfl ?_
    obtain ⟨t8, f9⟩ := br_e h
    refine g_icmp_lt C tb_X11_needCell_0_ok (i := 6) 23 rfl rfl (fun c => ?_) (fun c => ?_)
    · have h := t8 c
      cases h
      exact g_vret1 C R rfl rfl tb_X11_needCell_0_ok (i := 11) rfl
    · have h := f9 c
      exact g_less (L' := [none, none]) trivial (J15 () h)
def f_X8_girlsAt (y : Lay) (a0 : Nat) (a1 : Int32) (M : Mem) : Option Int32 := fixN (fun _ _ => none) (fun (s3 : Int32 → Int32 → Option Int32) (v1 : Int32) (v2 : Int32) => gK y a0 (0, 8) (gN (y.2.1 a0 0) (gK y (y.2.1 a0 0) (0, 1) (br ((M.1 (y.2.1 a0 0) 4) ≤ v2) (some v1) (cp (f_X8_spotOf y a0 v2 M) fun (r10 : Int32) => jn (fun (v11 : Int32) => lt (v2 + (1 : Int32)) fun (v13 : Int32) => s3 v11 v13) fun j12 => br (r10 = a1) (lt (v1 ||| ((1 : Int32) <<< (v2 &&& 31))) fun (v16 : Int32) => j12 v16) (j12 v1)))))) FUEL (0 : Int32) (0 : Int32)
theorem w_X8_girlsAt {g : GX} {l : Launch} (hG : GF g l) (y : Lay) (a0 : Nat) (a1 : Int32) (M : Mem) : C0 g l yX8_girlsAt cX8_girlsAt 4 (some .int) 1 y [.ref a0, .int a1] M (pm M (f_X8_girlsAt y a0 a1 M)) := by
  refine CP_of hG (by decide) [some (.ref a0), some (.int a1), none, none] rfl rfl (fun out h x Q C R => ?_)
  unfold f_X8_girlsAt at h
  refine g_iconstv C tb_X8_girlsAt_0_ok (i := 0) 0 rfl k_iconstv_0 ?_
  refine g_istore_n C tb_X8_girlsAt_0_ok (i := 1) rfl rfl rfl ?_
  refine g_iconstv C tb_X8_girlsAt_0_ok (i := 2) 0 rfl k_iconstv_0 ?_
  refine g_istore_n C tb_X8_girlsAt_0_ok (i := 3) rfl rfl rfl ?_
  refine g_less (L' := [some (.ref a0), some (.int a1), some (.int (0 : Int32)), some (.int (0 : Int32))]) ⟨rfl, ⟨rfl, ⟨rfl, ⟨rfl, trivial⟩⟩⟩⟩ ?_
  refine fix_i (P := fun (f : Int32 → Int32 → Option Int32) => ∀ (v1 : Int32) (v2 : Int32), f v1 v2 = some out → GG g x 4 Q 0 0 y M 4 [some (.ref a0), some (.int a1), some (.int v1), some (.int v2)] []) ?_ ?_ _ (0 : Int32) (0 : Int32) h
  · intro v1 v2 h; exact (nn_e h).elim
  · intro s3 ih4 v1 v2 h
    refine g_iload_n C tb_X8_girlsAt_0_ok (i := 4) rfl rfl ?_
    refine g_aload_n C tb_X8_girlsAt_0_ok (i := 5) rfl rfl ?_
    obtain ⟨k5, h⟩ := gK_e h
    obtain ⟨n6, h⟩ := gN_e h
    refine g_getR C tb_X8_girlsAt_0_ok (i := 6) rfl fl_X8_32 rfl k5 n6 ?_
    obtain ⟨k7, h⟩ := gK_e h
    refine g_getI C tb_X8_girlsAt_0_ok (i := 7) rfl fl_X8_74 rfl k7 ?_
    obtain ⟨t8, f9⟩ := br_e h
    refine g_icmp_ge C tb_X8_girlsAt_0_ok (i := 8) 36 rfl rfl (fun c => ?_) (fun c => ?_)
    · have h := t8 c
      refine g_iload_n C tb_X8_girlsAt_0_ok (i := 22) rfl rfl ?_
      cases h
      exact g_iret0 C R tb_X8_girlsAt_0_ok (i := 23) rfl
    · have h := f9 c
      refine g_aload_n C tb_X8_girlsAt_0_ok (i := 9) rfl rfl ?_
      refine g_iload_n C tb_X8_girlsAt_0_ok (i := 10) rfl rfl ?_
      obtain ⟨r10, er10, h⟩ := cp_e h
      refine g_callV0 C tb_X8_girlsAt_0_ok (i := 11) [.int v2] rfl mw_X8_spotOf mv_X8_spotOf ml_X8_132 k5 rfl rfl rfl rfl (w_X8_spotOf C.G y a0 v2 M) (pm_s er10) rfl rfl rfl ?_
      refine g_iload_n C tb_X8_girlsAt_0_ok (i := 12) rfl rfl ?_
      obtain ⟨j12, ej12, h⟩ := jn_e h
      have J30 : ∀ (v11 : Int32), j12 v11 = some out → GG g x 4 Q 0 0 y M 30 [some (.ref a0), some (.int a1), some (.int v11), some (.int v2)] [] := by
        intro v11 h; subst ej12
        obtain ⟨v13, ev13⟩ : ∃ w : Int32, w = v2 + (1 : Int32) := ⟨_, rfl⟩
        have h := lt_e ev13 h
        refine g_iincv C tb_X8_girlsAt_0_ok (i := 20) (1 : Int32) ev13 rfl rfl k_iconstv_1 rfl rfl ?_
        refine g_goto C tb_X8_girlsAt_0_ok (i := 21) 4 rfl rfl ?_
        exact g_less (L' := [some (.ref a0), some (.int a1), some (.int v11), some (.int v13)]) ⟨rfl, ⟨rfl, ⟨rfl, ⟨rfl, trivial⟩⟩⟩⟩ (ih4 v11 v13 h)
      obtain ⟨t14, f15⟩ := br_e h
      refine g_icmp_ne C tb_X8_girlsAt_0_ok (i := 13) 30 rfl rfl (fun c => ?_) (fun c => ?_)
      · have h := f15 c
        exact g_less (L' := [some (.ref a0), some (.int a1), some (.int v1), some (.int v2)]) ⟨rfl, ⟨rfl, ⟨rfl, ⟨rfl, trivial⟩⟩⟩⟩ (J30 v1 h)
      · have h := t14 c
        refine g_iload_n C tb_X8_girlsAt_0_ok (i := 14) rfl rfl ?_
        refine g_iconstv C tb_X8_girlsAt_0_ok (i := 15) 1 rfl k_iconstv_1 ?_
        refine g_iload_n C tb_X8_girlsAt_0_ok (i := 16) rfl rfl ?_
        refine g_ishl C tb_X8_girlsAt_0_ok (i := 17) rfl ?_
        refine g_ior C tb_X8_girlsAt_0_ok (i := 18) rfl ?_
        refine g_topi (fun v16 ev16 => ?_)
        have h := lt_e ev16 h
        refine g_istore_n C tb_X8_girlsAt_0_ok (i := 19) rfl rfl rfl ?_
        exact g_less (L' := [some (.ref a0), some (.int a1), some (.int v16), some (.int v2)]) ⟨rfl, ⟨rfl, ⟨rfl, ⟨rfl, trivial⟩⟩⟩⟩ (J30 v16 h)
def f_X8_besideWithin (y : Lay) (a0 : Nat) (a1 : Int32) (a2 : Int32) (M : Mem) : Option Int32 := fixN (fun _ _ => none) (fun (s3 : Int32 → Int32 → Option Int32) (v1 : Int32) (v2 : Int32) => gK y a0 (0, 8) (gN (y.2.1 a0 0) (gK y (y.2.1 a0 0) (0, 1) (cp (f_X1_cells y (y.2.1 a0 0) M) fun (r8 : Int32) => br (r8 ≤ v2) (some v1) (cp (f_X1_besideBits y (y.2.1 a0 0) v2 M) fun (r11 : Int32) => lt (r11 &&& a1) fun (v12 : Int32) => fixN (fun _ _ => none) (fun (s15 : Int32 → Int32 → Option Int32) (v13 : Int32) (v14 : Int32) => cp (f_X1_cells y (y.2.1 a0 0) M) fun (r17 : Int32) => br (r17 ≤ v14) (lt (v2 + (1 : Int32)) fun (v20 : Int32) => s3 v13 v20) (jn (fun (v21 : Int32) => lt (v14 + (1 : Int32)) fun (v23 : Int32) => s15 v21 v23) fun j22 => br (((v12 >>> (v14 &&& 31)) &&& (1 : Int32)) = 0) (j22 v13) (cp (f_X8_blueOf y a0 v14 M) fun (r26 : Int32) => cp (f_X8_blueOf y a0 v2 M) fun (r27 : Int32) => br (a2 < (jabs (r26 - r27))) (j22 v13) (lt (v13 ||| ((1 : Int32) <<< (v2 &&& 31))) fun (v30 : Int32) => j22 v30)))) FUEL v1 (0 : Int32)))))) FUEL (0 : Int32) (0 : Int32)
theorem w_X8_besideWithin {g : GX} {l : Launch} (hG : GF g l) (y : Lay) (a0 : Nat) (a1 : Int32) (a2 : Int32) (M : Mem) : C0 g l yX8_besideWithin cX8_besideWithin 7 (some .int) 1 y [.ref a0, .int a1, .int a2] M (pm M (f_X8_besideWithin y a0 a1 a2 M)) := by
  refine CP_of hG (by decide) [some (.ref a0), some (.int a1), some (.int a2), none, none, none, none] rfl rfl (fun out h x Q C R => ?_)
  unfold f_X8_besideWithin at h
  refine g_iconstv C tb_X8_besideWithin_0_ok (i := 0) 0 rfl k_iconstv_0 ?_
  refine g_istore_n C tb_X8_besideWithin_0_ok (i := 1) rfl rfl rfl ?_
  refine g_iconstv C tb_X8_besideWithin_0_ok (i := 2) 0 rfl k_iconstv_0 ?_
  refine g_istore C tb_X8_besideWithin_0_ok (i := 3) rfl rfl rfl ?_
  refine g_less (L' := [some (.ref a0), some (.int a1), some (.int a2), some (.int (0 : Int32)), some (.int (0 : Int32)), none, none]) ⟨rfl, ⟨rfl, ⟨rfl, ⟨rfl, ⟨rfl, trivial⟩⟩⟩⟩⟩ ?_
  refine fix_i (P := fun (f : Int32 → Int32 → Option Int32) => ∀ (v1 : Int32) (v2 : Int32), f v1 v2 = some out → GG g x 7 Q 0 0 y M 5 [some (.ref a0), some (.int a1), some (.int a2), some (.int v1), some (.int v2), none, none] []) ?_ ?_ _ (0 : Int32) (0 : Int32) h
  · intro v1 v2 h; exact (nn_e h).elim
  · intro s3 ih4 v1 v2 h
    refine g_iload C tb_X8_besideWithin_0_ok (i := 4) rfl rfl ?_
    refine g_aload_n C tb_X8_besideWithin_0_ok (i := 5) rfl rfl ?_
    obtain ⟨k5, h⟩ := gK_e h
    obtain ⟨n6, h⟩ := gN_e h
    refine g_getR C tb_X8_besideWithin_0_ok (i := 6) rfl fl_X8_32 rfl k5 n6 ?_
    obtain ⟨k7, h⟩ := gK_e h
    obtain ⟨r8, er8, h⟩ := cp_e h
    refine g_callV0 C tb_X8_besideWithin_0_ok (i := 7) [] rfl mw_X1_cells mv_X1_cells ml_X8_147 k7 rfl rfl rfl rfl (w_X1_cells C.G y (y.2.1 a0 0) M) (pm_s er8) rfl rfl rfl ?_
    obtain ⟨t9, f10⟩ := br_e h
    refine g_icmp_ge C tb_X8_besideWithin_0_ok (i := 8) 94 rfl rfl (fun c => ?_) (fun c => ?_)
    · have h := t9 c
      refine g_iload_n C tb_X8_besideWithin_1_ok (i := 9) rfl rfl ?_
      cases h
      exact g_iret0 C R tb_X8_besideWithin_1_ok (i := 10) rfl
    · have h := f10 c
      refine g_aload_n C tb_X8_besideWithin_0_ok (i := 9) rfl rfl ?_
      refine g_getR C tb_X8_besideWithin_0_ok (i := 10) rfl fl_X8_32 rfl k5 n6 ?_
      refine g_iload C tb_X8_besideWithin_0_ok (i := 11) rfl rfl ?_
      obtain ⟨r11, er11, h⟩ := cp_e h
      refine g_callV0 C tb_X8_besideWithin_0_ok (i := 12) [.int v2] rfl mw_X1_besideBits mv_X1_besideBits ml_X8_144 k7 rfl rfl rfl rfl (w_X1_besideBits C.G y (y.2.1 a0 0) v2 M) (pm_s er11) rfl rfl rfl ?_
      refine g_iload_n C tb_X8_besideWithin_0_ok (i := 13) rfl rfl ?_
      refine g_iand C tb_X8_besideWithin_0_ok (i := 14) rfl ?_
      refine g_topi (fun v12 ev12 => ?_)
      have h := lt_e ev12 h
      refine g_istore C tb_X8_besideWithin_0_ok (i := 15) rfl rfl rfl ?_
      refine g_iconstv C tb_X8_besideWithin_0_ok (i := 16) 0 rfl k_iconstv_0 ?_
      refine g_istore C tb_X8_besideWithin_0_ok (i := 17) rfl rfl rfl ?_
      refine g_less (L' := [some (.ref a0), some (.int a1), some (.int a2), some (.int v1), some (.int v2), some (.int v12), some (.int (0 : Int32))]) ⟨rfl, ⟨rfl, ⟨rfl, ⟨rfl, ⟨rfl, ⟨rfl, ⟨rfl, trivial⟩⟩⟩⟩⟩⟩⟩ ?_
      refine fix_i (P := fun (f : Int32 → Int32 → Option Int32) => ∀ (v13 : Int32) (v14 : Int32), f v13 v14 = some out → GG g x 7 Q 0 0 y M 33 [some (.ref a0), some (.int a1), some (.int a2), some (.int v13), some (.int v2), some (.int v12), some (.int v14)] []) ?_ ?_ _ v1 (0 : Int32) h
      · intro v13 v14 h; exact (nn_e h).elim
      · intro s15 ih16 v13 v14 h
        refine g_iload C tb_X8_besideWithin_0_ok (i := 18) rfl rfl ?_
        refine g_aload_n C tb_X8_besideWithin_0_ok (i := 19) rfl rfl ?_
        refine g_getR C tb_X8_besideWithin_0_ok (i := 20) rfl fl_X8_32 rfl k5 n6 ?_
        obtain ⟨r17, er17, h⟩ := cp_e h
        refine g_callV0 C tb_X8_besideWithin_0_ok (i := 21) [] rfl mw_X1_cells mv_X1_cells ml_X8_147 k7 rfl rfl rfl rfl (w_X1_cells C.G y (y.2.1 a0 0) M) (pm_s er17) rfl rfl rfl ?_
        obtain ⟨t18, f19⟩ := br_e h
        refine g_icmp_ge C tb_X8_besideWithin_0_ok (i := 22) 88 rfl rfl (fun c => ?_) (fun c => ?_)
        · have h := t18 c
          obtain ⟨v20, ev20⟩ : ∃ w : Int32, w = v2 + (1 : Int32) := ⟨_, rfl⟩
          have h := lt_e ev20 h
          refine g_iincv C tb_X8_besideWithin_1_ok (i := 7) (1 : Int32) ev20 rfl rfl k_iconstv_1 rfl rfl ?_
          refine g_goto C tb_X8_besideWithin_1_ok (i := 8) 5 rfl rfl ?_
          exact g_less (L' := [some (.ref a0), some (.int a1), some (.int a2), some (.int v13), some (.int v20), none, none]) ⟨rfl, ⟨rfl, ⟨rfl, ⟨rfl, ⟨rfl, trivial⟩⟩⟩⟩⟩ (ih4 v13 v20 h)
        · have h := f19 c
          refine g_iload C tb_X8_besideWithin_0_ok (i := 23) rfl rfl ?_
          refine g_iload C tb_X8_besideWithin_0_ok (i := 24) rfl rfl ?_
          refine g_ishr C tb_X8_besideWithin_0_ok (i := 25) rfl ?_
          refine g_iconstv C tb_X8_besideWithin_0_ok (i := 26) 1 rfl k_iconstv_1 ?_
          refine g_iand C tb_X8_besideWithin_0_ok (i := 27) rfl ?_
          obtain ⟨j22, ej22, h⟩ := jn_e h
          have J82 : ∀ (v21 : Int32), j22 v21 = some out → GG g x 7 Q 0 0 y M 82 [some (.ref a0), some (.int a1), some (.int a2), some (.int v21), some (.int v2), some (.int v12), some (.int v14)] [] := by
            intro v21 h; subst ej22
            obtain ⟨v23, ev23⟩ : ∃ w : Int32, w = v14 + (1 : Int32) := ⟨_, rfl⟩
            have h := lt_e ev23 h
            refine g_iincv C tb_X8_besideWithin_1_ok (i := 5) (1 : Int32) ev23 rfl rfl k_iconstv_1 rfl rfl ?_
            refine g_goto C tb_X8_besideWithin_1_ok (i := 6) 33 rfl rfl ?_
            exact g_less (L' := [some (.ref a0), some (.int a1), some (.int a2), some (.int v21), some (.int v2), some (.int v12), some (.int v23)]) ⟨rfl, ⟨rfl, ⟨rfl, ⟨rfl, ⟨rfl, ⟨rfl, ⟨rfl, trivial⟩⟩⟩⟩⟩⟩⟩ (ih16 v21 v23 h)
          obtain ⟨t24, f25⟩ := br_e h
          refine g_if_eq C tb_X8_besideWithin_0_ok (i := 28) 82 rfl rfl (fun c => ?_) (fun c => ?_)
          · have h := t24 c
            exact g_less (L' := [some (.ref a0), some (.int a1), some (.int a2), some (.int v13), some (.int v2), some (.int v12), some (.int v14)]) ⟨rfl, ⟨rfl, ⟨rfl, ⟨rfl, ⟨rfl, ⟨rfl, ⟨rfl, trivial⟩⟩⟩⟩⟩⟩⟩ (J82 v13 h)
          · have h := f25 c
            refine g_aload_n C tb_X8_besideWithin_0_ok (i := 29) rfl rfl ?_
            refine g_iload C tb_X8_besideWithin_0_ok (i := 30) rfl rfl ?_
            obtain ⟨r26, er26, h⟩ := cp_e h
            refine g_callV0 C tb_X8_besideWithin_0_ok (i := 31) [.int v14] rfl mw_X8_blueOf mv_X8_blueOf ml_X8_118 k5 rfl rfl rfl rfl (w_X8_blueOf C.G y a0 v14 M) (pm_s er26) rfl rfl rfl ?_
            refine g_aload_n C tb_X8_besideWithin_0_ok (i := 32) rfl rfl ?_
            refine g_iload C tb_X8_besideWithin_0_ok (i := 33) rfl rfl ?_
            obtain ⟨r27, er27, h⟩ := cp_e h
            refine g_callV0 C tb_X8_besideWithin_0_ok (i := 34) [.int v2] rfl mw_X8_blueOf mv_X8_blueOf ml_X8_118 k5 rfl rfl rfl rfl (w_X8_blueOf C.G y a0 v2 M) (pm_s er27) rfl rfl rfl ?_
            refine g_isub C tb_X8_besideWithin_0_ok (i := 35) rfl ?_
            refine g_abs C tb_X8_besideWithin_0_ok (i := 36) rfl mt_X8_172 rfl rfl rfl ?_
            refine g_iload_n C tb_X8_besideWithin_0_ok (i := 37) rfl rfl ?_
            obtain ⟨t28, f29⟩ := br_e h
            refine g_icmp_gt C tb_X8_besideWithin_0_ok (i := 38) 82 rfl rfl (fun c => ?_) (fun c => ?_)
            · have h := t28 c
              exact g_less (L' := [some (.ref a0), some (.int a1), some (.int a2), some (.int v13), some (.int v2), some (.int v12), some (.int v14)]) ⟨rfl, ⟨rfl, ⟨rfl, ⟨rfl, ⟨rfl, ⟨rfl, ⟨rfl, trivial⟩⟩⟩⟩⟩⟩⟩ (J82 v13 h)
            · have h := f29 c
              refine g_iload_n C tb_X8_besideWithin_0_ok (i := 39) rfl rfl ?_
              refine g_iconstv C tb_X8_besideWithin_1_ok (i := 0) 1 rfl k_iconstv_1 ?_
              refine g_iload C tb_X8_besideWithin_1_ok (i := 1) rfl rfl ?_
              refine g_ishl C tb_X8_besideWithin_1_ok (i := 2) rfl ?_
              refine g_ior C tb_X8_besideWithin_1_ok (i := 3) rfl ?_
              refine g_topi (fun v30 ev30 => ?_)
              have h := lt_e ev30 h
              refine g_istore_n C tb_X8_besideWithin_1_ok (i := 4) rfl rfl rfl ?_
              exact g_less (L' := [some (.ref a0), some (.int a1), some (.int a2), some (.int v30), some (.int v2), some (.int v12), some (.int v14)]) ⟨rfl, ⟨rfl, ⟨rfl, ⟨rfl, ⟨rfl, ⟨rfl, ⟨rfl, trivial⟩⟩⟩⟩⟩⟩⟩ (J82 v30 h)
def f_X8_patchBits (y : Lay) (a0 : Nat) (a1 : Int32) (a2 : Int32) (M : Mem) : Option Int32 := lt ((1 : Int32) <<< (a1 &&& 31)) fun (v1 : Int32) => fixN (fun _ _ => none) (fun (s4 : Int32 → Int32 → Option Int32) (v2 : Int32) (v3 : Int32) => br ((30 : Int32) ≤ v3) (some v2) (gK y a0 (0, 8) (cp (f_X8_besideWithin y a0 v2 a2 M) fun (r9 : Int32) => lt (v2 ||| r9) fun (v10 : Int32) => br (v10 = v2) (some v2) (lt (v3 + (1 : Int32)) fun (v13 : Int32) => s4 v10 v13)))) FUEL v1 (0 : Int32)
theorem w_X8_patchBits {g : GX} {l : Launch} (hG : GF g l) (y : Lay) (a0 : Nat) (a1 : Int32) (a2 : Int32) (M : Mem) : C0 g l yX8_patchBits cX8_patchBits 6 (some .int) 2 y [.ref a0, .int a1, .int a2] M (pm M (f_X8_patchBits y a0 a1 a2 M)) := by
  refine CP_of hG (by decide) [some (.ref a0), some (.int a1), some (.int a2), none, none, none] rfl rfl (fun out h x Q C R => ?_)
  unfold f_X8_patchBits at h
  refine g_iconstv C tb_X8_patchBits_0_ok (i := 0) 1 rfl k_iconstv_1 ?_
  refine g_iload_n C tb_X8_patchBits_0_ok (i := 1) rfl rfl ?_
  refine g_ishl C tb_X8_patchBits_0_ok (i := 2) rfl ?_
  refine g_topi (fun v1 ev1 => ?_)
  have h := lt_e ev1 h
  refine g_istore_n C tb_X8_patchBits_0_ok (i := 3) rfl rfl rfl ?_
  refine g_iconstv C tb_X8_patchBits_0_ok (i := 4) 0 rfl k_iconstv_0 ?_
  refine g_istore C tb_X8_patchBits_0_ok (i := 5) rfl rfl rfl ?_
  refine g_less (L' := [some (.ref a0), none, some (.int a2), some (.int v1), some (.int (0 : Int32)), none]) ⟨rfl, ⟨rfl, ⟨rfl, ⟨rfl, trivial⟩⟩⟩⟩ ?_
  refine fix_i (P := fun (f : Int32 → Int32 → Option Int32) => ∀ (v2 : Int32) (v3 : Int32), f v2 v3 = some out → GG g x 6 Q 0 0 y M 7 [some (.ref a0), none, some (.int a2), some (.int v2), some (.int v3), none] []) ?_ ?_ _ v1 (0 : Int32) h
  · intro v2 v3 h; exact (nn_e h).elim
  · intro s4 ih5 v2 v3 h
    refine g_iload C tb_X8_patchBits_0_ok (i := 6) rfl rfl ?_
    refine g_bipushv C tb_X8_patchBits_0_ok (i := 7) 30 rfl k_bipushv_30 ?_
    obtain ⟨t6, f7⟩ := br_e h
    refine g_icmp_ge C tb_X8_patchBits_0_ok (i := 8) 41 rfl rfl (fun c => ?_) (fun c => ?_)
    · have h := t6 c
      refine g_iload_n C tb_X8_patchBits_0_ok (i := 25) rfl rfl ?_
      cases h
      exact g_iret0 C R tb_X8_patchBits_0_ok (i := 26) rfl
    · have h := f7 c
      refine g_iload_n C tb_X8_patchBits_0_ok (i := 9) rfl rfl ?_
      refine g_aload_n C tb_X8_patchBits_0_ok (i := 10) rfl rfl ?_
      refine g_iload_n C tb_X8_patchBits_0_ok (i := 11) rfl rfl ?_
      refine g_iload_n C tb_X8_patchBits_0_ok (i := 12) rfl rfl ?_
      obtain ⟨k8, h⟩ := gK_e h
      obtain ⟨r9, er9, h⟩ := cp_e h
      refine g_callV0 C tb_X8_patchBits_0_ok (i := 13) [.int v2, .int a2] rfl mw_X8_besideWithin mv_X8_besideWithin ml_X8_169 k8 rfl rfl rfl rfl (w_X8_besideWithin C.G y a0 v2 a2 M) (pm_s er9) rfl rfl rfl ?_
      refine g_ior C tb_X8_patchBits_0_ok (i := 14) rfl ?_
      refine g_topi (fun v10 ev10 => ?_)
      have h := lt_e ev10 h
      refine g_istore C tb_X8_patchBits_0_ok (i := 15) rfl rfl rfl ?_
      refine g_iload C tb_X8_patchBits_0_ok (i := 16) rfl rfl ?_
      refine g_iload_n C tb_X8_patchBits_0_ok (i := 17) rfl rfl ?_
      obtain ⟨t11, f12⟩ := br_e h
      refine g_icmp_ne C tb_X8_patchBits_0_ok (i := 18) 32 rfl rfl (fun c => ?_) (fun c => ?_)
      · have h := f12 c
        refine g_iload C tb_X8_patchBits_0_ok (i := 21) rfl rfl ?_
        refine g_istore_n C tb_X8_patchBits_0_ok (i := 22) rfl rfl rfl ?_
        obtain ⟨v13, ev13⟩ : ∃ w : Int32, w = v3 + (1 : Int32) := ⟨_, rfl⟩
        have h := lt_e ev13 h
        refine g_iincv C tb_X8_patchBits_0_ok (i := 23) (1 : Int32) ev13 rfl rfl k_iconstv_1 rfl rfl ?_
        refine g_goto C tb_X8_patchBits_0_ok (i := 24) 7 rfl rfl ?_
        exact g_less (L' := [some (.ref a0), none, some (.int a2), some (.int v10), some (.int v13), none]) ⟨rfl, ⟨rfl, ⟨rfl, ⟨rfl, trivial⟩⟩⟩⟩ (ih5 v10 v13 h)
      · have h := t11 c
        refine g_iload_n C tb_X8_patchBits_0_ok (i := 19) rfl rfl ?_
        cases h
        exact g_iret0 C R tb_X8_patchBits_0_ok (i := 20) rfl
def f_X11_cell (y : Lay) (a0 : Nat) (a1 : Int32) (a2 : Int32) (M : Mem) : Option (Nat × Int32 × Mem) := gK y a0 (0, 11) (cx (f_X11_needCell y a0 a1 M) fun (r2 : Int32) (M3 : Mem) => br (a2 < (0 : Int32) ∨ (3 : Int32) < a2) (some (1, 0, M3)) (br (a2 = (0 : Int32)) (gN (y.2.1 a0 3) (gK y (y.2.1 a0 3) (0, 4) (gN (y.2.1 (y.2.1 a0 3) 0) (gK y (y.2.1 (y.2.1 a0 3) 0) (0, 8) (cp (f_X8_blueOf y (y.2.1 (y.2.1 a0 3) 0) a1 M3) fun (r10 : Int32) => some (0, r10, M3)))))) (br (a2 = (1 : Int32)) (gN (y.2.1 a0 1) (gK y (y.2.1 a0 1) (0, 1) (cp (f_X1_besideBits y (y.2.1 a0 1) a1 M3) fun (r15 : Int32) => some (0, r15, M3)))) (br (a2 = (2 : Int32)) (gN (y.2.1 a0 3) (gK y (y.2.1 a0 3) (0, 4) (gN (y.2.1 (y.2.1 a0 3) 0) (gK y (y.2.1 (y.2.1 a0 3) 0) (0, 8) (cp (f_X8_girlsAt y (y.2.1 (y.2.1 a0 3) 0) a1 M3) fun (r22 : Int32) => some (0, r22, M3)))))) (gN (y.2.1 a0 3) (gK y (y.2.1 a0 3) (0, 4) (gN (y.2.1 (y.2.1 a0 3) 0) (gK y (y.2.1 (y.2.1 a0 3) 0) (0, 8) (cp (f_X8_patchBits y (y.2.1 (y.2.1 a0 3) 0) a1 (0 : Int32) M3) fun (r29 : Int32) => some (0, r29, M3))))))))))
theorem w_X11_cell {g : GX} {l : Launch} (hG : GF g l) (y : Lay) (a0 : Nat) (a1 : Int32) (a2 : Int32) (M : Mem) : C1 g l yX11_cell cX11_cell 3 (some .int) 3 2 12 y [.ref a0, .int a1, .int a2] M (f_X11_cell y a0 a1 a2 M) := by
  refine C1_of hG (by decide) [some (.ref a0), some (.int a1), some (.int a2)] rfl rfl (fun out h x Q C R => ?_)
  unfold f_X11_cell at h
  refine g_aload_n C tb_X11_cell_0_ok (i := 0) rfl rfl ?_
  refine g_iload_n C tb_X11_cell_0_ok (i := 1) rfl rfl ?_
  obtain ⟨k1, h⟩ := gK_e h
  refine g_callV1 C tb_X11_cell_0_ok (i := 2) R [.int a1] rfl mw_X11_needCell mv_X11_needCell ml_X11_179 k1 rfl rfl rfl rfl (w_X11_needCell C.G y a0 a1 M) h rfl rfl rfl (fun r2 M3 h => ?_)
  refine g_iload_n C tb_X11_cell_0_ok (i := 3) rfl rfl ?_
  obtain ⟨t4, f5⟩ := br_e h
  by_cases hsw : a2 < (0 : Int32) ∨ (3 : Int32) < a2
  · have h := t4 hsw
    refine g_tableOut C tb_X11_cell_0_ok (i := 4) 0 3 82 rfl hsw (by decide) rfl ?_
    cases h
    exact g_throw (T2 := []) C tb_X11_cell_0_ok (i0 := 29) (i1 := 30) (i2 := 31) (i3 := 32) (e := 0) R tw_X11_176_178 rfl rfl rfl rfl rfl rfl rfl
  have h := f5 hsw
  obtain ⟨t11, f12⟩ := br_e h
  by_cases hs1000 : a2 = (0 : Int32)
  · have h := t11 hs1000
    refine g_tableIn C tb_X11_cell_0_ok (i := 4) 0 36 30 rfl hs1000 (by decide) rfl ?_
    refine g_aload_n C tb_X11_cell_0_ok (i := 5) rfl rfl ?_
    obtain ⟨n6, h⟩ := gN_e h
    refine g_getR C tb_X11_cell_0_ok (i := 6) rfl fl_X11_37 rfl k1 n6 ?_
    obtain ⟨k7, h⟩ := gK_e h
    obtain ⟨n8, h⟩ := gN_e h
    refine g_getR C tb_X11_cell_0_ok (i := 7) rfl fl_X11_53 rfl k7 n8 ?_
    refine g_iload_n C tb_X11_cell_0_ok (i := 8) rfl rfl ?_
    obtain ⟨k9, h⟩ := gK_e h
    obtain ⟨r10, er10, h⟩ := cp_e h
    refine g_callV0 C tb_X11_cell_0_ok (i := 9) [.int a1] rfl mw_X8_blueOf mv_X8_blueOf ml_X11_182 k9 rfl rfl rfl rfl (w_X8_blueOf C.G y (y.2.1 (y.2.1 a0 3) 0) a1 M3) (pm_s er10) rfl rfl rfl ?_
    cases h
    exact g_iret1 C R rfl rfl tb_X11_cell_0_ok (i := 10) rfl
  have h := f12 hs1000
  obtain ⟨t16, f17⟩ := br_e h
  by_cases hs1001 : a2 = (1 : Int32)
  · have h := t16 hs1001
    refine g_tableIn C tb_X11_cell_0_ok (i := 4) 1 48 42 rfl hs1001 (by decide) rfl ?_
    refine g_aload_n C tb_X11_cell_0_ok (i := 11) rfl rfl ?_
    obtain ⟨n13, h⟩ := gN_e h
    refine g_getR C tb_X11_cell_0_ok (i := 12) rfl fl_X11_19 rfl k1 n13 ?_
    refine g_iload_n C tb_X11_cell_0_ok (i := 13) rfl rfl ?_
    obtain ⟨k14, h⟩ := gK_e h
    obtain ⟨r15, er15, h⟩ := cp_e h
    refine g_callV0 C tb_X11_cell_0_ok (i := 14) [.int a1] rfl mw_X1_besideBits mv_X1_besideBits ml_X11_185 k14 rfl rfl rfl rfl (w_X1_besideBits C.G y (y.2.1 a0 1) a1 M3) (pm_s er15) rfl rfl rfl ?_
    cases h
    exact g_iret1 C R rfl rfl tb_X11_cell_0_ok (i := 15) rfl
  have h := f17 hs1001
  obtain ⟨t23, f24⟩ := br_e h
  by_cases hs1002 : a2 = (2 : Int32)
  · have h := t23 hs1002
    refine g_tableIn C tb_X11_cell_0_ok (i := 4) 2 57 51 rfl hs1002 (by decide) rfl ?_
    refine g_aload_n C tb_X11_cell_0_ok (i := 16) rfl rfl ?_
    obtain ⟨n18, h⟩ := gN_e h
    refine g_getR C tb_X11_cell_0_ok (i := 17) rfl fl_X11_37 rfl k1 n18 ?_
    obtain ⟨k19, h⟩ := gK_e h
    obtain ⟨n20, h⟩ := gN_e h
    refine g_getR C tb_X11_cell_0_ok (i := 18) rfl fl_X11_53 rfl k19 n20 ?_
    refine g_iload_n C tb_X11_cell_0_ok (i := 19) rfl rfl ?_
    obtain ⟨k21, h⟩ := gK_e h
    obtain ⟨r22, er22, h⟩ := cp_e h
    refine g_callV0 C tb_X11_cell_0_ok (i := 20) [.int a1] rfl mw_X8_girlsAt mv_X8_girlsAt ml_X11_188 k21 rfl rfl rfl rfl (w_X8_girlsAt C.G y (y.2.1 (y.2.1 a0 3) 0) a1 M3) (pm_s er22) rfl rfl rfl ?_
    cases h
    exact g_iret1 C R rfl rfl tb_X11_cell_0_ok (i := 21) rfl
  have h := f24 hs1002
  have hlast : a2 = (3 : Int32) := i32_sw (l := [(0 : Int32), (1 : Int32), (2 : Int32)]) (n := 3) hsw (by decide +kernel) (i32_ne [(0 : Int32), (1 : Int32), (2 : Int32)] rfl (by intro c hc; simp only [List.mem_cons, List.not_mem_nil, or_false] at hc; rcases hc with rfl | rfl | rfl <;> assumption))
  refine g_tableIn C tb_X11_cell_0_ok (i := 4) 3 69 63 rfl hlast (by decide) rfl ?_
  refine g_aload_n C tb_X11_cell_0_ok (i := 22) rfl rfl ?_
  obtain ⟨n25, h⟩ := gN_e h
  refine g_getR C tb_X11_cell_0_ok (i := 23) rfl fl_X11_37 rfl k1 n25 ?_
  obtain ⟨k26, h⟩ := gK_e h
  obtain ⟨n27, h⟩ := gN_e h
  refine g_getR C tb_X11_cell_0_ok (i := 24) rfl fl_X11_53 rfl k26 n27 ?_
  refine g_iload_n C tb_X11_cell_0_ok (i := 25) rfl rfl ?_
  refine g_iconstv C tb_X11_cell_0_ok (i := 26) 0 rfl k_iconstv_0 ?_
  obtain ⟨k28, h⟩ := gK_e h
  obtain ⟨r29, er29, h⟩ := cp_e h
  refine g_callV0 C tb_X11_cell_0_ok (i := 27) [.int a1, .int (0 : Int32)] rfl mw_X8_patchBits mv_X8_patchBits ml_X11_191 k28 rfl rfl rfl rfl (w_X8_patchBits C.G y (y.2.1 (y.2.1 a0 3) 0) a1 (0 : Int32) M3) (pm_s er29) rfl rfl rfl ?_
  cases h
  exact g_iret1 C R rfl rfl tb_X11_cell_0_ok (i := 28) rfl
def f_X11_needGirl (y : Lay) (a0 : Nat) (a1 : Int32) (M : Mem) : Option (Nat × Int32 × Mem) := jn (fun (_u : Unit) => some (1, 0, M)) fun j1 => br (a1 < 0) (j1 ()) (gK y a0 (0, 11) (gN (y.2.1 a0 1) (gK y (y.2.1 a0 1) (0, 1) (br (a1 < (M.1 (y.2.1 a0 1) 4)) (some (0, 0, M)) (j1 ())))))
theorem w_X11_needGirl {g : GX} {l : Launch} (hG : GF g l) (y : Lay) (a0 : Nat) (a1 : Int32) (M : Mem) : C1 g l yX11_needGirl cX11_needGirl 2 none 0 1 6 y [.ref a0, .int a1] M (f_X11_needGirl y a0 a1 M) := by
  refine C1_of hG (by decide) [some (.ref a0), some (.int a1)] rfl rfl (fun out h x Q C R => ?_)
  unfold f_X11_needGirl at h
  refine g_iload_n C tb_X11_needGirl_0_ok (i := 0) rfl rfl ?_
  obtain ⟨j1, ej1, h⟩ := jn_e h
  have J15 : ∀ (_u : Unit), j1 _u = some out → GG g x 2 Q 0 0 y M 15 [none, none] [] := by
    intro _u h; subst ej1
    cases h
    exact g_throw (T2 := []) C tb_X11_needGirl_0_ok (i0 := 7) (i1 := 8) (i2 := 9) (i3 := 10) (e := 0) R tw_X11_176_178 rfl rfl rfl rfl rfl rfl rfl
  obtain ⟨t2, f3⟩ := br_e h
  refine g_if_lt C tb_X11_needGirl_0_ok (i := 1) 15 rfl rfl (fun c => ?_) (fun c => ?_)
  · have h := t2 c
    exact g_less (L' := [none, none]) trivial (J15 () h)
  · have h := f3 c
    refine g_iload_n C tb_X11_needGirl_0_ok (i := 2) rfl rfl ?_
    refine g_aload_n C tb_X11_needGirl_0_ok (i := 3) rfl rfl ?_
    obtain ⟨k4, h⟩ := gK_e h
    obtain ⟨n5, h⟩ := gN_e h
    refine g_getR C tb_X11_needGirl_0_ok (i := 4) rfl fl_X11_19 rfl k4 n5 ?_
    obtain ⟨k6, h⟩ := gK_e h
    refine g_getI C tb_X11_needGirl_0_ok (i := 5) rfl fl_X11_134 rfl k6 ?_
    obtain ⟨t7, f8⟩ := br_e h
    refine g_icmp_lt C tb_X11_needGirl_0_ok (i := 6) 23 rfl rfl (fun c => ?_) (fun c => ?_)
    · have h := t7 c
      cases h
      exact g_vret1 C R rfl rfl tb_X11_needGirl_0_ok (i := 11) rfl
    · have h := f8 c
      exact g_less (L' := [none, none]) trivial (J15 () h)
def f_X11_girl (y : Lay) (a0 : Nat) (a1 : Int32) (a2 : Int32) (M : Mem) : Option (Nat × Int32 × Mem) := gK y a0 (0, 11) (cx (f_X11_needGirl y a0 a1 M) fun (r2 : Int32) (M3 : Mem) => br (a2 < (0 : Int32) ∨ (3 : Int32) < a2) (some (1, 0, M3)) (br (a2 = (0 : Int32)) (gN (y.2.1 a0 3) (gK y (y.2.1 a0 3) (0, 4) (gN (y.2.1 (y.2.1 a0 3) 0) (gK y (y.2.1 (y.2.1 a0 3) 0) (0, 8) (cp (f_X8_skillOf y (y.2.1 (y.2.1 a0 3) 0) a1 M3) fun (r10 : Int32) => some (0, r10, M3)))))) (br (a2 = (1 : Int32)) (gN (y.2.1 a0 3) (gK y (y.2.1 a0 3) (0, 4) (gN (y.2.1 (y.2.1 a0 3) 0) (gK y (y.2.1 (y.2.1 a0 3) 0) (0, 8) (cp (f_X8_spotOf y (y.2.1 (y.2.1 a0 3) 0) a1 M3) fun (r17 : Int32) => some (0, r17, M3)))))) (br (a2 = (2 : Int32)) (gN (y.2.1 a0 1) (gK y (y.2.1 a0 1) (0, 1) (cp (f_X1_isOld y (y.2.1 a0 1) a1 M3) fun (r22 : Int32) => jn (fun (v23 : Int32) => some (0, v23, M3)) fun j24 => br (r22 = 0) (j24 (0 : Int32)) (j24 (1 : Int32))))) (gN (y.2.1 a0 3) (gK y (y.2.1 a0 3) (0, 4) (gN (y.2.1 (y.2.1 a0 3) 0) (gK y (y.2.1 (y.2.1 a0 3) 0) (0, 8) (c0 (f_X8_dyeOf y (y.2.1 (y.2.1 a0 3) 0) a1 (jmax (0 : Int32) ((M3.1 (y.2.1 (y.2.1 a0 3) 0) 9) - (1 : Int32))) M3) fun (r33 : Int32) (M34 : Mem) => some (0, r33, M34))))))))))
theorem w_X11_girl {g : GX} {l : Launch} (hG : GF g l) (y : Lay) (a0 : Nat) (a1 : Int32) (a2 : Int32) (M : Mem) : C1 g l yX11_girl cX11_girl 3 (some .int) 3 2 12 y [.ref a0, .int a1, .int a2] M (f_X11_girl y a0 a1 a2 M) := by
  refine C1_of hG (by decide) [some (.ref a0), some (.int a1), some (.int a2)] rfl rfl (fun out h x Q C R => ?_)
  unfold f_X11_girl at h
  refine g_aload_n C tb_X11_girl_0_ok (i := 0) rfl rfl ?_
  refine g_iload_n C tb_X11_girl_0_ok (i := 1) rfl rfl ?_
  obtain ⟨k1, h⟩ := gK_e h
  refine g_callV1 C tb_X11_girl_0_ok (i := 2) R [.int a1] rfl mw_X11_needGirl mv_X11_needGirl ml_X11_195 k1 rfl rfl rfl rfl (w_X11_needGirl C.G y a0 a1 M) h rfl rfl rfl (fun r2 M3 h => ?_)
  refine g_iload_n C tb_X11_girl_0_ok (i := 3) rfl rfl ?_
  obtain ⟨t4, f5⟩ := br_e h
  by_cases hsw : a2 < (0 : Int32) ∨ (3 : Int32) < a2
  · have h := t4 hsw
    refine g_tableOut C tb_X11_girl_0_ok (i := 4) 0 3 105 rfl hsw (by decide) rfl ?_
    cases h
    exact g_throw (T2 := []) C tb_X11_girl_1_ok (i0 := 0) (i1 := 1) (i2 := 2) (i3 := 3) (e := 0) R tw_X11_176_178 rfl rfl rfl rfl rfl rfl rfl
  have h := f5 hsw
  obtain ⟨t11, f12⟩ := br_e h
  by_cases hs1000 : a2 = (0 : Int32)
  · have h := t11 hs1000
    refine g_tableIn C tb_X11_girl_0_ok (i := 4) 0 36 30 rfl hs1000 (by decide) rfl ?_
    refine g_aload_n C tb_X11_girl_0_ok (i := 5) rfl rfl ?_
    obtain ⟨n6, h⟩ := gN_e h
    refine g_getR C tb_X11_girl_0_ok (i := 6) rfl fl_X11_37 rfl k1 n6 ?_
    obtain ⟨k7, h⟩ := gK_e h
    obtain ⟨n8, h⟩ := gN_e h
    refine g_getR C tb_X11_girl_0_ok (i := 7) rfl fl_X11_53 rfl k7 n8 ?_
    refine g_iload_n C tb_X11_girl_0_ok (i := 8) rfl rfl ?_
    obtain ⟨k9, h⟩ := gK_e h
    obtain ⟨r10, er10, h⟩ := cp_e h
    refine g_callV0 C tb_X11_girl_0_ok (i := 9) [.int a1] rfl mw_X8_skillOf mv_X8_skillOf ml_X11_198 k9 rfl rfl rfl rfl (w_X8_skillOf C.G y (y.2.1 (y.2.1 a0 3) 0) a1 M3) (pm_s er10) rfl rfl rfl ?_
    cases h
    exact g_iret1 C R rfl rfl tb_X11_girl_0_ok (i := 10) rfl
  have h := f12 hs1000
  obtain ⟨t18, f19⟩ := br_e h
  by_cases hs1001 : a2 = (1 : Int32)
  · have h := t18 hs1001
    refine g_tableIn C tb_X11_girl_0_ok (i := 4) 1 48 42 rfl hs1001 (by decide) rfl ?_
    refine g_aload_n C tb_X11_girl_0_ok (i := 11) rfl rfl ?_
    obtain ⟨n13, h⟩ := gN_e h
    refine g_getR C tb_X11_girl_0_ok (i := 12) rfl fl_X11_37 rfl k1 n13 ?_
    obtain ⟨k14, h⟩ := gK_e h
    obtain ⟨n15, h⟩ := gN_e h
    refine g_getR C tb_X11_girl_0_ok (i := 13) rfl fl_X11_53 rfl k14 n15 ?_
    refine g_iload_n C tb_X11_girl_0_ok (i := 14) rfl rfl ?_
    obtain ⟨k16, h⟩ := gK_e h
    obtain ⟨r17, er17, h⟩ := cp_e h
    refine g_callV0 C tb_X11_girl_0_ok (i := 15) [.int a1] rfl mw_X8_spotOf mv_X8_spotOf ml_X11_201 k16 rfl rfl rfl rfl (w_X8_spotOf C.G y (y.2.1 (y.2.1 a0 3) 0) a1 M3) (pm_s er17) rfl rfl rfl ?_
    cases h
    exact g_iret1 C R rfl rfl tb_X11_girl_0_ok (i := 16) rfl
  have h := f19 hs1001
  obtain ⟨t27, f28⟩ := br_e h
  by_cases hs1002 : a2 = (2 : Int32)
  · have h := t27 hs1002
    refine g_tableIn C tb_X11_girl_0_ok (i := 4) 2 60 54 rfl hs1002 (by decide) rfl ?_
    refine g_aload_n C tb_X11_girl_0_ok (i := 17) rfl rfl ?_
    obtain ⟨n20, h⟩ := gN_e h
    refine g_getR C tb_X11_girl_0_ok (i := 18) rfl fl_X11_19 rfl k1 n20 ?_
    refine g_iload_n C tb_X11_girl_0_ok (i := 19) rfl rfl ?_
    obtain ⟨k21, h⟩ := gK_e h
    obtain ⟨r22, er22, h⟩ := cp_e h
    refine g_callV0 C tb_X11_girl_0_ok (i := 20) [.int a1] rfl mw_X1_isOld mv_X1_isOld ml_X11_204 k21 rfl rfl rfl rfl (w_X1_isOld C.G y (y.2.1 a0 1) a1 M3) (pm_s er22) rfl rfl rfl ?_
    obtain ⟨j24, ej24, h⟩ := jn_e h
    have J76 : ∀ (v23 : Int32), j24 v23 = some out → GG g x 3 Q 1 6 y M3 76 [none, none, none] [.int v23] := by
      intro v23 h; subst ej24
      cases h
      exact g_iret1 C R rfl rfl tb_X11_girl_0_ok (i := 25) rfl
    obtain ⟨t25, f26⟩ := br_e h
    refine g_if_eq C tb_X11_girl_0_ok (i := 21) 75 rfl rfl (fun c => ?_) (fun c => ?_)
    · have h := t25 c
      refine g_iconstv C tb_X11_girl_0_ok (i := 24) 0 rfl k_iconstv_0 ?_
      exact g_less (L' := [none, none, none]) trivial (J76 (0 : Int32) h)
    · have h := f26 c
      refine g_iconstv C tb_X11_girl_0_ok (i := 22) 1 rfl k_iconstv_1 ?_
      refine g_goto C tb_X11_girl_0_ok (i := 23) 76 rfl rfl ?_
      exact g_less (L' := [none, none, none]) trivial (J76 (1 : Int32) h)
  have h := f28 hs1002
  have hlast : a2 = (3 : Int32) := i32_sw (l := [(0 : Int32), (1 : Int32), (2 : Int32)]) (n := 3) hsw (by decide +kernel) (i32_ne [(0 : Int32), (1 : Int32), (2 : Int32)] rfl (by intro c hc; simp only [List.mem_cons, List.not_mem_nil, or_false] at hc; rcases hc with rfl | rfl | rfl <;> assumption))
  refine g_tableIn C tb_X11_girl_0_ok (i := 4) 3 77 71 rfl hlast (by decide) rfl ?_
  refine g_aload_n C tb_X11_girl_0_ok (i := 26) rfl rfl ?_
  obtain ⟨n29, h⟩ := gN_e h
  refine g_getR C tb_X11_girl_0_ok (i := 27) rfl fl_X11_37 rfl k1 n29 ?_
  obtain ⟨k30, h⟩ := gK_e h
  obtain ⟨n31, h⟩ := gN_e h
  refine g_getR C tb_X11_girl_0_ok (i := 28) rfl fl_X11_53 rfl k30 n31 ?_
  refine g_iload_n C tb_X11_girl_0_ok (i := 29) rfl rfl ?_
  refine g_iconstv C tb_X11_girl_0_ok (i := 30) 0 rfl k_iconstv_0 ?_
  refine g_aload_n C tb_X11_girl_0_ok (i := 31) rfl rfl ?_
  refine g_getR C tb_X11_girl_0_ok (i := 32) rfl fl_X11_37 rfl k1 n29 ?_
  refine g_getR C tb_X11_girl_0_ok (i := 33) rfl fl_X11_53 rfl k30 n31 ?_
  obtain ⟨k32, h⟩ := gK_e h
  refine g_getI C tb_X11_girl_0_ok (i := 34) rfl fl_X11_140 rfl k32 ?_
  refine g_iconstv C tb_X11_girl_0_ok (i := 35) 1 rfl k_iconstv_1 ?_
  refine g_isub C tb_X11_girl_0_ok (i := 36) rfl ?_
  refine g_max C tb_X11_girl_0_ok (i := 37) rfl mt_X11_207 rfl rfl rfl ?_
  obtain ⟨r33, M34, er33, h⟩ := c0_e h
  refine g_callV0 C tb_X11_girl_0_ok (i := 38) [.int a1, .int (jmax (0 : Int32) ((M3.1 (y.2.1 (y.2.1 a0 3) 0) 9) - (1 : Int32)))] rfl mw_X8_dyeOf mv_X8_dyeOf ml_X11_212 k32 rfl rfl rfl rfl (w_X8_dyeOf C.G y (y.2.1 (y.2.1 a0 3) 0) a1 (jmax (0 : Int32) ((M3.1 (y.2.1 (y.2.1 a0 3) 0) 9) - (1 : Int32))) M3) er33 rfl rfl rfl ?_
  cases h
  exact g_iret1 C R rfl rfl tb_X11_girl_0_ok (i := 39) rfl
def f_X11_rest (y : Lay) (a0 : Nat) (a1 : Int32) (a2 : Int32) (M : Mem) : Option (Nat × Int32 × Mem) := gK y a0 (0, 11) (cx (f_X11_needGirl y a0 a1 M) fun (r2 : Int32) (M3 : Mem) => gN (y.2.1 a0 3) (gK y (y.2.1 a0 3) (0, 4) (gN (y.2.1 (y.2.1 a0 3) 0) (gK y (y.2.1 (y.2.1 a0 3) 0) (0, 8) (cp (f_X8_isResting y (y.2.1 (y.2.1 a0 3) 0) a1 M3) fun (r8 : Int32) => br (r8 = a2) (c0 (f_X4_refuse y (y.2.1 a0 3) (1 : Int32) M3) fun (r15 : Int32) (M16 : Mem) => some (0, (0 : Int32), M16)) (c0 (f_X4_keepAct y (y.2.1 a0 3) M3) fun (r11 : Int32) (M12 : Mem) => c0 (f_X8_setResting y (y.2.1 (y.2.1 a0 3) 0) a1 a2 M12) fun (r13 : Int32) (M14 : Mem) => some (0, (1 : Int32), M14)))))))
theorem w_X11_rest {g : GX} {l : Launch} (hG : GF g l) (y : Lay) (a0 : Nat) (a1 : Int32) (a2 : Int32) (M : Mem) : C1 g l yX11_rest cX11_rest 3 (some .boolean) 3 1 6 y [.ref a0, .int a1, .int a2] M (f_X11_rest y a0 a1 a2 M) := by
  refine C1_of hG (by decide) [some (.ref a0), some (.int a1), some (.int a2)] rfl rfl (fun out h x Q C R => ?_)
  unfold f_X11_rest at h
  refine g_aload_n C tb_X11_rest_0_ok (i := 0) rfl rfl ?_
  refine g_iload_n C tb_X11_rest_0_ok (i := 1) rfl rfl ?_
  obtain ⟨k1, h⟩ := gK_e h
  refine g_callV1 C tb_X11_rest_0_ok (i := 2) R [.int a1] rfl mw_X11_needGirl mv_X11_needGirl ml_X11_195 k1 rfl rfl rfl rfl (w_X11_needGirl C.G y a0 a1 M) h rfl rfl rfl (fun r2 M3 h => ?_)
  refine g_aload_n C tb_X11_rest_0_ok (i := 3) rfl rfl ?_
  obtain ⟨n4, h⟩ := gN_e h
  refine g_getR C tb_X11_rest_0_ok (i := 4) rfl fl_X11_37 rfl k1 n4 ?_
  obtain ⟨k5, h⟩ := gK_e h
  obtain ⟨n6, h⟩ := gN_e h
  refine g_getR C tb_X11_rest_0_ok (i := 5) rfl fl_X11_53 rfl k5 n6 ?_
  refine g_iload_n C tb_X11_rest_0_ok (i := 6) rfl rfl ?_
  obtain ⟨k7, h⟩ := gK_e h
  obtain ⟨r8, er8, h⟩ := cp_e h
  refine g_callV0 C tb_X11_rest_0_ok (i := 7) [.int a1] rfl mw_X8_isResting mv_X8_isResting ml_X11_224 k7 rfl rfl rfl rfl (w_X8_isResting C.G y (y.2.1 (y.2.1 a0 3) 0) a1 M3) (pm_s er8) rfl rfl rfl ?_
  refine g_iload_n C tb_X11_rest_0_ok (i := 8) rfl rfl ?_
  obtain ⟨t9, f10⟩ := br_e h
  refine g_icmp_ne C tb_X11_rest_0_ok (i := 9) 30 rfl rfl (fun c => ?_) (fun c => ?_)
  · have h := f10 c
    refine g_aload_n C tb_X11_rest_0_ok (i := 16) rfl rfl ?_
    refine g_getR C tb_X11_rest_0_ok (i := 17) rfl fl_X11_37 rfl k1 n4 ?_
    obtain ⟨r11, M12, er11, h⟩ := c0_e h
    refine g_callV0 C tb_X11_rest_0_ok (i := 18) [] rfl mw_X4_keepAct mv_X4_keepAct ml_X11_218 k5 rfl rfl rfl rfl (w_X4_keepAct C.G y (y.2.1 a0 3) M3) er11 rfl rfl rfl ?_
    refine g_aload_n C tb_X11_rest_0_ok (i := 19) rfl rfl ?_
    refine g_getR C tb_X11_rest_0_ok (i := 20) rfl fl_X11_37 rfl k1 n4 ?_
    refine g_getR C tb_X11_rest_0_ok (i := 21) rfl fl_X11_53 rfl k5 n6 ?_
    refine g_iload_n C tb_X11_rest_0_ok (i := 22) rfl rfl ?_
    refine g_iload_n C tb_X11_rest_0_ok (i := 23) rfl rfl ?_
    obtain ⟨r13, M14, er13, h⟩ := c0_e h
    refine g_callV0 C tb_X11_rest_0_ok (i := 24) [.int a1, .int a2] rfl mw_X8_setResting mv_X8_setResting ml_X11_227 k7 rfl rfl rfl rfl (w_X8_setResting C.G y (y.2.1 (y.2.1 a0 3) 0) a1 a2 M12) er13 rfl rfl rfl ?_
    refine g_iconstv C tb_X11_rest_0_ok (i := 25) 1 rfl k_iconstv_1 ?_
    cases h
    exact g_zret1 C R (by decide) rfl rfl tb_X11_rest_0_ok (i := 26) rfl
  · have h := t9 c
    refine g_aload_n C tb_X11_rest_0_ok (i := 10) rfl rfl ?_
    refine g_getR C tb_X11_rest_0_ok (i := 11) rfl fl_X11_37 rfl k1 n4 ?_
    refine g_iconstv C tb_X11_rest_0_ok (i := 12) 1 rfl k_iconstv_1 ?_
    obtain ⟨r15, M16, er15, h⟩ := c0_e h
    refine g_callV0 C tb_X11_rest_0_ok (i := 13) [.int (1 : Int32)] rfl mw_X4_refuse mv_X4_refuse ml_X11_109 k5 rfl rfl rfl rfl (w_X4_refuse C.G y (y.2.1 a0 3) (1 : Int32) M3) er15 rfl rfl rfl ?_
    refine g_iconstv C tb_X11_rest_0_ok (i := 14) 0 rfl k_iconstv_0 ?_
    cases h
    exact g_zret1 C R (by decide) rfl rfl tb_X11_rest_0_ok (i := 15) rfl
def f_X11_go (y : Lay) (a0 : Nat) (a1 : Int32) (a2 : Int32) (M : Mem) : Option (Nat × Int32 × Mem) := gK y a0 (0, 11) (cx (f_X11_needGirl y a0 a1 M) fun (r2 : Int32) (M3 : Mem) => cx (f_X11_needCell y a0 a2 M3) fun (r4 : Int32) (M5 : Mem) => gN (y.2.1 a0 3) (gK y (y.2.1 a0 3) (0, 4) (gN (y.2.1 (y.2.1 a0 3) 0) (gK y (y.2.1 (y.2.1 a0 3) 0) (0, 8) (cp (f_X8_spotOf y (y.2.1 (y.2.1 a0 3) 0) a1 M5) fun (r10 : Int32) => br (r10 = a2) (c0 (f_X11_refuseAct y a0 M5) fun (r17 : Int32) (M18 : Mem) => some (0, r17, M18)) (c0 (f_X4_keepAct y (y.2.1 a0 3) M5) fun (r13 : Int32) (M14 : Mem) => c0 (f_X8_setSpot y (y.2.1 (y.2.1 a0 3) 0) a1 a2 M14) fun (r15 : Int32) (M16 : Mem) => some (0, r10, M16)))))))
theorem w_X11_go {g : GX} {l : Launch} (hG : GF g l) (y : Lay) (a0 : Nat) (a1 : Int32) (a2 : Int32) (M : Mem) : C1 g l yX11_go cX11_go 4 (some .int) 3 2 12 y [.ref a0, .int a1, .int a2] M (f_X11_go y a0 a1 a2 M) := by
  refine C1_of hG (by decide) [some (.ref a0), some (.int a1), some (.int a2), none] rfl rfl (fun out h x Q C R => ?_)
  unfold f_X11_go at h
  refine g_aload_n C tb_X11_go_0_ok (i := 0) rfl rfl ?_
  refine g_iload_n C tb_X11_go_0_ok (i := 1) rfl rfl ?_
  obtain ⟨k1, h⟩ := gK_e h
  refine g_callV1 C tb_X11_go_0_ok (i := 2) R [.int a1] rfl mw_X11_needGirl mv_X11_needGirl ml_X11_195 k1 rfl rfl rfl rfl (w_X11_needGirl C.G y a0 a1 M) h rfl rfl rfl (fun r2 M3 h => ?_)
  refine g_aload_n C tb_X11_go_0_ok (i := 3) rfl rfl ?_
  refine g_iload_n C tb_X11_go_0_ok (i := 4) rfl rfl ?_
  refine g_callV1 C tb_X11_go_0_ok (i := 5) R [.int a2] rfl mw_X11_needCell mv_X11_needCell ml_X11_179 k1 rfl rfl rfl rfl (w_X11_needCell C.G y a0 a2 M3) h rfl rfl rfl (fun r4 M5 h => ?_)
  refine g_aload_n C tb_X11_go_0_ok (i := 6) rfl rfl ?_
  obtain ⟨n6, h⟩ := gN_e h
  refine g_getR C tb_X11_go_0_ok (i := 7) rfl fl_X11_37 rfl k1 n6 ?_
  obtain ⟨k7, h⟩ := gK_e h
  obtain ⟨n8, h⟩ := gN_e h
  refine g_getR C tb_X11_go_0_ok (i := 8) rfl fl_X11_53 rfl k7 n8 ?_
  refine g_iload_n C tb_X11_go_0_ok (i := 9) rfl rfl ?_
  obtain ⟨k9, h⟩ := gK_e h
  obtain ⟨r10, er10, h⟩ := cp_e h
  refine g_callV0 C tb_X11_go_0_ok (i := 10) [.int a1] rfl mw_X8_spotOf mv_X8_spotOf ml_X11_201 k9 rfl rfl rfl rfl (w_X8_spotOf C.G y (y.2.1 (y.2.1 a0 3) 0) a1 M5) (pm_s er10) rfl rfl rfl ?_
  refine g_istore_n C tb_X11_go_0_ok (i := 11) rfl rfl rfl ?_
  refine g_iload_n C tb_X11_go_0_ok (i := 12) rfl rfl ?_
  refine g_iload_n C tb_X11_go_0_ok (i := 13) rfl rfl ?_
  obtain ⟨t11, f12⟩ := br_e h
  refine g_icmp_ne C tb_X11_go_0_ok (i := 14) 32 rfl rfl (fun c => ?_) (fun c => ?_)
  · have h := f12 c
    refine g_aload_n C tb_X11_go_0_ok (i := 18) rfl rfl ?_
    refine g_getR C tb_X11_go_0_ok (i := 19) rfl fl_X11_37 rfl k1 n6 ?_
    obtain ⟨r13, M14, er13, h⟩ := c0_e h
    refine g_callV0 C tb_X11_go_0_ok (i := 20) [] rfl mw_X4_keepAct mv_X4_keepAct ml_X11_218 k7 rfl rfl rfl rfl (w_X4_keepAct C.G y (y.2.1 a0 3) M5) er13 rfl rfl rfl ?_
    refine g_aload_n C tb_X11_go_0_ok (i := 21) rfl rfl ?_
    refine g_getR C tb_X11_go_0_ok (i := 22) rfl fl_X11_37 rfl k1 n6 ?_
    refine g_getR C tb_X11_go_0_ok (i := 23) rfl fl_X11_53 rfl k7 n8 ?_
    refine g_iload_n C tb_X11_go_0_ok (i := 24) rfl rfl ?_
    refine g_iload_n C tb_X11_go_0_ok (i := 25) rfl rfl ?_
    obtain ⟨r15, M16, er15, h⟩ := c0_e h
    refine g_callV0 C tb_X11_go_0_ok (i := 26) [.int a1, .int a2] rfl mw_X8_setSpot mv_X8_setSpot ml_X11_231 k9 rfl rfl rfl rfl (w_X8_setSpot C.G y (y.2.1 (y.2.1 a0 3) 0) a1 a2 M14) er15 rfl rfl rfl ?_
    refine g_iload_n C tb_X11_go_0_ok (i := 27) rfl rfl ?_
    cases h
    exact g_iret1 C R rfl rfl tb_X11_go_0_ok (i := 28) rfl
  · have h := t11 c
    refine g_aload_n C tb_X11_go_0_ok (i := 15) rfl rfl ?_
    obtain ⟨r17, M18, er17, h⟩ := c0_e h
    refine g_callV0 C tb_X11_go_0_ok (i := 16) [] rfl mw_X11_refuseAct mv_X11_refuseAct ml_X11_215 k1 rfl rfl rfl rfl (w_X11_refuseAct C.G y a0 M5) er17 rfl rfl rfl ?_
    cases h
    exact g_iret1 C R rfl rfl tb_X11_go_0_ok (i := 17) rfl
def f_X11_peg (y : Lay) (a0 : Nat) (a1 : Int32) (a2 : Int32) (M : Mem) : Option (Nat × Int32 × Mem) := gK y a0 (0, 11) (cx (f_X11_needCell y a0 a1 M) fun (r2 : Int32) (M3 : Mem) => gN (y.2.1 a0 3) (gK y (y.2.1 a0 3) (0, 4) (gN (y.2.1 (y.2.1 a0 3) 0) (gK y (y.2.1 (y.2.1 a0 3) 0) (0, 8) (cp (f_X8_isPegged y (y.2.1 (y.2.1 a0 3) 0) a1 M3) fun (r8 : Int32) => br (r8 = a2) (c0 (f_X11_refuseAct y a0 M3) fun (r16 : Int32) (M17 : Mem) => some (0, r16, M17)) (c0 (f_X4_keepAct y (y.2.1 a0 3) M3) fun (r11 : Int32) (M12 : Mem) => cp (f_X8_blueOf y (y.2.1 (y.2.1 a0 3) 0) a1 M12) fun (r13 : Int32) => c0 (f_X8_setPeg y (y.2.1 (y.2.1 a0 3) 0) a1 a2 M12) fun (r14 : Int32) (M15 : Mem) => some (0, r13, M15)))))))
theorem w_X11_peg {g : GX} {l : Launch} (hG : GF g l) (y : Lay) (a0 : Nat) (a1 : Int32) (a2 : Int32) (M : Mem) : C1 g l yX11_peg cX11_peg 4 (some .int) 3 1 6 y [.ref a0, .int a1, .int a2] M (f_X11_peg y a0 a1 a2 M) := by
  refine C1_of hG (by decide) [some (.ref a0), some (.int a1), some (.int a2), none] rfl rfl (fun out h x Q C R => ?_)
  unfold f_X11_peg at h
  refine g_aload_n C tb_X11_peg_0_ok (i := 0) rfl rfl ?_
  refine g_iload_n C tb_X11_peg_0_ok (i := 1) rfl rfl ?_
  obtain ⟨k1, h⟩ := gK_e h
  refine g_callV1 C tb_X11_peg_0_ok (i := 2) R [.int a1] rfl mw_X11_needCell mv_X11_needCell ml_X11_179 k1 rfl rfl rfl rfl (w_X11_needCell C.G y a0 a1 M) h rfl rfl rfl (fun r2 M3 h => ?_)
  refine g_aload_n C tb_X11_peg_0_ok (i := 3) rfl rfl ?_
  obtain ⟨n4, h⟩ := gN_e h
  refine g_getR C tb_X11_peg_0_ok (i := 4) rfl fl_X11_37 rfl k1 n4 ?_
  obtain ⟨k5, h⟩ := gK_e h
  obtain ⟨n6, h⟩ := gN_e h
  refine g_getR C tb_X11_peg_0_ok (i := 5) rfl fl_X11_53 rfl k5 n6 ?_
  refine g_iload_n C tb_X11_peg_0_ok (i := 6) rfl rfl ?_
  obtain ⟨k7, h⟩ := gK_e h
  obtain ⟨r8, er8, h⟩ := cp_e h
  refine g_callV0 C tb_X11_peg_0_ok (i := 7) [.int a1] rfl mw_X8_isPegged mv_X8_isPegged ml_X11_238 k7 rfl rfl rfl rfl (w_X8_isPegged C.G y (y.2.1 (y.2.1 a0 3) 0) a1 M3) (pm_s er8) rfl rfl rfl ?_
  refine g_iload_n C tb_X11_peg_0_ok (i := 8) rfl rfl ?_
  obtain ⟨t9, f10⟩ := br_e h
  refine g_icmp_ne C tb_X11_peg_0_ok (i := 9) 25 rfl rfl (fun c => ?_) (fun c => ?_)
  · have h := f10 c
    refine g_aload_n C tb_X11_peg_0_ok (i := 13) rfl rfl ?_
    refine g_getR C tb_X11_peg_0_ok (i := 14) rfl fl_X11_37 rfl k1 n4 ?_
    obtain ⟨r11, M12, er11, h⟩ := c0_e h
    refine g_callV0 C tb_X11_peg_0_ok (i := 15) [] rfl mw_X4_keepAct mv_X4_keepAct ml_X11_218 k5 rfl rfl rfl rfl (w_X4_keepAct C.G y (y.2.1 a0 3) M3) er11 rfl rfl rfl ?_
    refine g_aload_n C tb_X11_peg_0_ok (i := 16) rfl rfl ?_
    refine g_getR C tb_X11_peg_0_ok (i := 17) rfl fl_X11_37 rfl k1 n4 ?_
    refine g_getR C tb_X11_peg_0_ok (i := 18) rfl fl_X11_53 rfl k5 n6 ?_
    refine g_iload_n C tb_X11_peg_0_ok (i := 19) rfl rfl ?_
    obtain ⟨r13, er13, h⟩ := cp_e h
    refine g_callV0 C tb_X11_peg_0_ok (i := 20) [.int a1] rfl mw_X8_blueOf mv_X8_blueOf ml_X11_182 k7 rfl rfl rfl rfl (w_X8_blueOf C.G y (y.2.1 (y.2.1 a0 3) 0) a1 M12) (pm_s er13) rfl rfl rfl ?_
    refine g_istore_n C tb_X11_peg_0_ok (i := 21) rfl rfl rfl ?_
    refine g_aload_n C tb_X11_peg_0_ok (i := 22) rfl rfl ?_
    refine g_getR C tb_X11_peg_0_ok (i := 23) rfl fl_X11_37 rfl k1 n4 ?_
    refine g_getR C tb_X11_peg_0_ok (i := 24) rfl fl_X11_53 rfl k5 n6 ?_
    refine g_iload_n C tb_X11_peg_0_ok (i := 25) rfl rfl ?_
    refine g_iload_n C tb_X11_peg_0_ok (i := 26) rfl rfl ?_
    obtain ⟨r14, M15, er14, h⟩ := c0_e h
    refine g_callV0 C tb_X11_peg_0_ok (i := 27) [.int a1, .int a2] rfl mw_X8_setPeg mv_X8_setPeg ml_X11_241 k7 rfl rfl rfl rfl (w_X8_setPeg C.G y (y.2.1 (y.2.1 a0 3) 0) a1 a2 M12) er14 rfl rfl rfl ?_
    refine g_iload_n C tb_X11_peg_0_ok (i := 28) rfl rfl ?_
    cases h
    exact g_iret1 C R rfl rfl tb_X11_peg_0_ok (i := 29) rfl
  · have h := t9 c
    refine g_aload_n C tb_X11_peg_0_ok (i := 10) rfl rfl ?_
    obtain ⟨r16, M17, er16, h⟩ := c0_e h
    refine g_callV0 C tb_X11_peg_0_ok (i := 11) [] rfl mw_X11_refuseAct mv_X11_refuseAct ml_X11_215 k1 rfl rfl rfl rfl (w_X11_refuseAct C.G y a0 M3) er16 rfl rfl rfl ?_
    cases h
    exact g_iret1 C R rfl rfl tb_X11_peg_0_ok (i := 12) rfl
def f_X11_needWithin (y : Lay) (a0 : Nat) (a1 : Int32) (a2 : Int32) (a3 : Int32) (M : Mem) : Option (Nat × Int32 × Mem) := jn (fun (_u : Unit) => some (2, 0, M)) fun j1 => br (a1 < a2) (j1 ()) (br (a1 ≤ a3) (some (0, 0, M)) (j1 ()))
theorem w_X11_needWithin {g : GX} {l : Launch} (hG : GF g l) (y : Lay) (a0 : Nat) (a1 : Int32) (a2 : Int32) (a3 : Int32) (M : Mem) : C1 g l yX11_needWithin cX11_needWithin 4 none 0 1 6 y [.ref a0, .int a1, .int a2, .int a3] M (f_X11_needWithin y a0 a1 a2 a3 M) := by
  refine C1_of hG (by decide) [some (.ref a0), some (.int a1), some (.int a2), some (.int a3)] rfl rfl (fun out h x Q C R => ?_)
  unfold f_X11_needWithin at h
  refine g_iload_n C tb_X11_needWithin_0_ok (i := 0) rfl rfl ?_
  refine g_iload_n C tb_X11_needWithin_0_ok (i := 1) rfl rfl ?_
  obtain ⟨j1, ej1, h⟩ := jn_e h
  have J10 : ∀ (_u : Unit), j1 _u = some out → GG g x 4 Q 0 0 y M 10 [none, none, none, none] [] := by
    intro _u h; subst ej1
    cases h
    exact g_throw (T2 := []) C tb_X11_needWithin_0_ok (i0 := 6) (i1 := 7) (i2 := 8) (i3 := 9) (e := 1) R tw_X11_96_98 rfl rfl rfl rfl rfl rfl rfl
  obtain ⟨t2, f3⟩ := br_e h
  refine g_icmp_lt C tb_X11_needWithin_0_ok (i := 2) 10 rfl rfl (fun c => ?_) (fun c => ?_)
  · have h := t2 c
    exact g_less (L' := [none, none, none, none]) trivial (J10 () h)
  · have h := f3 c
    refine g_iload_n C tb_X11_needWithin_0_ok (i := 3) rfl rfl ?_
    refine g_iload_n C tb_X11_needWithin_0_ok (i := 4) rfl rfl ?_
    obtain ⟨t4, f5⟩ := br_e h
    refine g_icmp_le C tb_X11_needWithin_0_ok (i := 5) 18 rfl rfl (fun c => ?_) (fun c => ?_)
    · have h := t4 c
      cases h
      exact g_vret1 C R rfl rfl tb_X11_needWithin_0_ok (i := 10) rfl
    · have h := f5 c
      exact g_less (L' := [none, none, none, none]) trivial (J10 () h)
def f_X11_then (y : Lay) (a0 : Nat) (a1 : Int32) (a2 : Int32) (M : Mem) : Option (Nat × Int32 × Mem) := gK y a0 (0, 11) (cx (f_X11_needCell y a0 a1 M) fun (r2 : Int32) (M3 : Mem) => cx (f_X11_needWithin y a0 a2 (0 : Int32) (40 : Int32) M3) fun (r4 : Int32) (M5 : Mem) => c0 (f_X11_lookAhead y a0 a2 M5) fun (r6 : Int32) (M7 : Mem) => gN (y.2.1 a0 5) (gK y (y.2.1 a0 5) (0, 8) (cp (f_X8_blueOf y (y.2.1 a0 5) a1 M7) fun (r10 : Int32) => some (0, r10, M7))))
theorem w_X11_then {g : GX} {l : Launch} (hG : GF g l) (y : Lay) (a0 : Nat) (a1 : Int32) (a2 : Int32) (M : Mem) : C1 g l yX11_then cX11_then 3 (some .int) 6 2 12 y [.ref a0, .int a1, .int a2] M (f_X11_then y a0 a1 a2 M) := by
  refine C1_of hG (by decide) [some (.ref a0), some (.int a1), some (.int a2)] rfl rfl (fun out h x Q C R => ?_)
  unfold f_X11_then at h
  refine g_aload_n C tb_X11_then_0_ok (i := 0) rfl rfl ?_
  refine g_iload_n C tb_X11_then_0_ok (i := 1) rfl rfl ?_
  obtain ⟨k1, h⟩ := gK_e h
  refine g_callV1 C tb_X11_then_0_ok (i := 2) R [.int a1] rfl mw_X11_needCell mv_X11_needCell ml_X11_179 k1 rfl rfl rfl rfl (w_X11_needCell C.G y a0 a1 M) h rfl rfl rfl (fun r2 M3 h => ?_)
  refine g_aload_n C tb_X11_then_0_ok (i := 3) rfl rfl ?_
  refine g_iload_n C tb_X11_then_0_ok (i := 4) rfl rfl ?_
  refine g_iconstv C tb_X11_then_0_ok (i := 5) 0 rfl k_iconstv_0 ?_
  refine g_bipushv C tb_X11_then_0_ok (i := 6) 40 rfl k_bipushv_40 ?_
  refine g_callV1 C tb_X11_then_0_ok (i := 7) R [.int a2, .int (0 : Int32), .int (40 : Int32)] rfl mw_X11_needWithin mv_X11_needWithin ml_X11_248 k1 rfl rfl rfl rfl (w_X11_needWithin C.G y a0 a2 (0 : Int32) (40 : Int32) M3) h rfl rfl rfl (fun r4 M5 h => ?_)
  refine g_aload_n C tb_X11_then_0_ok (i := 8) rfl rfl ?_
  refine g_iload_n C tb_X11_then_0_ok (i := 9) rfl rfl ?_
  obtain ⟨r6, M7, er6, h⟩ := c0_e h
  refine g_callV0 C tb_X11_then_0_ok (i := 10) [.int a2] rfl mw_X11_lookAhead mv_X11_lookAhead ml_X11_252 k1 rfl rfl rfl rfl (w_X11_lookAhead C.G y a0 a2 M5) er6 rfl rfl rfl ?_
  refine g_aload_n C tb_X11_then_0_ok (i := 11) rfl rfl ?_
  obtain ⟨n8, h⟩ := gN_e h
  refine g_getR C tb_X11_then_0_ok (i := 12) rfl fl_X11_47 rfl k1 n8 ?_
  refine g_iload_n C tb_X11_then_0_ok (i := 13) rfl rfl ?_
  obtain ⟨k9, h⟩ := gK_e h
  obtain ⟨r10, er10, h⟩ := cp_e h
  refine g_callV0 C tb_X11_then_0_ok (i := 14) [.int a1] rfl mw_X8_blueOf mv_X8_blueOf ml_X11_182 k9 rfl rfl rfl rfl (w_X8_blueOf C.G y (y.2.1 a0 5) a1 M7) (pm_s er10) rfl rfl rfl ?_
  cases h
  exact g_iret1 C R rfl rfl tb_X11_then_0_ok (i := 15) rfl
def f_X11_needWhat (y : Lay) (a0 : Nat) (a1 : Int32) (a2 : Int32) (M : Mem) : Option (Nat × Int32 × Mem) := jn (fun (_u : Unit) => some (1, 0, M)) fun j1 => br (a1 < 0) (j1 ()) (br (a1 ≤ a2) (some (0, 0, M)) (j1 ()))
theorem w_X11_needWhat {g : GX} {l : Launch} (hG : GF g l) (y : Lay) (a0 : Nat) (a1 : Int32) (a2 : Int32) (M : Mem) : C1 g l yX11_needWhat cX11_needWhat 3 none 0 1 6 y [.ref a0, .int a1, .int a2] M (f_X11_needWhat y a0 a1 a2 M) := by
  refine C1_of hG (by decide) [some (.ref a0), some (.int a1), some (.int a2)] rfl rfl (fun out h x Q C R => ?_)
  unfold f_X11_needWhat at h
  refine g_iload_n C tb_X11_needWhat_0_ok (i := 0) rfl rfl ?_
  obtain ⟨j1, ej1, h⟩ := jn_e h
  have J9 : ∀ (_u : Unit), j1 _u = some out → GG g x 3 Q 0 0 y M 9 [none, none, none] [] := by
    intro _u h; subst ej1
    cases h
    exact g_throw (T2 := []) C tb_X11_needWhat_0_ok (i0 := 5) (i1 := 6) (i2 := 7) (i3 := 8) (e := 0) R tw_X11_176_178 rfl rfl rfl rfl rfl rfl rfl
  obtain ⟨t2, f3⟩ := br_e h
  refine g_if_lt C tb_X11_needWhat_0_ok (i := 1) 9 rfl rfl (fun c => ?_) (fun c => ?_)
  · have h := t2 c
    exact g_less (L' := [none, none, none]) trivial (J9 () h)
  · have h := f3 c
    refine g_iload_n C tb_X11_needWhat_0_ok (i := 2) rfl rfl ?_
    refine g_iload_n C tb_X11_needWhat_0_ok (i := 3) rfl rfl ?_
    obtain ⟨t4, f5⟩ := br_e h
    refine g_icmp_le C tb_X11_needWhat_0_ok (i := 4) 17 rfl rfl (fun c => ?_) (fun c => ?_)
    · have h := t4 c
      cases h
      exact g_vret1 C R rfl rfl tb_X11_needWhat_0_ok (i := 9) rfl
    · have h := f5 c
      exact g_less (L' := [none, none, none]) trivial (J9 () h)
def f_X11_sky (y : Lay) (a0 : Nat) (a1 : Int32) (a2 : Int32) (M : Mem) : Option (Nat × Int32 × Mem) := gK y a0 (0, 11) (cx (f_X11_needWhat y a0 a2 (4 : Int32) M) fun (r2 : Int32) (M3 : Mem) => cx (f_X11_needWithin y a0 a1 (0 : Int32) (40 : Int32) M3) fun (r4 : Int32) (M5 : Mem) => c0 (f_X11_lookAhead y a0 a1 M5) fun (r6 : Int32) (M7 : Mem) => br (a2 < (0 : Int32) ∨ (3 : Int32) < a2) (gN (y.2.1 a0 5) (gK y (y.2.1 a0 5) (0, 8) (cp (f_X8_palest y (y.2.1 a0 5) M7) fun (r12 : Int32) => some (0, r12, M7)))) (br (a2 = (0 : Int32)) (gN (y.2.1 a0 5) (gK y (y.2.1 a0 5) (0, 8) (some (0, (M7.1 (y.2.1 a0 5) 9), M7)))) (br (a2 = (1 : Int32)) (gN (y.2.1 a0 5) (gK y (y.2.1 a0 5) (0, 8) (some (0, (M7.1 (y.2.1 a0 5) 10), M7)))) (br (a2 = (2 : Int32)) (gN (y.2.1 a0 5) (gK y (y.2.1 a0 5) (0, 8) (cp (f_X8_uneven y (y.2.1 a0 5) M7) fun (r23 : Int32) => some (0, r23, M7)))) (gN (y.2.1 a0 5) (gK y (y.2.1 a0 5) (0, 8) (cp (f_X8_deepest y (y.2.1 a0 5) M7) fun (r28 : Int32) => some (0, r28, M7))))))))
theorem w_X11_sky {g : GX} {l : Launch} (hG : GF g l) (y : Lay) (a0 : Nat) (a1 : Int32) (a2 : Int32) (M : Mem) : C1 g l yX11_sky cX11_sky 3 (some .int) 6 2 12 y [.ref a0, .int a1, .int a2] M (f_X11_sky y a0 a1 a2 M) := by
  refine C1_of hG (by decide) [some (.ref a0), some (.int a1), some (.int a2)] rfl rfl (fun out h x Q C R => ?_)
  unfold f_X11_sky at h
  refine g_aload_n C tb_X11_sky_0_ok (i := 0) rfl rfl ?_
  refine g_iload_n C tb_X11_sky_0_ok (i := 1) rfl rfl ?_
  refine g_iconstv C tb_X11_sky_0_ok (i := 2) 4 rfl k_iconstv_4 ?_
  obtain ⟨k1, h⟩ := gK_e h
  refine g_callV1 C tb_X11_sky_0_ok (i := 3) R [.int a2, .int (4 : Int32)] rfl mw_X11_needWhat mv_X11_needWhat ml_X11_255 k1 rfl rfl rfl rfl (w_X11_needWhat C.G y a0 a2 (4 : Int32) M) h rfl rfl rfl (fun r2 M3 h => ?_)
  refine g_aload_n C tb_X11_sky_0_ok (i := 4) rfl rfl ?_
  refine g_iload_n C tb_X11_sky_0_ok (i := 5) rfl rfl ?_
  refine g_iconstv C tb_X11_sky_0_ok (i := 6) 0 rfl k_iconstv_0 ?_
  refine g_bipushv C tb_X11_sky_0_ok (i := 7) 40 rfl k_bipushv_40 ?_
  refine g_callV1 C tb_X11_sky_0_ok (i := 8) R [.int a1, .int (0 : Int32), .int (40 : Int32)] rfl mw_X11_needWithin mv_X11_needWithin ml_X11_248 k1 rfl rfl rfl rfl (w_X11_needWithin C.G y a0 a1 (0 : Int32) (40 : Int32) M3) h rfl rfl rfl (fun r4 M5 h => ?_)
  refine g_aload_n C tb_X11_sky_0_ok (i := 9) rfl rfl ?_
  refine g_iload_n C tb_X11_sky_0_ok (i := 10) rfl rfl ?_
  obtain ⟨r6, M7, er6, h⟩ := c0_e h
  refine g_callV0 C tb_X11_sky_0_ok (i := 11) [.int a1] rfl mw_X11_lookAhead mv_X11_lookAhead ml_X11_252 k1 rfl rfl rfl rfl (w_X11_lookAhead C.G y a0 a1 M5) er6 rfl rfl rfl ?_
  refine g_iload_n C tb_X11_sky_0_ok (i := 12) rfl rfl ?_
  obtain ⟨t8, f9⟩ := br_e h
  by_cases hsw : a2 < (0 : Int32) ∨ (3 : Int32) < a2
  · have h := t8 hsw
    refine g_tableOut C tb_X11_sky_0_ok (i := 13) 0 3 84 rfl hsw (by decide) rfl ?_
    refine g_aload_n C tb_X11_sky_0_ok (i := 30) rfl rfl ?_
    obtain ⟨n10, h⟩ := gN_e h
    refine g_getR C tb_X11_sky_0_ok (i := 31) rfl fl_X11_47 rfl k1 n10 ?_
    obtain ⟨k11, h⟩ := gK_e h
    obtain ⟨r12, er12, h⟩ := cp_e h
    refine g_callV0 C tb_X11_sky_0_ok (i := 32) [] rfl mw_X8_palest mv_X8_palest ml_X11_264 k11 rfl rfl rfl rfl (w_X8_palest C.G y (y.2.1 a0 5) M7) (pm_s er12) rfl rfl rfl ?_
    cases h
    exact g_iret1 C R rfl rfl tb_X11_sky_0_ok (i := 33) rfl
  have h := f9 hsw
  obtain ⟨t15, f16⟩ := br_e h
  by_cases hs1000 : a2 = (0 : Int32)
  · have h := t15 hs1000
    refine g_tableIn C tb_X11_sky_0_ok (i := 13) 0 52 32 rfl hs1000 (by decide) rfl ?_
    refine g_aload_n C tb_X11_sky_0_ok (i := 14) rfl rfl ?_
    obtain ⟨n13, h⟩ := gN_e h
    refine g_getR C tb_X11_sky_0_ok (i := 15) rfl fl_X11_47 rfl k1 n13 ?_
    obtain ⟨k14, h⟩ := gK_e h
    refine g_getI C tb_X11_sky_0_ok (i := 16) rfl fl_X11_140 rfl k14 ?_
    cases h
    exact g_iret1 C R rfl rfl tb_X11_sky_0_ok (i := 17) rfl
  have h := f16 hs1000
  obtain ⟨t19, f20⟩ := br_e h
  by_cases hs1001 : a2 = (1 : Int32)
  · have h := t19 hs1001
    refine g_tableIn C tb_X11_sky_0_ok (i := 13) 1 60 40 rfl hs1001 (by decide) rfl ?_
    refine g_aload_n C tb_X11_sky_0_ok (i := 18) rfl rfl ?_
    obtain ⟨n17, h⟩ := gN_e h
    refine g_getR C tb_X11_sky_0_ok (i := 19) rfl fl_X11_47 rfl k1 n17 ?_
    obtain ⟨k18, h⟩ := gK_e h
    refine g_getI C tb_X11_sky_0_ok (i := 20) rfl fl_X11_149 rfl k18 ?_
    cases h
    exact g_iret1 C R rfl rfl tb_X11_sky_0_ok (i := 21) rfl
  have h := f20 hs1001
  obtain ⟨t24, f25⟩ := br_e h
  by_cases hs1002 : a2 = (2 : Int32)
  · have h := t24 hs1002
    refine g_tableIn C tb_X11_sky_0_ok (i := 13) 2 68 48 rfl hs1002 (by decide) rfl ?_
    refine g_aload_n C tb_X11_sky_0_ok (i := 22) rfl rfl ?_
    obtain ⟨n21, h⟩ := gN_e h
    refine g_getR C tb_X11_sky_0_ok (i := 23) rfl fl_X11_47 rfl k1 n21 ?_
    obtain ⟨k22, h⟩ := gK_e h
    obtain ⟨r23, er23, h⟩ := cp_e h
    refine g_callV0 C tb_X11_sky_0_ok (i := 24) [] rfl mw_X8_uneven mv_X8_uneven ml_X11_258 k22 rfl rfl rfl rfl (w_X8_uneven C.G y (y.2.1 a0 5) M7) (pm_s er23) rfl rfl rfl ?_
    cases h
    exact g_iret1 C R rfl rfl tb_X11_sky_0_ok (i := 25) rfl
  have h := f25 hs1002
  have hlast : a2 = (3 : Int32) := i32_sw (l := [(0 : Int32), (1 : Int32), (2 : Int32)]) (n := 3) hsw (by decide +kernel) (i32_ne [(0 : Int32), (1 : Int32), (2 : Int32)] rfl (by intro c hc; simp only [List.mem_cons, List.not_mem_nil, or_false] at hc; rcases hc with rfl | rfl | rfl <;> assumption))
  refine g_tableIn C tb_X11_sky_0_ok (i := 13) 3 76 56 rfl hlast (by decide) rfl ?_
  refine g_aload_n C tb_X11_sky_0_ok (i := 26) rfl rfl ?_
  obtain ⟨n26, h⟩ := gN_e h
  refine g_getR C tb_X11_sky_0_ok (i := 27) rfl fl_X11_47 rfl k1 n26 ?_
  obtain ⟨k27, h⟩ := gK_e h
  obtain ⟨r28, er28, h⟩ := cp_e h
  refine g_callV0 C tb_X11_sky_0_ok (i := 28) [] rfl mw_X8_deepest mv_X8_deepest ml_X11_261 k27 rfl rfl rfl rfl (w_X8_deepest C.G y (y.2.1 a0 5) M7) (pm_s er28) rfl rfl rfl ?_
  cases h
  exact g_iret1 C R rfl rfl tb_X11_sky_0_ok (i := 29) rfl
def f_X11_overdone (y : Lay) (a0 : Nat) (a1 : Int32) (M : Mem) : Option (Nat × Int32 × Mem) := gK y a0 (0, 11) (cx (f_X11_needWithin y a0 a1 (1 : Int32) (40 : Int32) M) fun (r2 : Int32) (M3 : Mem) => c0 (f_X11_lookAhead y a0 a1 M3) fun (r4 : Int32) (M5 : Mem) => gN (y.2.1 a0 5) (gK y (y.2.1 a0 5) (0, 8) (some (0, (M5.1 (y.2.1 a0 5) 12), M5))))
theorem w_X11_overdone {g : GX} {l : Launch} (hG : GF g l) (y : Lay) (a0 : Nat) (a1 : Int32) (M : Mem) : C1 g l yX11_overdone cX11_overdone 2 (some .int) 6 1 6 y [.ref a0, .int a1] M (f_X11_overdone y a0 a1 M) := by
  refine C1_of hG (by decide) [some (.ref a0), some (.int a1)] rfl rfl (fun out h x Q C R => ?_)
  unfold f_X11_overdone at h
  refine g_aload_n C tb_X11_overdone_0_ok (i := 0) rfl rfl ?_
  refine g_iload_n C tb_X11_overdone_0_ok (i := 1) rfl rfl ?_
  refine g_iconstv C tb_X11_overdone_0_ok (i := 2) 1 rfl k_iconstv_1 ?_
  refine g_bipushv C tb_X11_overdone_0_ok (i := 3) 40 rfl k_bipushv_40 ?_
  obtain ⟨k1, h⟩ := gK_e h
  refine g_callV1 C tb_X11_overdone_0_ok (i := 4) R [.int a1, .int (1 : Int32), .int (40 : Int32)] rfl mw_X11_needWithin mv_X11_needWithin ml_X11_248 k1 rfl rfl rfl rfl (w_X11_needWithin C.G y a0 a1 (1 : Int32) (40 : Int32) M) h rfl rfl rfl (fun r2 M3 h => ?_)
  refine g_aload_n C tb_X11_overdone_0_ok (i := 5) rfl rfl ?_
  refine g_iload_n C tb_X11_overdone_0_ok (i := 6) rfl rfl ?_
  obtain ⟨r4, M5, er4, h⟩ := c0_e h
  refine g_callV0 C tb_X11_overdone_0_ok (i := 7) [.int a1] rfl mw_X11_lookAhead mv_X11_lookAhead ml_X11_252 k1 rfl rfl rfl rfl (w_X11_lookAhead C.G y a0 a1 M3) er4 rfl rfl rfl ?_
  refine g_aload_n C tb_X11_overdone_0_ok (i := 8) rfl rfl ?_
  obtain ⟨n6, h⟩ := gN_e h
  refine g_getR C tb_X11_overdone_0_ok (i := 9) rfl fl_X11_47 rfl k1 n6 ?_
  obtain ⟨k7, h⟩ := gK_e h
  refine g_getI C tb_X11_overdone_0_ok (i := 10) rfl fl_X11_267 rfl k7 ?_
  cases h
  exact g_iret1 C R rfl rfl tb_X11_overdone_0_ok (i := 11) rfl
def f_X11_first (y : Lay) (a0 : Nat) (a1 : Int32) (M : Mem) : Option (Nat × Int32 × Mem) := gK y a0 (0, 11) (cx (f_X11_needCell y a0 a1 M) fun (r2 : Int32) (M3 : Mem) => c0 (f_X11_lookAhead y a0 (0 : Int32) M3) fun (r4 : Int32) (M5 : Mem) => fixN (fun _ _ => none) (fun (s8 : Int32 → Mem → Option (Nat × Int32 × Mem)) (v6 : Int32) (M7 : Mem) => br ((40 : Int32) < v6) (some (0, ((-1) : Int32), M7)) (gN (y.2.1 a0 5) (gK y (y.2.1 a0 5) (0, 8) (c0 (f_X8_passDay y (y.2.1 a0 5) M7) fun (r14 : Int32) (M15 : Mem) => br ((((M15.1 (y.2.1 a0 5) 12) >>> (a1 &&& 31)) &&& (1 : Int32)) = 0) (lt (v6 + (1 : Int32)) fun (v18 : Int32) => s8 v18 M15) (some (0, v6, M15)))))) FUEL (1 : Int32) M5)
theorem w_X11_first {g : GX} {l : Launch} (hG : GF g l) (y : Lay) (a0 : Nat) (a1 : Int32) (M : Mem) : C1 g l yX11_first cX11_first 3 (some .int) 6 1 6 y [.ref a0, .int a1] M (f_X11_first y a0 a1 M) := by
  refine C1_of hG (by decide) [some (.ref a0), some (.int a1), none] rfl rfl (fun out h x Q C R => ?_)
  unfold f_X11_first at h
  refine g_aload_n C tb_X11_first_0_ok (i := 0) rfl rfl ?_
  refine g_iload_n C tb_X11_first_0_ok (i := 1) rfl rfl ?_
  obtain ⟨k1, h⟩ := gK_e h
  refine g_callV1 C tb_X11_first_0_ok (i := 2) R [.int a1] rfl mw_X11_needCell mv_X11_needCell ml_X11_179 k1 rfl rfl rfl rfl (w_X11_needCell C.G y a0 a1 M) h rfl rfl rfl (fun r2 M3 h => ?_)
  refine g_aload_n C tb_X11_first_0_ok (i := 3) rfl rfl ?_
  refine g_iconstv C tb_X11_first_0_ok (i := 4) 0 rfl k_iconstv_0 ?_
  obtain ⟨r4, M5, er4, h⟩ := c0_e h
  refine g_callV0 C tb_X11_first_0_ok (i := 5) [.int (0 : Int32)] rfl mw_X11_lookAhead mv_X11_lookAhead ml_X11_252 k1 rfl rfl rfl rfl (w_X11_lookAhead C.G y a0 (0 : Int32) M3) er4 rfl rfl rfl ?_
  refine g_iconstv C tb_X11_first_0_ok (i := 6) 1 rfl k_iconstv_1 ?_
  refine g_istore_n C tb_X11_first_0_ok (i := 7) rfl rfl rfl ?_
  refine g_less (L' := [some (.ref a0), some (.int a1), some (.int (1 : Int32))]) ⟨rfl, ⟨rfl, ⟨rfl, trivial⟩⟩⟩ ?_
  refine fix_i (P := fun (f : Int32 → Mem → Option (Nat × Int32 × Mem)) => ∀ (v6 : Int32) (M7 : Mem), f v6 M7 = some out → GG g x 3 Q 1 6 y M7 12 [some (.ref a0), some (.int a1), some (.int v6)] []) ?_ ?_ _ (1 : Int32) M5 h
  · intro v6 M7 h; exact (nn_e h).elim
  · intro s8 ih9 v6 M7 h
    refine g_iload_n C tb_X11_first_0_ok (i := 8) rfl rfl ?_
    refine g_bipushv C tb_X11_first_0_ok (i := 9) 40 rfl k_bipushv_40 ?_
    obtain ⟨t10, f11⟩ := br_e h
    refine g_icmp_gt C tb_X11_first_0_ok (i := 10) 47 rfl rfl (fun c => ?_) (fun c => ?_)
    · have h := t10 c
      refine g_iconstv C tb_X11_first_0_ok (i := 26) (-1) rfl k_iconstv_m1 ?_
      cases h
      exact g_iret1 C R rfl rfl tb_X11_first_0_ok (i := 27) rfl
    · have h := f11 c
      refine g_aload_n C tb_X11_first_0_ok (i := 11) rfl rfl ?_
      obtain ⟨n12, h⟩ := gN_e h
      refine g_getR C tb_X11_first_0_ok (i := 12) rfl fl_X11_47 rfl k1 n12 ?_
      obtain ⟨k13, h⟩ := gK_e h
      obtain ⟨r14, M15, er14, h⟩ := c0_e h
      refine g_callV0 C tb_X11_first_0_ok (i := 13) [] rfl mw_X8_passDay mv_X8_passDay ml_X11_221 k13 rfl rfl rfl rfl (w_X8_passDay C.G y (y.2.1 a0 5) M7) er14 rfl rfl rfl ?_
      refine g_aload_n C tb_X11_first_0_ok (i := 14) rfl rfl ?_
      refine g_getR C tb_X11_first_0_ok (i := 15) rfl fl_X11_47 rfl k1 n12 ?_
      refine g_getI C tb_X11_first_0_ok (i := 16) rfl fl_X11_267 rfl k13 ?_
      refine g_iload_n C tb_X11_first_0_ok (i := 17) rfl rfl ?_
      refine g_ishr C tb_X11_first_0_ok (i := 18) rfl ?_
      refine g_iconstv C tb_X11_first_0_ok (i := 19) 1 rfl k_iconstv_1 ?_
      refine g_iand C tb_X11_first_0_ok (i := 20) rfl ?_
      obtain ⟨t16, f17⟩ := br_e h
      refine g_if_eq C tb_X11_first_0_ok (i := 21) 41 rfl rfl (fun c => ?_) (fun c => ?_)
      · have h := t16 c
        obtain ⟨v18, ev18⟩ : ∃ w : Int32, w = v6 + (1 : Int32) := ⟨_, rfl⟩
        have h := lt_e ev18 h
        refine g_iincv C tb_X11_first_0_ok (i := 24) (1 : Int32) ev18 rfl rfl k_iconstv_1 rfl rfl ?_
        refine g_goto C tb_X11_first_0_ok (i := 25) 12 rfl rfl ?_
        exact g_less (L' := [some (.ref a0), some (.int a1), some (.int v18)]) ⟨rfl, ⟨rfl, ⟨rfl, trivial⟩⟩⟩ (ih9 v18 M15 h)
      · have h := f17 c
        refine g_iload_n C tb_X11_first_0_ok (i := 22) rfl rfl ?_
        cases h
        exact g_iret1 C R rfl rfl tb_X11_first_0_ok (i := 23) rfl
def f_X8_runFrom (y : Lay) (a0 : Nat) (a1 : Int32) (M : Mem) : Option Int32 := lt (a1 + (1 : Int32)) fun (v1 : Int32) => fixN (fun _ _ => none) (fun (s4 : Int32 → Int32 → Option Int32) (v2 : Int32) (v3 : Int32) => gK y a0 (0, 8) (gN (y.2.1 a0 0) (gK y (y.2.1 a0 0) (0, 1) (cp (f_X1_cells y (y.2.1 a0 0) M) fun (r9 : Int32) => br (r9 ≤ v3) (some v2) (cp (f_X1_rowOf y (y.2.1 a0 0) v3 M) fun (r12 : Int32) => cp (f_X1_rowOf y (y.2.1 a0 0) a1 M) fun (r13 : Int32) => jn (fun (_u : Unit) => some v2) fun j14 => br (r12 = r13) (cp (f_X8_blueOf y a0 v3 M) fun (r17 : Int32) => cp (f_X8_blueOf y a0 a1 M) fun (r18 : Int32) => br (r17 = r18) (lt (v2 + (1 : Int32)) fun (v21 : Int32) => lt (v3 + (1 : Int32)) fun (v22 : Int32) => s4 v21 v22) (j14 ())) (j14 ())))))) FUEL (1 : Int32) v1
theorem w_X8_runFrom {g : GX} {l : Launch} (hG : GF g l) (y : Lay) (a0 : Nat) (a1 : Int32) (M : Mem) : C0 g l yX8_runFrom cX8_runFrom 4 (some .int) 1 y [.ref a0, .int a1] M (pm M (f_X8_runFrom y a0 a1 M)) := by
  refine CP_of hG (by decide) [some (.ref a0), some (.int a1), none, none] rfl rfl (fun out h x Q C R => ?_)
  unfold f_X8_runFrom at h
  refine g_iconstv C tb_X8_runFrom_0_ok (i := 0) 1 rfl k_iconstv_1 ?_
  refine g_istore_n C tb_X8_runFrom_0_ok (i := 1) rfl rfl rfl ?_
  refine g_iload_n C tb_X8_runFrom_0_ok (i := 2) rfl rfl ?_
  refine g_iconstv C tb_X8_runFrom_0_ok (i := 3) 1 rfl k_iconstv_1 ?_
  refine g_iadd C tb_X8_runFrom_0_ok (i := 4) rfl ?_
  refine g_topi (fun v1 ev1 => ?_)
  have h := lt_e ev1 h
  refine g_istore_n C tb_X8_runFrom_0_ok (i := 5) rfl rfl rfl ?_
  refine g_less (L' := [some (.ref a0), some (.int a1), some (.int (1 : Int32)), some (.int v1)]) ⟨rfl, ⟨rfl, ⟨rfl, ⟨rfl, trivial⟩⟩⟩⟩ ?_
  refine fix_i (P := fun (f : Int32 → Int32 → Option Int32) => ∀ (v2 : Int32) (v3 : Int32), f v2 v3 = some out → GG g x 4 Q 0 0 y M 6 [some (.ref a0), some (.int a1), some (.int v2), some (.int v3)] []) ?_ ?_ _ (1 : Int32) v1 h
  · intro v2 v3 h; exact (nn_e h).elim
  · intro s4 ih5 v2 v3 h
    refine g_iload_n C tb_X8_runFrom_0_ok (i := 6) rfl rfl ?_
    refine g_aload_n C tb_X8_runFrom_0_ok (i := 7) rfl rfl ?_
    obtain ⟨k6, h⟩ := gK_e h
    obtain ⟨n7, h⟩ := gN_e h
    refine g_getR C tb_X8_runFrom_0_ok (i := 8) rfl fl_X8_32 rfl k6 n7 ?_
    obtain ⟨k8, h⟩ := gK_e h
    obtain ⟨r9, er9, h⟩ := cp_e h
    refine g_callV0 C tb_X8_runFrom_0_ok (i := 9) [] rfl mw_X1_cells mv_X1_cells ml_X8_147 k8 rfl rfl rfl rfl (w_X1_cells C.G y (y.2.1 a0 0) M) (pm_s er9) rfl rfl rfl ?_
    obtain ⟨t10, f11⟩ := br_e h
    refine g_icmp_ge C tb_X8_runFrom_0_ok (i := 10) 60 rfl rfl (fun c => ?_) (fun c => ?_)
    · have h := t10 c
      refine g_iload_n C tb_X8_runFrom_0_ok (i := 32) rfl rfl ?_
      cases h
      exact g_iret0 C R tb_X8_runFrom_0_ok (i := 33) rfl
    · have h := f11 c
      refine g_aload_n C tb_X8_runFrom_0_ok (i := 11) rfl rfl ?_
      refine g_getR C tb_X8_runFrom_0_ok (i := 12) rfl fl_X8_32 rfl k6 n7 ?_
      refine g_iload_n C tb_X8_runFrom_0_ok (i := 13) rfl rfl ?_
      obtain ⟨r12, er12, h⟩ := cp_e h
      refine g_callV0 C tb_X8_runFrom_0_ok (i := 14) [.int v3] rfl mw_X1_rowOf mv_X1_rowOf ml_X8_160 k8 rfl rfl rfl rfl (w_X1_rowOf C.G y (y.2.1 a0 0) v3 M) (pm_s er12) rfl rfl rfl ?_
      refine g_aload_n C tb_X8_runFrom_0_ok (i := 15) rfl rfl ?_
      refine g_getR C tb_X8_runFrom_0_ok (i := 16) rfl fl_X8_32 rfl k6 n7 ?_
      refine g_iload_n C tb_X8_runFrom_0_ok (i := 17) rfl rfl ?_
      obtain ⟨r13, er13, h⟩ := cp_e h
      refine g_callV0 C tb_X8_runFrom_0_ok (i := 18) [.int a1] rfl mw_X1_rowOf mv_X1_rowOf ml_X8_160 k8 rfl rfl rfl rfl (w_X1_rowOf C.G y (y.2.1 a0 0) a1 M) (pm_s er13) rfl rfl rfl ?_
      obtain ⟨j14, ej14, h⟩ := jn_e h
      have J49 : ∀ (_u : Unit), j14 _u = some out → GG g x 4 Q 0 0 y M 49 [none, none, some (.int v2), none] [] := by
        intro _u h; subst ej14
        refine g_iload_n C tb_X8_runFrom_0_ok (i := 27) rfl rfl ?_
        cases h
        exact g_iret0 C R tb_X8_runFrom_0_ok (i := 28) rfl
      obtain ⟨t15, f16⟩ := br_e h
      refine g_icmp_ne C tb_X8_runFrom_0_ok (i := 19) 49 rfl rfl (fun c => ?_) (fun c => ?_)
      · have h := f16 c
        exact g_less (L' := [none, none, some (.int v2), none]) ⟨rfl, trivial⟩ (J49 () h)
      · have h := t15 c
        refine g_aload_n C tb_X8_runFrom_0_ok (i := 20) rfl rfl ?_
        refine g_iload_n C tb_X8_runFrom_0_ok (i := 21) rfl rfl ?_
        obtain ⟨r17, er17, h⟩ := cp_e h
        refine g_callV0 C tb_X8_runFrom_0_ok (i := 22) [.int v3] rfl mw_X8_blueOf mv_X8_blueOf ml_X8_118 k6 rfl rfl rfl rfl (w_X8_blueOf C.G y a0 v3 M) (pm_s er17) rfl rfl rfl ?_
        refine g_aload_n C tb_X8_runFrom_0_ok (i := 23) rfl rfl ?_
        refine g_iload_n C tb_X8_runFrom_0_ok (i := 24) rfl rfl ?_
        obtain ⟨r18, er18, h⟩ := cp_e h
        refine g_callV0 C tb_X8_runFrom_0_ok (i := 25) [.int a1] rfl mw_X8_blueOf mv_X8_blueOf ml_X8_118 k6 rfl rfl rfl rfl (w_X8_blueOf C.G y a0 a1 M) (pm_s er18) rfl rfl rfl ?_
        obtain ⟨t19, f20⟩ := br_e h
        refine g_icmp_eq C tb_X8_runFrom_0_ok (i := 26) 51 rfl rfl (fun c => ?_) (fun c => ?_)
        · have h := t19 c
          obtain ⟨v21, ev21⟩ : ∃ w : Int32, w = v2 + (1 : Int32) := ⟨_, rfl⟩
          have h := lt_e ev21 h
          refine g_iincv C tb_X8_runFrom_0_ok (i := 29) (1 : Int32) ev21 rfl rfl k_iconstv_1 rfl rfl ?_
          obtain ⟨v22, ev22⟩ : ∃ w : Int32, w = v3 + (1 : Int32) := ⟨_, rfl⟩
          have h := lt_e ev22 h
          refine g_iincv C tb_X8_runFrom_0_ok (i := 30) (1 : Int32) ev22 rfl rfl k_iconstv_1 rfl rfl ?_
          refine g_goto C tb_X8_runFrom_0_ok (i := 31) 6 rfl rfl ?_
          exact g_less (L' := [some (.ref a0), some (.int a1), some (.int v21), some (.int v22)]) ⟨rfl, ⟨rfl, ⟨rfl, ⟨rfl, trivial⟩⟩⟩⟩ (ih5 v21 v22 h)
        · have h := f20 c
          exact g_less (L' := [none, none, some (.int v2), none]) ⟨rfl, trivial⟩ (J49 () h)
def f_X11_streak (y : Lay) (a0 : Nat) (a1 : Int32) (M : Mem) : Option (Nat × Int32 × Mem) := gK y a0 (0, 11) (cx (f_X11_needWhat y a0 a1 (1 : Int32) M) fun (r2 : Int32) (M3 : Mem) => fixN (fun _ _ _ => none) (fun (s7 : Int32 → Int32 → Int32 → Option (Nat × Int32 × Mem)) (v4 : Int32) (v5 : Int32) (v6 : Int32) => gN (y.2.1 a0 1) (gK y (y.2.1 a0 1) (0, 1) (cp (f_X1_cells y (y.2.1 a0 1) M3) fun (r11 : Int32) => br (r11 ≤ v6) (jn (fun (v14 : Int32) => some (0, v14, M3)) fun j15 => br (a1 = 0) (j15 v4) (j15 v5)) (gN (y.2.1 a0 3) (gK y (y.2.1 a0 3) (0, 4) (gN (y.2.1 (y.2.1 a0 3) 0) (gK y (y.2.1 (y.2.1 a0 3) 0) (0, 8) (cp (f_X8_runFrom y (y.2.1 (y.2.1 a0 3) 0) v6 M3) fun (r22 : Int32) => jn (fun (v23 : Int32) (v24 : Int32) => lt (v6 + (1 : Int32)) fun (v26 : Int32) => s7 v23 v24 v26) fun j25 => br (r22 ≤ v4) (j25 v4 v5) (j25 r22 v6))))))))) FUEL (0 : Int32) (0 : Int32) (0 : Int32))
theorem w_X11_streak {g : GX} {l : Launch} (hG : GF g l) (y : Lay) (a0 : Nat) (a1 : Int32) (M : Mem) : C1 g l yX11_streak cX11_streak 6 (some .int) 2 1 6 y [.ref a0, .int a1] M (f_X11_streak y a0 a1 M) := by
  refine C1_of hG (by decide) [some (.ref a0), some (.int a1), none, none, none, none] rfl rfl (fun out h x Q C R => ?_)
  unfold f_X11_streak at h
  refine g_aload_n C tb_X11_streak_0_ok (i := 0) rfl rfl ?_
  refine g_iload_n C tb_X11_streak_0_ok (i := 1) rfl rfl ?_
  refine g_iconstv C tb_X11_streak_0_ok (i := 2) 1 rfl k_iconstv_1 ?_
  obtain ⟨k1, h⟩ := gK_e h
  refine g_callV1 C tb_X11_streak_0_ok (i := 3) R [.int a1, .int (1 : Int32)] rfl mw_X11_needWhat mv_X11_needWhat ml_X11_255 k1 rfl rfl rfl rfl (w_X11_needWhat C.G y a0 a1 (1 : Int32) M) h rfl rfl rfl (fun r2 M3 h => ?_)
  refine g_iconstv C tb_X11_streak_0_ok (i := 4) 0 rfl k_iconstv_0 ?_
  refine g_istore_n C tb_X11_streak_0_ok (i := 5) rfl rfl rfl ?_
  refine g_iconstv C tb_X11_streak_0_ok (i := 6) 0 rfl k_iconstv_0 ?_
  refine g_istore_n C tb_X11_streak_0_ok (i := 7) rfl rfl rfl ?_
  refine g_iconstv C tb_X11_streak_0_ok (i := 8) 0 rfl k_iconstv_0 ?_
  refine g_istore C tb_X11_streak_0_ok (i := 9) rfl rfl rfl ?_
  refine g_less (L' := [some (.ref a0), some (.int a1), some (.int (0 : Int32)), some (.int (0 : Int32)), some (.int (0 : Int32)), none]) ⟨rfl, ⟨rfl, ⟨rfl, ⟨rfl, ⟨rfl, trivial⟩⟩⟩⟩⟩ ?_
  refine fix_i (P := fun (f : Int32 → Int32 → Int32 → Option (Nat × Int32 × Mem)) => ∀ (v4 : Int32) (v5 : Int32) (v6 : Int32), f v4 v5 v6 = some out → GG g x 6 Q 1 6 y M3 13 [some (.ref a0), some (.int a1), some (.int v4), some (.int v5), some (.int v6), none] []) ?_ ?_ _ (0 : Int32) (0 : Int32) (0 : Int32) h
  · intro v4 v5 v6 h; exact (nn_e h).elim
  · intro s7 ih8 v4 v5 v6 h
    refine g_iload C tb_X11_streak_0_ok (i := 10) rfl rfl ?_
    refine g_aload_n C tb_X11_streak_0_ok (i := 11) rfl rfl ?_
    obtain ⟨n9, h⟩ := gN_e h
    refine g_getR C tb_X11_streak_0_ok (i := 12) rfl fl_X11_19 rfl k1 n9 ?_
    obtain ⟨k10, h⟩ := gK_e h
    obtain ⟨r11, er11, h⟩ := cp_e h
    refine g_callV0 C tb_X11_streak_0_ok (i := 13) [] rfl mw_X1_cells mv_X1_cells ml_X11_128 k10 rfl rfl rfl rfl (w_X1_cells C.G y (y.2.1 a0 1) M3) (pm_s er11) rfl rfl rfl ?_
    obtain ⟨t12, f13⟩ := br_e h
    refine g_icmp_ge C tb_X11_streak_0_ok (i := 14) 57 rfl rfl (fun c => ?_) (fun c => ?_)
    · have h := t12 c
      refine g_iload_n C tb_X11_streak_0_ok (i := 30) rfl rfl ?_
      obtain ⟨j15, ej15, h⟩ := jn_e h
      have J66 : ∀ (v14 : Int32), j15 v14 = some out → GG g x 6 Q 1 6 y M3 66 [none, none, none, none, none, none] [.int v14] := by
        intro v14 h; subst ej15
        cases h
        exact g_iret1 C R rfl rfl tb_X11_streak_0_ok (i := 35) rfl
      obtain ⟨t16, f17⟩ := br_e h
      refine g_if_ne C tb_X11_streak_0_ok (i := 31) 65 rfl rfl (fun c => ?_) (fun c => ?_)
      · have h := f17 c
        refine g_iload_n C tb_X11_streak_0_ok (i := 34) rfl rfl ?_
        exact g_less (L' := [none, none, none, none, none, none]) trivial (J66 v5 h)
      · have h := t16 c
        refine g_iload_n C tb_X11_streak_0_ok (i := 32) rfl rfl ?_
        refine g_goto C tb_X11_streak_0_ok (i := 33) 66 rfl rfl ?_
        exact g_less (L' := [none, none, none, none, none, none]) trivial (J66 v4 h)
    · have h := f13 c
      refine g_aload_n C tb_X11_streak_0_ok (i := 15) rfl rfl ?_
      obtain ⟨n18, h⟩ := gN_e h
      refine g_getR C tb_X11_streak_0_ok (i := 16) rfl fl_X11_37 rfl k1 n18 ?_
      obtain ⟨k19, h⟩ := gK_e h
      obtain ⟨n20, h⟩ := gN_e h
      refine g_getR C tb_X11_streak_0_ok (i := 17) rfl fl_X11_53 rfl k19 n20 ?_
      refine g_iload C tb_X11_streak_0_ok (i := 18) rfl rfl ?_
      obtain ⟨k21, h⟩ := gK_e h
      obtain ⟨r22, er22, h⟩ := cp_e h
      refine g_callV0 C tb_X11_streak_0_ok (i := 19) [.int v6] rfl mw_X8_runFrom mv_X8_runFrom ml_X11_280 k21 rfl rfl rfl rfl (w_X8_runFrom C.G y (y.2.1 (y.2.1 a0 3) 0) v6 M3) (pm_s er22) rfl rfl rfl ?_
      refine g_istore C tb_X11_streak_0_ok (i := 20) rfl rfl rfl ?_
      refine g_iload C tb_X11_streak_0_ok (i := 21) rfl rfl ?_
      refine g_iload_n C tb_X11_streak_0_ok (i := 22) rfl rfl ?_
      obtain ⟨j25, ej25, h⟩ := jn_e h
      have J51 : ∀ (v23 : Int32) (v24 : Int32), j25 v23 v24 = some out → GG g x 6 Q 1 6 y M3 51 [some (.ref a0), some (.int a1), some (.int v23), some (.int v24), some (.int v6), none] [] := by
        intro v23 v24 h; subst ej25
        obtain ⟨v26, ev26⟩ : ∃ w : Int32, w = v6 + (1 : Int32) := ⟨_, rfl⟩
        have h := lt_e ev26 h
        refine g_iincv C tb_X11_streak_0_ok (i := 28) (1 : Int32) ev26 rfl rfl k_iconstv_1 rfl rfl ?_
        refine g_goto C tb_X11_streak_0_ok (i := 29) 13 rfl rfl ?_
        exact g_less (L' := [some (.ref a0), some (.int a1), some (.int v23), some (.int v24), some (.int v26), none]) ⟨rfl, ⟨rfl, ⟨rfl, ⟨rfl, ⟨rfl, trivial⟩⟩⟩⟩⟩ (ih8 v23 v24 v26 h)
      obtain ⟨t27, f28⟩ := br_e h
      refine g_icmp_le C tb_X11_streak_0_ok (i := 23) 51 rfl rfl (fun c => ?_) (fun c => ?_)
      · have h := t27 c
        exact g_less (L' := [some (.ref a0), some (.int a1), some (.int v4), some (.int v5), some (.int v6), none]) ⟨rfl, ⟨rfl, ⟨rfl, ⟨rfl, ⟨rfl, trivial⟩⟩⟩⟩⟩ (J51 v4 v5 h)
      · have h := f28 c
        refine g_iload C tb_X11_streak_0_ok (i := 24) rfl rfl ?_
        refine g_istore_n C tb_X11_streak_0_ok (i := 25) rfl rfl rfl ?_
        refine g_iload C tb_X11_streak_0_ok (i := 26) rfl rfl ?_
        refine g_istore_n C tb_X11_streak_0_ok (i := 27) rfl rfl rfl ?_
        exact g_less (L' := [some (.ref a0), some (.int a1), some (.int r22), some (.int v6), some (.int v6), none]) ⟨rfl, ⟨rfl, ⟨rfl, ⟨rfl, ⟨rfl, trivial⟩⟩⟩⟩⟩ (J51 r22 v6 h)
def f_X11_patch (y : Lay) (a0 : Nat) (a1 : Int32) (a2 : Int32) (M : Mem) : Option (Nat × Int32 × Mem) := gK y a0 (0, 11) (cx (f_X11_needCell y a0 a1 M) fun (r2 : Int32) (M3 : Mem) => cx (f_X11_needWithin y a0 a2 (0 : Int32) (99 : Int32) M3) fun (r4 : Int32) (M5 : Mem) => gN (y.2.1 a0 3) (gK y (y.2.1 a0 3) (0, 4) (gN (y.2.1 (y.2.1 a0 3) 0) (gK y (y.2.1 (y.2.1 a0 3) 0) (0, 8) (cp (f_X8_patchBits y (y.2.1 (y.2.1 a0 3) 0) a1 a2 M5) fun (r10 : Int32) => some (0, r10, M5))))))
theorem w_X11_patch {g : GX} {l : Launch} (hG : GF g l) (y : Lay) (a0 : Nat) (a1 : Int32) (a2 : Int32) (M : Mem) : C1 g l yX11_patch cX11_patch 3 (some .int) 3 2 12 y [.ref a0, .int a1, .int a2] M (f_X11_patch y a0 a1 a2 M) := by
  refine C1_of hG (by decide) [some (.ref a0), some (.int a1), some (.int a2)] rfl rfl (fun out h x Q C R => ?_)
  unfold f_X11_patch at h
  refine g_aload_n C tb_X11_patch_0_ok (i := 0) rfl rfl ?_
  refine g_iload_n C tb_X11_patch_0_ok (i := 1) rfl rfl ?_
  obtain ⟨k1, h⟩ := gK_e h
  refine g_callV1 C tb_X11_patch_0_ok (i := 2) R [.int a1] rfl mw_X11_needCell mv_X11_needCell ml_X11_179 k1 rfl rfl rfl rfl (w_X11_needCell C.G y a0 a1 M) h rfl rfl rfl (fun r2 M3 h => ?_)
  refine g_aload_n C tb_X11_patch_0_ok (i := 3) rfl rfl ?_
  refine g_iload_n C tb_X11_patch_0_ok (i := 4) rfl rfl ?_
  refine g_iconstv C tb_X11_patch_0_ok (i := 5) 0 rfl k_iconstv_0 ?_
  refine g_bipushv C tb_X11_patch_0_ok (i := 6) 99 rfl k_bipushv_99 ?_
  refine g_callV1 C tb_X11_patch_0_ok (i := 7) R [.int a2, .int (0 : Int32), .int (99 : Int32)] rfl mw_X11_needWithin mv_X11_needWithin ml_X11_248 k1 rfl rfl rfl rfl (w_X11_needWithin C.G y a0 a2 (0 : Int32) (99 : Int32) M3) h rfl rfl rfl (fun r4 M5 h => ?_)
  refine g_aload_n C tb_X11_patch_0_ok (i := 8) rfl rfl ?_
  obtain ⟨n6, h⟩ := gN_e h
  refine g_getR C tb_X11_patch_0_ok (i := 9) rfl fl_X11_37 rfl k1 n6 ?_
  obtain ⟨k7, h⟩ := gK_e h
  obtain ⟨n8, h⟩ := gN_e h
  refine g_getR C tb_X11_patch_0_ok (i := 10) rfl fl_X11_53 rfl k7 n8 ?_
  refine g_iload_n C tb_X11_patch_0_ok (i := 11) rfl rfl ?_
  refine g_iload_n C tb_X11_patch_0_ok (i := 12) rfl rfl ?_
  obtain ⟨k9, h⟩ := gK_e h
  obtain ⟨r10, er10, h⟩ := cp_e h
  refine g_callV0 C tb_X11_patch_0_ok (i := 13) [.int a1, .int a2] rfl mw_X8_patchBits mv_X8_patchBits ml_X11_191 k9 rfl rfl rfl rfl (w_X8_patchBits C.G y (y.2.1 (y.2.1 a0 3) 0) a1 a2 M5) (pm_s er10) rfl rfl rfl ?_
  cases h
  exact g_iret1 C R rfl rfl tb_X11_patch_0_ok (i := 14) rfl
def f_X11_patches (y : Lay) (a0 : Nat) (a1 : Int32) (M : Mem) : Option (Nat × Int32 × Mem) := gK y a0 (0, 11) (cx (f_X11_needWithin y a0 a1 (0 : Int32) (99 : Int32) M) fun (r2 : Int32) (M3 : Mem) => fixN (fun _ _ _ => none) (fun (s7 : Int32 → Int32 → Int32 → Option (Nat × Int32 × Mem)) (v4 : Int32) (v5 : Int32) (v6 : Int32) => gN (y.2.1 a0 1) (gK y (y.2.1 a0 1) (0, 1) (cp (f_X1_cells y (y.2.1 a0 1) M3) fun (r11 : Int32) => br (r11 ≤ v6) (some (0, v4, M3)) (jn (fun (v14 : Int32) (v15 : Int32) => lt (v6 + (1 : Int32)) fun (v17 : Int32) => s7 v14 v15 v17) fun j16 => br (((v5 >>> (v6 &&& 31)) &&& (1 : Int32)) = 0) (gN (y.2.1 a0 3) (gK y (y.2.1 a0 3) (0, 4) (gN (y.2.1 (y.2.1 a0 3) 0) (gK y (y.2.1 (y.2.1 a0 3) 0) (0, 8) (cp (f_X8_patchBits y (y.2.1 (y.2.1 a0 3) 0) v6 a1 M3) fun (r24 : Int32) => lt (v5 ||| r24) fun (v25 : Int32) => lt (v4 + (1 : Int32)) fun (v26 : Int32) => j16 v26 v25))))) (j16 v4 v5))))) FUEL (0 : Int32) (0 : Int32) (0 : Int32))
theorem w_X11_patches {g : GX} {l : Launch} (hG : GF g l) (y : Lay) (a0 : Nat) (a1 : Int32) (M : Mem) : C1 g l yX11_patches cX11_patches 5 (some .int) 3 1 6 y [.ref a0, .int a1] M (f_X11_patches y a0 a1 M) := by
  refine C1_of hG (by decide) [some (.ref a0), some (.int a1), none, none, none] rfl rfl (fun out h x Q C R => ?_)
  unfold f_X11_patches at h
  refine g_aload_n C tb_X11_patches_0_ok (i := 0) rfl rfl ?_
  refine g_iload_n C tb_X11_patches_0_ok (i := 1) rfl rfl ?_
  refine g_iconstv C tb_X11_patches_0_ok (i := 2) 0 rfl k_iconstv_0 ?_
  refine g_bipushv C tb_X11_patches_0_ok (i := 3) 99 rfl k_bipushv_99 ?_
  obtain ⟨k1, h⟩ := gK_e h
  refine g_callV1 C tb_X11_patches_0_ok (i := 4) R [.int a1, .int (0 : Int32), .int (99 : Int32)] rfl mw_X11_needWithin mv_X11_needWithin ml_X11_248 k1 rfl rfl rfl rfl (w_X11_needWithin C.G y a0 a1 (0 : Int32) (99 : Int32) M) h rfl rfl rfl (fun r2 M3 h => ?_)
  refine g_iconstv C tb_X11_patches_0_ok (i := 5) 0 rfl k_iconstv_0 ?_
  refine g_istore_n C tb_X11_patches_0_ok (i := 6) rfl rfl rfl ?_
  refine g_iconstv C tb_X11_patches_0_ok (i := 7) 0 rfl k_iconstv_0 ?_
  refine g_istore_n C tb_X11_patches_0_ok (i := 8) rfl rfl rfl ?_
  refine g_iconstv C tb_X11_patches_0_ok (i := 9) 0 rfl k_iconstv_0 ?_
  refine g_istore C tb_X11_patches_0_ok (i := 10) rfl rfl rfl ?_
  refine g_less (L' := [some (.ref a0), some (.int a1), some (.int (0 : Int32)), some (.int (0 : Int32)), some (.int (0 : Int32))]) ⟨rfl, ⟨rfl, ⟨rfl, ⟨rfl, ⟨rfl, trivial⟩⟩⟩⟩⟩ ?_
  refine fix_i (P := fun (f : Int32 → Int32 → Int32 → Option (Nat × Int32 × Mem)) => ∀ (v4 : Int32) (v5 : Int32) (v6 : Int32), f v4 v5 v6 = some out → GG g x 5 Q 1 6 y M3 15 [some (.ref a0), some (.int a1), some (.int v4), some (.int v5), some (.int v6)] []) ?_ ?_ _ (0 : Int32) (0 : Int32) (0 : Int32) h
  · intro v4 v5 v6 h; exact (nn_e h).elim
  · intro s7 ih8 v4 v5 v6 h
    refine g_iload C tb_X11_patches_0_ok (i := 11) rfl rfl ?_
    refine g_aload_n C tb_X11_patches_0_ok (i := 12) rfl rfl ?_
    obtain ⟨n9, h⟩ := gN_e h
    refine g_getR C tb_X11_patches_0_ok (i := 13) rfl fl_X11_19 rfl k1 n9 ?_
    obtain ⟨k10, h⟩ := gK_e h
    obtain ⟨r11, er11, h⟩ := cp_e h
    refine g_callV0 C tb_X11_patches_0_ok (i := 14) [] rfl mw_X1_cells mv_X1_cells ml_X11_128 k10 rfl rfl rfl rfl (w_X1_cells C.G y (y.2.1 a0 1) M3) (pm_s er11) rfl rfl rfl ?_
    obtain ⟨t12, f13⟩ := br_e h
    refine g_icmp_ge C tb_X11_patches_0_ok (i := 15) 61 rfl rfl (fun c => ?_) (fun c => ?_)
    · have h := t12 c
      refine g_iload_n C tb_X11_patches_0_ok (i := 34) rfl rfl ?_
      cases h
      exact g_iret1 C R rfl rfl tb_X11_patches_0_ok (i := 35) rfl
    · have h := f13 c
      refine g_iload_n C tb_X11_patches_0_ok (i := 16) rfl rfl ?_
      refine g_iload C tb_X11_patches_0_ok (i := 17) rfl rfl ?_
      refine g_ishr C tb_X11_patches_0_ok (i := 18) rfl ?_
      refine g_iconstv C tb_X11_patches_0_ok (i := 19) 1 rfl k_iconstv_1 ?_
      refine g_iand C tb_X11_patches_0_ok (i := 20) rfl ?_
      obtain ⟨j16, ej16, h⟩ := jn_e h
      have J55 : ∀ (v14 : Int32) (v15 : Int32), j16 v14 v15 = some out → GG g x 5 Q 1 6 y M3 55 [some (.ref a0), some (.int a1), some (.int v14), some (.int v15), some (.int v6)] [] := by
        intro v14 v15 h; subst ej16
        obtain ⟨v17, ev17⟩ : ∃ w : Int32, w = v6 + (1 : Int32) := ⟨_, rfl⟩
        have h := lt_e ev17 h
        refine g_iincv C tb_X11_patches_0_ok (i := 32) (1 : Int32) ev17 rfl rfl k_iconstv_1 rfl rfl ?_
        refine g_goto C tb_X11_patches_0_ok (i := 33) 15 rfl rfl ?_
        exact g_less (L' := [some (.ref a0), some (.int a1), some (.int v14), some (.int v15), some (.int v17)]) ⟨rfl, ⟨rfl, ⟨rfl, ⟨rfl, ⟨rfl, trivial⟩⟩⟩⟩⟩ (ih8 v14 v15 v17 h)
      obtain ⟨t18, f19⟩ := br_e h
      refine g_if_ne C tb_X11_patches_0_ok (i := 21) 55 rfl rfl (fun c => ?_) (fun c => ?_)
      · have h := f19 c
        exact g_less (L' := [some (.ref a0), some (.int a1), some (.int v4), some (.int v5), some (.int v6)]) ⟨rfl, ⟨rfl, ⟨rfl, ⟨rfl, ⟨rfl, trivial⟩⟩⟩⟩⟩ (J55 v4 v5 h)
      · have h := t18 c
        refine g_iload_n C tb_X11_patches_0_ok (i := 22) rfl rfl ?_
        refine g_aload_n C tb_X11_patches_0_ok (i := 23) rfl rfl ?_
        obtain ⟨n20, h⟩ := gN_e h
        refine g_getR C tb_X11_patches_0_ok (i := 24) rfl fl_X11_37 rfl k1 n20 ?_
        obtain ⟨k21, h⟩ := gK_e h
        obtain ⟨n22, h⟩ := gN_e h
        refine g_getR C tb_X11_patches_0_ok (i := 25) rfl fl_X11_53 rfl k21 n22 ?_
        refine g_iload C tb_X11_patches_0_ok (i := 26) rfl rfl ?_
        refine g_iload_n C tb_X11_patches_0_ok (i := 27) rfl rfl ?_
        obtain ⟨k23, h⟩ := gK_e h
        obtain ⟨r24, er24, h⟩ := cp_e h
        refine g_callV0 C tb_X11_patches_0_ok (i := 28) [.int v6, .int a1] rfl mw_X8_patchBits mv_X8_patchBits ml_X11_191 k23 rfl rfl rfl rfl (w_X8_patchBits C.G y (y.2.1 (y.2.1 a0 3) 0) v6 a1 M3) (pm_s er24) rfl rfl rfl ?_
        refine g_ior C tb_X11_patches_0_ok (i := 29) rfl ?_
        refine g_topi (fun v25 ev25 => ?_)
        have h := lt_e ev25 h
        refine g_istore_n C tb_X11_patches_0_ok (i := 30) rfl rfl rfl ?_
        obtain ⟨v26, ev26⟩ : ∃ w : Int32, w = v4 + (1 : Int32) := ⟨_, rfl⟩
        have h := lt_e ev26 h
        refine g_iincv C tb_X11_patches_0_ok (i := 31) (1 : Int32) ev26 rfl rfl k_iconstv_1 rfl rfl ?_
        exact g_less (L' := [some (.ref a0), some (.int a1), some (.int v26), some (.int v25), some (.int v6)]) ⟨rfl, ⟨rfl, ⟨rfl, ⟨rfl, ⟨rfl, trivial⟩⟩⟩⟩⟩ (J55 v26 v25 h)
def f_X8_wayBetween (y : Lay) (a0 : Nat) (a1 : Int32) (a2 : Int32) (M : Mem) : Option Int32 := gK y a0 (0, 8) (cp (f_X8_isPegged y a0 a1 M) fun (r2 : Int32) => jn (fun (_u : Unit) => some ((-1) : Int32)) fun j3 => br (r2 = 0) (cp (f_X8_isPegged y a0 a2 M) fun (r6 : Int32) => br (r6 = 0) (lt ((1 : Int32) <<< (a1 &&& 31)) fun (v9 : Int32) => fixN (fun _ _ => none) (fun (s12 : Int32 → Int32 → Option Int32) (v10 : Int32) (v11 : Int32) => br ((30 : Int32) ≤ v11) (some ((-1) : Int32)) (br (((v10 >>> (a2 &&& 31)) &&& (1 : Int32)) = 0) (fixN (fun _ _ => none) (fun (s20 : Int32 → Int32 → Option Int32) (v18 : Int32) (v19 : Int32) => gN (y.2.1 a0 0) (gK y (y.2.1 a0 0) (0, 1) (cp (f_X1_cells y (y.2.1 a0 0) M) fun (r24 : Int32) => br (r24 ≤ v19) (lt (v11 + (1 : Int32)) fun (v27 : Int32) => s12 v18 v27) (cp (f_X8_isPegged y a0 v19 M) fun (r28 : Int32) => jn (fun (v29 : Int32) => lt (v19 + (1 : Int32)) fun (v31 : Int32) => s20 v29 v31) fun j30 => br (r28 = 0) (cp (f_X1_besideBits y (y.2.1 a0 0) v19 M) fun (r34 : Int32) => br ((r34 &&& v10) = 0) (j30 v18) (lt (v18 ||| ((1 : Int32) <<< (v19 &&& 31))) fun (v37 : Int32) => j30 v37)) (j30 v18))))) FUEL v10 (0 : Int32)) (some v11))) FUEL v9 (0 : Int32)) (j3 ())) (j3 ()))
theorem w_X8_wayBetween {g : GX} {l : Launch} (hG : GF g l) (y : Lay) (a0 : Nat) (a1 : Int32) (a2 : Int32) (M : Mem) : C0 g l yX8_wayBetween cX8_wayBetween 7 (some .int) 1 y [.ref a0, .int a1, .int a2] M (pm M (f_X8_wayBetween y a0 a1 a2 M)) := by
  refine CP_of hG (by decide) [some (.ref a0), some (.int a1), some (.int a2), none, none, none, none] rfl rfl (fun out h x Q C R => ?_)
  unfold f_X8_wayBetween at h
  refine g_aload_n C tb_X8_wayBetween_0_ok (i := 0) rfl rfl ?_
  refine g_iload_n C tb_X8_wayBetween_0_ok (i := 1) rfl rfl ?_
  obtain ⟨k1, h⟩ := gK_e h
  obtain ⟨r2, er2, h⟩ := cp_e h
  refine g_callV0 C tb_X8_wayBetween_0_ok (i := 2) [.int a1] rfl mw_X8_isPegged mv_X8_isPegged ml_X8_70 k1 rfl rfl rfl rfl (w_X8_isPegged C.G y a0 a1 M) (pm_s er2) rfl rfl rfl ?_
  obtain ⟨j3, ej3, h⟩ := jn_e h
  have J16 : ∀ (_u : Unit), j3 _u = some out → GG g x 7 Q 0 0 y M 16 [none, none, none, none, none, none, none] [] := by
    intro _u h; subst ej3
    refine g_iconstv C tb_X8_wayBetween_0_ok (i := 8) (-1) rfl k_iconstv_m1 ?_
    cases h
    exact g_iret0 C R tb_X8_wayBetween_0_ok (i := 9) rfl
  obtain ⟨t4, f5⟩ := br_e h
  refine g_if_ne C tb_X8_wayBetween_0_ok (i := 3) 16 rfl rfl (fun c => ?_) (fun c => ?_)
  · have h := f5 c
    exact g_less (L' := [none, none, none, none, none, none, none]) trivial (J16 () h)
  · have h := t4 c
    refine g_aload_n C tb_X8_wayBetween_0_ok (i := 4) rfl rfl ?_
    refine g_iload_n C tb_X8_wayBetween_0_ok (i := 5) rfl rfl ?_
    obtain ⟨r6, er6, h⟩ := cp_e h
    refine g_callV0 C tb_X8_wayBetween_0_ok (i := 6) [.int a2] rfl mw_X8_isPegged mv_X8_isPegged ml_X8_70 k1 rfl rfl rfl rfl (w_X8_isPegged C.G y a0 a2 M) (pm_s er6) rfl rfl rfl ?_
    obtain ⟨t7, f8⟩ := br_e h
    refine g_if_eq C tb_X8_wayBetween_0_ok (i := 7) 18 rfl rfl (fun c => ?_) (fun c => ?_)
    · have h := t7 c
      refine g_iconstv C tb_X8_wayBetween_0_ok (i := 10) 1 rfl k_iconstv_1 ?_
      refine g_iload_n C tb_X8_wayBetween_0_ok (i := 11) rfl rfl ?_
      refine g_ishl C tb_X8_wayBetween_0_ok (i := 12) rfl ?_
      refine g_topi (fun v9 ev9 => ?_)
      have h := lt_e ev9 h
      refine g_istore_n C tb_X8_wayBetween_0_ok (i := 13) rfl rfl rfl ?_
      refine g_iconstv C tb_X8_wayBetween_0_ok (i := 14) 0 rfl k_iconstv_0 ?_
      refine g_istore C tb_X8_wayBetween_0_ok (i := 15) rfl rfl rfl ?_
      refine g_less (L' := [some (.ref a0), none, some (.int a2), some (.int v9), some (.int (0 : Int32)), none, none]) ⟨rfl, ⟨rfl, ⟨rfl, ⟨rfl, trivial⟩⟩⟩⟩ ?_
      refine fix_i (P := fun (f : Int32 → Int32 → Option Int32) => ∀ (v10 : Int32) (v11 : Int32), f v10 v11 = some out → GG g x 7 Q 0 0 y M 25 [some (.ref a0), none, some (.int a2), some (.int v10), some (.int v11), none, none] []) ?_ ?_ _ v9 (0 : Int32) h
      · intro v10 v11 h; exact (nn_e h).elim
      · intro s12 ih13 v10 v11 h
        refine g_iload C tb_X8_wayBetween_0_ok (i := 16) rfl rfl ?_
        refine g_bipushv C tb_X8_wayBetween_0_ok (i := 17) 30 rfl k_bipushv_30 ?_
        obtain ⟨t14, f15⟩ := br_e h
        refine g_icmp_ge C tb_X8_wayBetween_0_ok (i := 18) 108 rfl rfl (fun c => ?_) (fun c => ?_)
        · have h := t14 c
          refine g_iconstv C tb_X8_wayBetween_1_ok (i := 19) (-1) rfl k_iconstv_m1 ?_
          cases h
          exact g_iret0 C R tb_X8_wayBetween_1_ok (i := 20) rfl
        · have h := f15 c
          refine g_iload_n C tb_X8_wayBetween_0_ok (i := 19) rfl rfl ?_
          refine g_iload_n C tb_X8_wayBetween_0_ok (i := 20) rfl rfl ?_
          refine g_ishr C tb_X8_wayBetween_0_ok (i := 21) rfl ?_
          refine g_iconstv C tb_X8_wayBetween_0_ok (i := 22) 1 rfl k_iconstv_1 ?_
          refine g_iand C tb_X8_wayBetween_0_ok (i := 23) rfl ?_
          obtain ⟨t16, f17⟩ := br_e h
          refine g_if_eq C tb_X8_wayBetween_0_ok (i := 24) 43 rfl rfl (fun c => ?_) (fun c => ?_)
          · have h := t16 c
            refine g_iload_n C tb_X8_wayBetween_0_ok (i := 27) rfl rfl ?_
            refine g_istore C tb_X8_wayBetween_0_ok (i := 28) rfl rfl rfl ?_
            refine g_iconstv C tb_X8_wayBetween_0_ok (i := 29) 0 rfl k_iconstv_0 ?_
            refine g_istore C tb_X8_wayBetween_0_ok (i := 30) rfl rfl rfl ?_
            refine g_less (L' := [some (.ref a0), none, some (.int a2), some (.int v10), some (.int v11), some (.int v10), some (.int (0 : Int32))]) ⟨rfl, ⟨rfl, ⟨rfl, ⟨rfl, ⟨rfl, ⟨rfl, trivial⟩⟩⟩⟩⟩⟩ ?_
            refine fix_i (P := fun (f : Int32 → Int32 → Option Int32) => ∀ (v18 : Int32) (v19 : Int32), f v18 v19 = some out → GG g x 7 Q 0 0 y M 49 [some (.ref a0), none, some (.int a2), some (.int v10), some (.int v11), some (.int v18), some (.int v19)] []) ?_ ?_ _ v10 (0 : Int32) h
            · intro v18 v19 h; exact (nn_e h).elim
            · intro s20 ih21 v18 v19 h
              refine g_iload C tb_X8_wayBetween_0_ok (i := 31) rfl rfl ?_
              refine g_aload_n C tb_X8_wayBetween_0_ok (i := 32) rfl rfl ?_
              obtain ⟨n22, h⟩ := gN_e h
              refine g_getR C tb_X8_wayBetween_0_ok (i := 33) rfl fl_X8_32 rfl k1 n22 ?_
              obtain ⟨k23, h⟩ := gK_e h
              obtain ⟨r24, er24, h⟩ := cp_e h
              refine g_callV0 C tb_X8_wayBetween_0_ok (i := 34) [] rfl mw_X1_cells mv_X1_cells ml_X8_147 k23 rfl rfl rfl rfl (w_X1_cells C.G y (y.2.1 a0 0) M) (pm_s er24) rfl rfl rfl ?_
              obtain ⟨t25, f26⟩ := br_e h
              refine g_icmp_ge C tb_X8_wayBetween_0_ok (i := 35) 99 rfl rfl (fun c => ?_) (fun c => ?_)
              · have h := t25 c
                refine g_iload C tb_X8_wayBetween_1_ok (i := 15) rfl rfl ?_
                refine g_istore_n C tb_X8_wayBetween_1_ok (i := 16) rfl rfl rfl ?_
                obtain ⟨v27, ev27⟩ : ∃ w : Int32, w = v11 + (1 : Int32) := ⟨_, rfl⟩
                have h := lt_e ev27 h
                refine g_iincv C tb_X8_wayBetween_1_ok (i := 17) (1 : Int32) ev27 rfl rfl k_iconstv_1 rfl rfl ?_
                refine g_goto C tb_X8_wayBetween_1_ok (i := 18) 25 rfl rfl ?_
                exact g_less (L' := [some (.ref a0), none, some (.int a2), some (.int v18), some (.int v27), none, none]) ⟨rfl, ⟨rfl, ⟨rfl, ⟨rfl, trivial⟩⟩⟩⟩ (ih13 v18 v27 h)
              · have h := f26 c
                refine g_aload_n C tb_X8_wayBetween_0_ok (i := 36) rfl rfl ?_
                refine g_iload C tb_X8_wayBetween_0_ok (i := 37) rfl rfl ?_
                obtain ⟨r28, er28, h⟩ := cp_e h
                refine g_callV0 C tb_X8_wayBetween_0_ok (i := 38) [.int v19] rfl mw_X8_isPegged mv_X8_isPegged ml_X8_70 k1 rfl rfl rfl rfl (w_X8_isPegged C.G y a0 v19 M) (pm_s er28) rfl rfl rfl ?_
                obtain ⟨j30, ej30, h⟩ := jn_e h
                have J93 : ∀ (v29 : Int32), j30 v29 = some out → GG g x 7 Q 0 0 y M 93 [some (.ref a0), none, some (.int a2), some (.int v10), some (.int v11), some (.int v29), some (.int v19)] [] := by
                  intro v29 h; subst ej30
                  obtain ⟨v31, ev31⟩ : ∃ w : Int32, w = v19 + (1 : Int32) := ⟨_, rfl⟩
                  have h := lt_e ev31 h
                  refine g_iincv C tb_X8_wayBetween_1_ok (i := 13) (1 : Int32) ev31 rfl rfl k_iconstv_1 rfl rfl ?_
                  refine g_goto C tb_X8_wayBetween_1_ok (i := 14) 49 rfl rfl ?_
                  exact g_less (L' := [some (.ref a0), none, some (.int a2), some (.int v10), some (.int v11), some (.int v29), some (.int v31)]) ⟨rfl, ⟨rfl, ⟨rfl, ⟨rfl, ⟨rfl, ⟨rfl, trivial⟩⟩⟩⟩⟩⟩ (ih21 v29 v31 h)
                obtain ⟨t32, f33⟩ := br_e h
                refine g_if_ne C tb_X8_wayBetween_0_ok (i := 39) 93 rfl rfl (fun c => ?_) (fun c => ?_)
                · have h := f33 c
                  exact g_less (L' := [some (.ref a0), none, some (.int a2), some (.int v10), some (.int v11), some (.int v18), some (.int v19)]) ⟨rfl, ⟨rfl, ⟨rfl, ⟨rfl, ⟨rfl, ⟨rfl, trivial⟩⟩⟩⟩⟩⟩ (J93 v18 h)
                · have h := t32 c
                  refine g_aload_n C tb_X8_wayBetween_1_ok (i := 0) rfl rfl ?_
                  refine g_getR C tb_X8_wayBetween_1_ok (i := 1) rfl fl_X8_32 rfl k1 n22 ?_
                  refine g_iload C tb_X8_wayBetween_1_ok (i := 2) rfl rfl ?_
                  obtain ⟨r34, er34, h⟩ := cp_e h
                  refine g_callV0 C tb_X8_wayBetween_1_ok (i := 3) [.int v19] rfl mw_X1_besideBits mv_X1_besideBits ml_X8_144 k23 rfl rfl rfl rfl (w_X1_besideBits C.G y (y.2.1 a0 0) v19 M) (pm_s er34) rfl rfl rfl ?_
                  refine g_iload_n C tb_X8_wayBetween_1_ok (i := 4) rfl rfl ?_
                  refine g_iand C tb_X8_wayBetween_1_ok (i := 5) rfl ?_
                  obtain ⟨t35, f36⟩ := br_e h
                  refine g_if_eq C tb_X8_wayBetween_1_ok (i := 6) 93 rfl rfl (fun c => ?_) (fun c => ?_)
                  · have h := t35 c
                    exact g_less (L' := [some (.ref a0), none, some (.int a2), some (.int v10), some (.int v11), some (.int v18), some (.int v19)]) ⟨rfl, ⟨rfl, ⟨rfl, ⟨rfl, ⟨rfl, ⟨rfl, trivial⟩⟩⟩⟩⟩⟩ (J93 v18 h)
                  · have h := f36 c
                    refine g_iload C tb_X8_wayBetween_1_ok (i := 7) rfl rfl ?_
                    refine g_iconstv C tb_X8_wayBetween_1_ok (i := 8) 1 rfl k_iconstv_1 ?_
                    refine g_iload C tb_X8_wayBetween_1_ok (i := 9) rfl rfl ?_
                    refine g_ishl C tb_X8_wayBetween_1_ok (i := 10) rfl ?_
                    refine g_ior C tb_X8_wayBetween_1_ok (i := 11) rfl ?_
                    refine g_topi (fun v37 ev37 => ?_)
                    have h := lt_e ev37 h
                    refine g_istore C tb_X8_wayBetween_1_ok (i := 12) rfl rfl rfl ?_
                    exact g_less (L' := [some (.ref a0), none, some (.int a2), some (.int v10), some (.int v11), some (.int v37), some (.int v19)]) ⟨rfl, ⟨rfl, ⟨rfl, ⟨rfl, ⟨rfl, ⟨rfl, trivial⟩⟩⟩⟩⟩⟩ (J93 v37 h)
          · have h := f17 c
            refine g_iload C tb_X8_wayBetween_0_ok (i := 25) rfl rfl ?_
            cases h
            exact g_iret0 C R tb_X8_wayBetween_0_ok (i := 26) rfl
    · have h := f8 c
      exact g_less (L' := [none, none, none, none, none, none, none]) trivial (J16 () h)
def f_X11_way (y : Lay) (a0 : Nat) (a1 : Int32) (a2 : Int32) (M : Mem) : Option (Nat × Int32 × Mem) := gK y a0 (0, 11) (cx (f_X11_needCell y a0 a1 M) fun (r2 : Int32) (M3 : Mem) => cx (f_X11_needCell y a0 a2 M3) fun (r4 : Int32) (M5 : Mem) => gN (y.2.1 a0 3) (gK y (y.2.1 a0 3) (0, 4) (gN (y.2.1 (y.2.1 a0 3) 0) (gK y (y.2.1 (y.2.1 a0 3) 0) (0, 8) (cp (f_X8_wayBetween y (y.2.1 (y.2.1 a0 3) 0) a1 a2 M5) fun (r10 : Int32) => some (0, r10, M5))))))
theorem w_X11_way {g : GX} {l : Launch} (hG : GF g l) (y : Lay) (a0 : Nat) (a1 : Int32) (a2 : Int32) (M : Mem) : C1 g l yX11_way cX11_way 3 (some .int) 2 2 12 y [.ref a0, .int a1, .int a2] M (f_X11_way y a0 a1 a2 M) := by
  refine C1_of hG (by decide) [some (.ref a0), some (.int a1), some (.int a2)] rfl rfl (fun out h x Q C R => ?_)
  unfold f_X11_way at h
  refine g_aload_n C tb_X11_way_0_ok (i := 0) rfl rfl ?_
  refine g_iload_n C tb_X11_way_0_ok (i := 1) rfl rfl ?_
  obtain ⟨k1, h⟩ := gK_e h
  refine g_callV1 C tb_X11_way_0_ok (i := 2) R [.int a1] rfl mw_X11_needCell mv_X11_needCell ml_X11_179 k1 rfl rfl rfl rfl (w_X11_needCell C.G y a0 a1 M) h rfl rfl rfl (fun r2 M3 h => ?_)
  refine g_aload_n C tb_X11_way_0_ok (i := 3) rfl rfl ?_
  refine g_iload_n C tb_X11_way_0_ok (i := 4) rfl rfl ?_
  refine g_callV1 C tb_X11_way_0_ok (i := 5) R [.int a2] rfl mw_X11_needCell mv_X11_needCell ml_X11_179 k1 rfl rfl rfl rfl (w_X11_needCell C.G y a0 a2 M3) h rfl rfl rfl (fun r4 M5 h => ?_)
  refine g_aload_n C tb_X11_way_0_ok (i := 6) rfl rfl ?_
  obtain ⟨n6, h⟩ := gN_e h
  refine g_getR C tb_X11_way_0_ok (i := 7) rfl fl_X11_37 rfl k1 n6 ?_
  obtain ⟨k7, h⟩ := gK_e h
  obtain ⟨n8, h⟩ := gN_e h
  refine g_getR C tb_X11_way_0_ok (i := 8) rfl fl_X11_53 rfl k7 n8 ?_
  refine g_iload_n C tb_X11_way_0_ok (i := 9) rfl rfl ?_
  refine g_iload_n C tb_X11_way_0_ok (i := 10) rfl rfl ?_
  obtain ⟨k9, h⟩ := gK_e h
  obtain ⟨r10, er10, h⟩ := cp_e h
  refine g_callV0 C tb_X11_way_0_ok (i := 11) [.int a1, .int a2] rfl mw_X8_wayBetween mv_X8_wayBetween ml_X11_283 k9 rfl rfl rfl rfl (w_X8_wayBetween C.G y (y.2.1 (y.2.1 a0 3) 0) a1 a2 M5) (pm_s er10) rfl rfl rfl ?_
  cases h
  exact g_iret1 C R rfl rfl tb_X11_way_0_ok (i := 12) rfl
def f_X11_toStand (y : Lay) (a0 : Nat) (a1 : Int32) (a2 : Int32) (M : Mem) : Option (Nat × Int32 × Mem) := gK y a0 (0, 11) (cx (f_X11_needGirl y a0 a1 M) fun (r2 : Int32) (M3 : Mem) => cx (f_X11_needWhat y a0 a2 (1 : Int32) M3) fun (r4 : Int32) (M5 : Mem) => fixN (fun _ _ _ _ => none) (fun (s10 : Int32 → Int32 → Int32 → Mem → Option (Nat × Int32 × Mem)) (v6 : Int32) (v7 : Int32) (v8 : Int32) (M9 : Mem) => gN (y.2.1 a0 1) (gK y (y.2.1 a0 1) (0, 1) (cp (f_X1_cells y (y.2.1 a0 1) M9) fun (r14 : Int32) => br (r14 ≤ v8) (jn (fun (v17 : Int32) => some (0, v17, M9)) fun j18 => br (a2 = 0) (j18 v6) (j18 v7)) (c0 (f_X11_lookAhead y a0 (0 : Int32) M9) fun (r21 : Int32) (M22 : Mem) => gN (y.2.1 a0 5) (gK y (y.2.1 a0 5) (0, 8) (c0 (f_X8_setSpot y (y.2.1 a0 5) a1 v8 M22) fun (r25 : Int32) (M26 : Mem) => c0 (f_X8_passDay y (y.2.1 a0 5) M26) fun (r27 : Int32) (M28 : Mem) => cp (f_X8_uneven y (y.2.1 a0 5) M28) fun (r29 : Int32) => jn (fun (v30 : Int32) (v31 : Int32) => lt (v8 + (1 : Int32)) fun (v33 : Int32) => s10 v30 v31 v33 M28) fun j32 => br (v7 ≤ r29) (j32 v6 v7) (j32 v8 r29))))))) FUEL (0 : Int32) (1000000 : Int32) (0 : Int32) M5)
theorem w_X11_toStand {g : GX} {l : Launch} (hG : GF g l) (y : Lay) (a0 : Nat) (a1 : Int32) (a2 : Int32) (M : Mem) : C1 g l yX11_toStand cX11_toStand 7 (some .int) 6 2 12 y [.ref a0, .int a1, .int a2] M (f_X11_toStand y a0 a1 a2 M) := by
  refine C1_of hG (by decide) [some (.ref a0), some (.int a1), some (.int a2), none, none, none, none] rfl rfl (fun out h x Q C R => ?_)
  unfold f_X11_toStand at h
  refine g_aload_n C tb_X11_toStand_0_ok (i := 0) rfl rfl ?_
  refine g_iload_n C tb_X11_toStand_0_ok (i := 1) rfl rfl ?_
  obtain ⟨k1, h⟩ := gK_e h
  refine g_callV1 C tb_X11_toStand_0_ok (i := 2) R [.int a1] rfl mw_X11_needGirl mv_X11_needGirl ml_X11_195 k1 rfl rfl rfl rfl (w_X11_needGirl C.G y a0 a1 M) h rfl rfl rfl (fun r2 M3 h => ?_)
  refine g_aload_n C tb_X11_toStand_0_ok (i := 3) rfl rfl ?_
  refine g_iload_n C tb_X11_toStand_0_ok (i := 4) rfl rfl ?_
  refine g_iconstv C tb_X11_toStand_0_ok (i := 5) 1 rfl k_iconstv_1 ?_
  refine g_callV1 C tb_X11_toStand_0_ok (i := 6) R [.int a2, .int (1 : Int32)] rfl mw_X11_needWhat mv_X11_needWhat ml_X11_255 k1 rfl rfl rfl rfl (w_X11_needWhat C.G y a0 a2 (1 : Int32) M3) h rfl rfl rfl (fun r4 M5 h => ?_)
  refine g_iconstv C tb_X11_toStand_0_ok (i := 7) 0 rfl k_iconstv_0 ?_
  refine g_istore_n C tb_X11_toStand_0_ok (i := 8) rfl rfl rfl ?_
  refine g_ldcIw C tb_X11_toStand_0_ok (i := 9) rfl cl_X11_289 ?_
  refine g_istore C tb_X11_toStand_0_ok (i := 10) rfl rfl rfl ?_
  refine g_iconstv C tb_X11_toStand_0_ok (i := 11) 0 rfl k_iconstv_0 ?_
  refine g_istore C tb_X11_toStand_0_ok (i := 12) rfl rfl rfl ?_
  refine g_less (L' := [some (.ref a0), some (.int a1), some (.int a2), some (.int (0 : Int32)), some (.int (1000000 : Int32)), some (.int (0 : Int32)), none]) ⟨rfl, ⟨rfl, ⟨rfl, ⟨rfl, ⟨rfl, ⟨rfl, trivial⟩⟩⟩⟩⟩⟩ ?_
  refine fix_i (P := fun (f : Int32 → Int32 → Int32 → Mem → Option (Nat × Int32 × Mem)) => ∀ (v6 : Int32) (v7 : Int32) (v8 : Int32) (M9 : Mem), f v6 v7 v8 M9 = some out → GG g x 7 Q 2 12 y M9 21 [some (.ref a0), some (.int a1), some (.int a2), some (.int v6), some (.int v7), some (.int v8), none] []) ?_ ?_ _ (0 : Int32) (1000000 : Int32) (0 : Int32) M5 h
  · intro v6 v7 v8 M9 h; exact (nn_e h).elim
  · intro s10 ih11 v6 v7 v8 M9 h
    refine g_iload C tb_X11_toStand_0_ok (i := 13) rfl rfl ?_
    refine g_aload_n C tb_X11_toStand_0_ok (i := 14) rfl rfl ?_
    obtain ⟨n12, h⟩ := gN_e h
    refine g_getR C tb_X11_toStand_0_ok (i := 15) rfl fl_X11_19 rfl k1 n12 ?_
    obtain ⟨k13, h⟩ := gK_e h
    obtain ⟨r14, er14, h⟩ := cp_e h
    refine g_callV0 C tb_X11_toStand_0_ok (i := 16) [] rfl mw_X1_cells mv_X1_cells ml_X11_128 k13 rfl rfl rfl rfl (w_X1_cells C.G y (y.2.1 a0 1) M9) (pm_s er14) rfl rfl rfl ?_
    obtain ⟨t15, f16⟩ := br_e h
    refine g_icmp_ge C tb_X11_toStand_0_ok (i := 17) 84 rfl rfl (fun c => ?_) (fun c => ?_)
    · have h := t15 c
      refine g_iload_n C tb_X11_toStand_1_ok (i := 2) rfl rfl ?_
      obtain ⟨j18, ej18, h⟩ := jn_e h
      have J94 : ∀ (v17 : Int32), j18 v17 = some out → GG g x 7 Q 2 12 y M9 94 [none, none, none, none, none, none, none] [.int v17] := by
        intro v17 h; subst ej18
        cases h
        exact g_iret1 C R rfl rfl tb_X11_toStand_1_ok (i := 7) rfl
      obtain ⟨t19, f20⟩ := br_e h
      refine g_if_ne C tb_X11_toStand_1_ok (i := 3) 92 rfl rfl (fun c => ?_) (fun c => ?_)
      · have h := f20 c
        refine g_iload C tb_X11_toStand_1_ok (i := 6) rfl rfl ?_
        exact g_less (L' := [none, none, none, none, none, none, none]) trivial (J94 v7 h)
      · have h := t19 c
        refine g_iload_n C tb_X11_toStand_1_ok (i := 4) rfl rfl ?_
        refine g_goto C tb_X11_toStand_1_ok (i := 5) 94 rfl rfl ?_
        exact g_less (L' := [none, none, none, none, none, none, none]) trivial (J94 v6 h)
    · have h := f16 c
      refine g_aload_n C tb_X11_toStand_0_ok (i := 18) rfl rfl ?_
      refine g_iconstv C tb_X11_toStand_0_ok (i := 19) 0 rfl k_iconstv_0 ?_
      obtain ⟨r21, M22, er21, h⟩ := c0_e h
      refine g_callV0 C tb_X11_toStand_0_ok (i := 20) [.int (0 : Int32)] rfl mw_X11_lookAhead mv_X11_lookAhead ml_X11_252 k1 rfl rfl rfl rfl (w_X11_lookAhead C.G y a0 (0 : Int32) M9) er21 rfl rfl rfl ?_
      refine g_aload_n C tb_X11_toStand_0_ok (i := 21) rfl rfl ?_
      obtain ⟨n23, h⟩ := gN_e h
      refine g_getR C tb_X11_toStand_0_ok (i := 22) rfl fl_X11_47 rfl k1 n23 ?_
      refine g_iload_n C tb_X11_toStand_0_ok (i := 23) rfl rfl ?_
      refine g_iload C tb_X11_toStand_0_ok (i := 24) rfl rfl ?_
      obtain ⟨k24, h⟩ := gK_e h
      obtain ⟨r25, M26, er25, h⟩ := c0_e h
      refine g_callV0 C tb_X11_toStand_0_ok (i := 25) [.int a1, .int v8] rfl mw_X8_setSpot mv_X8_setSpot ml_X11_231 k24 rfl rfl rfl rfl (w_X8_setSpot C.G y (y.2.1 a0 5) a1 v8 M22) er25 rfl rfl rfl ?_
      refine g_aload_n C tb_X11_toStand_0_ok (i := 26) rfl rfl ?_
      refine g_getR C tb_X11_toStand_0_ok (i := 27) rfl fl_X11_47 rfl k1 n23 ?_
      obtain ⟨r27, M28, er27, h⟩ := c0_e h
      refine g_callV0 C tb_X11_toStand_0_ok (i := 28) [] rfl mw_X8_passDay mv_X8_passDay ml_X11_221 k24 rfl rfl rfl rfl (w_X8_passDay C.G y (y.2.1 a0 5) M26) er27 rfl rfl rfl ?_
      refine g_aload_n C tb_X11_toStand_0_ok (i := 29) rfl rfl ?_
      refine g_getR C tb_X11_toStand_0_ok (i := 30) rfl fl_X11_47 rfl k1 n23 ?_
      obtain ⟨r29, er29, h⟩ := cp_e h
      refine g_callV0 C tb_X11_toStand_0_ok (i := 31) [] rfl mw_X8_uneven mv_X8_uneven ml_X11_258 k24 rfl rfl rfl rfl (w_X8_uneven C.G y (y.2.1 a0 5) M28) (pm_s er29) rfl rfl rfl ?_
      refine g_istore C tb_X11_toStand_0_ok (i := 32) rfl rfl rfl ?_
      refine g_iload C tb_X11_toStand_0_ok (i := 33) rfl rfl ?_
      refine g_iload C tb_X11_toStand_0_ok (i := 34) rfl rfl ?_
      obtain ⟨j32, ej32, h⟩ := jn_e h
      have J78 : ∀ (v30 : Int32) (v31 : Int32), j32 v30 v31 = some out → GG g x 7 Q 2 12 y M28 78 [some (.ref a0), some (.int a1), some (.int a2), some (.int v30), some (.int v31), some (.int v8), none] [] := by
        intro v30 v31 h; subst ej32
        obtain ⟨v33, ev33⟩ : ∃ w : Int32, w = v8 + (1 : Int32) := ⟨_, rfl⟩
        have h := lt_e ev33 h
        refine g_iincv C tb_X11_toStand_1_ok (i := 0) (1 : Int32) ev33 rfl rfl k_iconstv_1 rfl rfl ?_
        refine g_goto C tb_X11_toStand_1_ok (i := 1) 21 rfl rfl ?_
        exact g_less (L' := [some (.ref a0), some (.int a1), some (.int a2), some (.int v30), some (.int v31), some (.int v33), none]) ⟨rfl, ⟨rfl, ⟨rfl, ⟨rfl, ⟨rfl, ⟨rfl, trivial⟩⟩⟩⟩⟩⟩ (ih11 v30 v31 v33 M28 h)
      obtain ⟨t34, f35⟩ := br_e h
      refine g_icmp_ge C tb_X11_toStand_0_ok (i := 35) 78 rfl rfl (fun c => ?_) (fun c => ?_)
      · have h := t34 c
        exact g_less (L' := [some (.ref a0), some (.int a1), some (.int a2), some (.int v6), some (.int v7), some (.int v8), none]) ⟨rfl, ⟨rfl, ⟨rfl, ⟨rfl, ⟨rfl, ⟨rfl, trivial⟩⟩⟩⟩⟩⟩ (J78 v6 v7 h)
      · have h := f35 c
        refine g_iload C tb_X11_toStand_0_ok (i := 36) rfl rfl ?_
        refine g_istore C tb_X11_toStand_0_ok (i := 37) rfl rfl rfl ?_
        refine g_iload C tb_X11_toStand_0_ok (i := 38) rfl rfl ?_
        refine g_istore_n C tb_X11_toStand_0_ok (i := 39) rfl rfl rfl ?_
        exact g_less (L' := [some (.ref a0), some (.int a1), some (.int a2), some (.int v8), some (.int r29), some (.int v8), none]) ⟨rfl, ⟨rfl, ⟨rfl, ⟨rfl, ⟨rfl, ⟨rfl, trivial⟩⟩⟩⟩⟩⟩ (J78 v8 r29 h)
def f_X11_toSwish (y : Lay) (a0 : Nat) (a1 : Int32) (a2 : Int32) (M : Mem) : Option (Nat × Int32 × Mem) := gK y a0 (0, 11) (cx (f_X11_needGirl y a0 a1 M) fun (r2 : Int32) (M3 : Mem) => cx (f_X11_needWithin y a0 a2 (0 : Int32) (99 : Int32) M3) fun (r4 : Int32) (M5 : Mem) => c0 (f_X11_lookAhead y a0 (0 : Int32) M5) fun (r6 : Int32) (M7 : Mem) => gN (y.2.1 a0 5) (gK y (y.2.1 a0 5) (0, 8) (cp (f_X8_spotOf y (y.2.1 a0 5) a1 M7) fun (r10 : Int32) => fixN (fun _ _ => none) (fun (s13 : Int32 → Mem → Option (Nat × Int32 × Mem)) (v11 : Int32) (M12 : Mem) => br ((20 : Int32) < v11) (some (0, ((-1) : Int32), M12)) (cp (f_X8_blueOf y (y.2.1 a0 5) r10 M12) fun (r17 : Int32) => br (r17 < a2) (c0 (f_X8_swish y (y.2.1 a0 5) a1 (M12.1 (y.2.1 a0 5) 9) M12) fun (r20 : Int32) (M21 : Mem) => lt (v11 + (1 : Int32)) fun (v22 : Int32) => s13 v22 M21) (some (0, v11, M12)))) FUEL (0 : Int32) M7)))
theorem w_X11_toSwish {g : GX} {l : Launch} (hG : GF g l) (y : Lay) (a0 : Nat) (a1 : Int32) (a2 : Int32) (M : Mem) : C1 g l yX11_toSwish cX11_toSwish 5 (some .int) 6 2 12 y [.ref a0, .int a1, .int a2] M (f_X11_toSwish y a0 a1 a2 M) := by
  refine C1_of hG (by decide) [some (.ref a0), some (.int a1), some (.int a2), none, none] rfl rfl (fun out h x Q C R => ?_)
  unfold f_X11_toSwish at h
  refine g_aload_n C tb_X11_toSwish_0_ok (i := 0) rfl rfl ?_
  refine g_iload_n C tb_X11_toSwish_0_ok (i := 1) rfl rfl ?_
  obtain ⟨k1, h⟩ := gK_e h
  refine g_callV1 C tb_X11_toSwish_0_ok (i := 2) R [.int a1] rfl mw_X11_needGirl mv_X11_needGirl ml_X11_195 k1 rfl rfl rfl rfl (w_X11_needGirl C.G y a0 a1 M) h rfl rfl rfl (fun r2 M3 h => ?_)
  refine g_aload_n C tb_X11_toSwish_0_ok (i := 3) rfl rfl ?_
  refine g_iload_n C tb_X11_toSwish_0_ok (i := 4) rfl rfl ?_
  refine g_iconstv C tb_X11_toSwish_0_ok (i := 5) 0 rfl k_iconstv_0 ?_
  refine g_bipushv C tb_X11_toSwish_0_ok (i := 6) 99 rfl k_bipushv_99 ?_
  refine g_callV1 C tb_X11_toSwish_0_ok (i := 7) R [.int a2, .int (0 : Int32), .int (99 : Int32)] rfl mw_X11_needWithin mv_X11_needWithin ml_X11_248 k1 rfl rfl rfl rfl (w_X11_needWithin C.G y a0 a2 (0 : Int32) (99 : Int32) M3) h rfl rfl rfl (fun r4 M5 h => ?_)
  refine g_aload_n C tb_X11_toSwish_0_ok (i := 8) rfl rfl ?_
  refine g_iconstv C tb_X11_toSwish_0_ok (i := 9) 0 rfl k_iconstv_0 ?_
  obtain ⟨r6, M7, er6, h⟩ := c0_e h
  refine g_callV0 C tb_X11_toSwish_0_ok (i := 10) [.int (0 : Int32)] rfl mw_X11_lookAhead mv_X11_lookAhead ml_X11_252 k1 rfl rfl rfl rfl (w_X11_lookAhead C.G y a0 (0 : Int32) M5) er6 rfl rfl rfl ?_
  refine g_aload_n C tb_X11_toSwish_0_ok (i := 11) rfl rfl ?_
  obtain ⟨n8, h⟩ := gN_e h
  refine g_getR C tb_X11_toSwish_0_ok (i := 12) rfl fl_X11_47 rfl k1 n8 ?_
  refine g_iload_n C tb_X11_toSwish_0_ok (i := 13) rfl rfl ?_
  obtain ⟨k9, h⟩ := gK_e h
  obtain ⟨r10, er10, h⟩ := cp_e h
  refine g_callV0 C tb_X11_toSwish_0_ok (i := 14) [.int a1] rfl mw_X8_spotOf mv_X8_spotOf ml_X11_201 k9 rfl rfl rfl rfl (w_X8_spotOf C.G y (y.2.1 a0 5) a1 M7) (pm_s er10) rfl rfl rfl ?_
  refine g_istore_n C tb_X11_toSwish_0_ok (i := 15) rfl rfl rfl ?_
  refine g_iconstv C tb_X11_toSwish_0_ok (i := 16) 0 rfl k_iconstv_0 ?_
  refine g_istore C tb_X11_toSwish_0_ok (i := 17) rfl rfl rfl ?_
  refine g_less (L' := [some (.ref a0), some (.int a1), some (.int a2), some (.int r10), some (.int (0 : Int32))]) ⟨rfl, ⟨rfl, ⟨rfl, ⟨rfl, ⟨rfl, trivial⟩⟩⟩⟩⟩ ?_
  refine fix_i (P := fun (f : Int32 → Mem → Option (Nat × Int32 × Mem)) => ∀ (v11 : Int32) (M12 : Mem), f v11 M12 = some out → GG g x 5 Q 2 12 y M12 30 [some (.ref a0), some (.int a1), some (.int a2), some (.int r10), some (.int v11)] []) ?_ ?_ _ (0 : Int32) M7 h
  · intro v11 M12 h; exact (nn_e h).elim
  · intro s13 ih14 v11 M12 h
    refine g_iload C tb_X11_toSwish_0_ok (i := 18) rfl rfl ?_
    refine g_bipushv C tb_X11_toSwish_0_ok (i := 19) 20 rfl k_bipushv_20 ?_
    obtain ⟨t15, f16⟩ := br_e h
    refine g_icmp_gt C tb_X11_toSwish_0_ok (i := 20) 73 rfl rfl (fun c => ?_) (fun c => ?_)
    · have h := t15 c
      refine g_iconstv C tb_X11_toSwish_0_ok (i := 38) (-1) rfl k_iconstv_m1 ?_
      cases h
      exact g_iret1 C R rfl rfl tb_X11_toSwish_0_ok (i := 39) rfl
    · have h := f16 c
      refine g_aload_n C tb_X11_toSwish_0_ok (i := 21) rfl rfl ?_
      refine g_getR C tb_X11_toSwish_0_ok (i := 22) rfl fl_X11_47 rfl k1 n8 ?_
      refine g_iload_n C tb_X11_toSwish_0_ok (i := 23) rfl rfl ?_
      obtain ⟨r17, er17, h⟩ := cp_e h
      refine g_callV0 C tb_X11_toSwish_0_ok (i := 24) [.int r10] rfl mw_X8_blueOf mv_X8_blueOf ml_X11_182 k9 rfl rfl rfl rfl (w_X8_blueOf C.G y (y.2.1 a0 5) r10 M12) (pm_s er17) rfl rfl rfl ?_
      refine g_iload_n C tb_X11_toSwish_0_ok (i := 25) rfl rfl ?_
      obtain ⟨t18, f19⟩ := br_e h
      refine g_icmp_lt C tb_X11_toSwish_0_ok (i := 26) 52 rfl rfl (fun c => ?_) (fun c => ?_)
      · have h := t18 c
        refine g_aload_n C tb_X11_toSwish_0_ok (i := 29) rfl rfl ?_
        refine g_getR C tb_X11_toSwish_0_ok (i := 30) rfl fl_X11_47 rfl k1 n8 ?_
        refine g_iload_n C tb_X11_toSwish_0_ok (i := 31) rfl rfl ?_
        refine g_aload_n C tb_X11_toSwish_0_ok (i := 32) rfl rfl ?_
        refine g_getR C tb_X11_toSwish_0_ok (i := 33) rfl fl_X11_47 rfl k1 n8 ?_
        refine g_getI C tb_X11_toSwish_0_ok (i := 34) rfl fl_X11_140 rfl k9 ?_
        obtain ⟨r20, M21, er20, h⟩ := c0_e h
        refine g_callV0 C tb_X11_toSwish_0_ok (i := 35) [.int a1, .int (M12.1 (y.2.1 a0 5) 9)] rfl mw_X8_swish mv_X8_swish ml_X11_293 k9 rfl rfl rfl rfl (w_X8_swish C.G y (y.2.1 a0 5) a1 (M12.1 (y.2.1 a0 5) 9) M12) er20 rfl rfl rfl ?_
        obtain ⟨v22, ev22⟩ : ∃ w : Int32, w = v11 + (1 : Int32) := ⟨_, rfl⟩
        have h := lt_e ev22 h
        refine g_iincv C tb_X11_toSwish_0_ok (i := 36) (1 : Int32) ev22 rfl rfl k_iconstv_1 rfl rfl ?_
        refine g_goto C tb_X11_toSwish_0_ok (i := 37) 30 rfl rfl ?_
        exact g_less (L' := [some (.ref a0), some (.int a1), some (.int a2), some (.int r10), some (.int v22)]) ⟨rfl, ⟨rfl, ⟨rfl, ⟨rfl, ⟨rfl, trivial⟩⟩⟩⟩⟩ (ih14 v22 M21 h)
      · have h := f19 c
        refine g_iload C tb_X11_toSwish_0_ok (i := 27) rfl rfl ?_
        cases h
        exact g_iret1 C R rfl rfl tb_X11_toSwish_0_ok (i := 28) rfl
def f_X1_stepsBetween (y : Lay) (a0 : Nat) (a1 : Int32) (a2 : Int32) (M : Mem) : Option Int32 := gK y a0 (0, 1) (cp (f_X1_rowOf y a0 a1 M) fun (r2 : Int32) => cp (f_X1_rowOf y a0 a2 M) fun (r3 : Int32) => cp (f_X1_columnOf y a0 a1 M) fun (r4 : Int32) => cp (f_X1_columnOf y a0 a2 M) fun (r5 : Int32) => some ((jabs (r2 - r3)) + (jabs (r4 - r5))))
theorem w_X1_stepsBetween {g : GX} {l : Launch} (hG : GF g l) (y : Lay) (a0 : Nat) (a1 : Int32) (a2 : Int32) (M : Mem) : C0 g l yX1_stepsBetween cX1_stepsBetween 3 (some .int) 1 y [.ref a0, .int a1, .int a2] M (pm M (f_X1_stepsBetween y a0 a1 a2 M)) := by
  refine CP_of hG (by decide) [some (.ref a0), some (.int a1), some (.int a2)] rfl rfl (fun out h x Q C R => ?_)
  unfold f_X1_stepsBetween at h
  refine g_aload_n C tb_X1_stepsBetween_0_ok (i := 0) rfl rfl ?_
  refine g_iload_n C tb_X1_stepsBetween_0_ok (i := 1) rfl rfl ?_
  obtain ⟨k1, h⟩ := gK_e h
  obtain ⟨r2, er2, h⟩ := cp_e h
  refine g_callV0 C tb_X1_stepsBetween_0_ok (i := 2) [.int a1] rfl mw_X1_rowOf mv_X1_rowOf ml_X1_69 k1 rfl rfl rfl rfl (w_X1_rowOf C.G y a0 a1 M) (pm_s er2) rfl rfl rfl ?_
  refine g_aload_n C tb_X1_stepsBetween_0_ok (i := 3) rfl rfl ?_
  refine g_iload_n C tb_X1_stepsBetween_0_ok (i := 4) rfl rfl ?_
  obtain ⟨r3, er3, h⟩ := cp_e h
  refine g_callV0 C tb_X1_stepsBetween_0_ok (i := 5) [.int a2] rfl mw_X1_rowOf mv_X1_rowOf ml_X1_69 k1 rfl rfl rfl rfl (w_X1_rowOf C.G y a0 a2 M) (pm_s er3) rfl rfl rfl ?_
  refine g_isub C tb_X1_stepsBetween_0_ok (i := 6) rfl ?_
  refine g_abs C tb_X1_stepsBetween_0_ok (i := 7) rfl mt_X1_72 rfl rfl rfl ?_
  refine g_aload_n C tb_X1_stepsBetween_0_ok (i := 8) rfl rfl ?_
  refine g_iload_n C tb_X1_stepsBetween_0_ok (i := 9) rfl rfl ?_
  obtain ⟨r4, er4, h⟩ := cp_e h
  refine g_callV0 C tb_X1_stepsBetween_0_ok (i := 10) [.int a1] rfl mw_X1_columnOf mv_X1_columnOf ml_X1_62 k1 rfl rfl rfl rfl (w_X1_columnOf C.G y a0 a1 M) (pm_s er4) rfl rfl rfl ?_
  refine g_aload_n C tb_X1_stepsBetween_0_ok (i := 11) rfl rfl ?_
  refine g_iload_n C tb_X1_stepsBetween_0_ok (i := 12) rfl rfl ?_
  obtain ⟨r5, er5, h⟩ := cp_e h
  refine g_callV0 C tb_X1_stepsBetween_0_ok (i := 13) [.int a2] rfl mw_X1_columnOf mv_X1_columnOf ml_X1_62 k1 rfl rfl rfl rfl (w_X1_columnOf C.G y a0 a2 M) (pm_s er5) rfl rfl rfl ?_
  refine g_isub C tb_X1_stepsBetween_0_ok (i := 14) rfl ?_
  refine g_abs C tb_X1_stepsBetween_0_ok (i := 15) rfl mt_X1_72 rfl rfl rfl ?_
  refine g_iadd C tb_X1_stepsBetween_0_ok (i := 16) rfl ?_
  cases h
  exact g_iret0 C R tb_X1_stepsBetween_0_ok (i := 17) rfl
def f_X7_fillB (R : Lay → Nat → Int32 → Int32 → Int32 → Mem → Option (Int32 × Mem)) (y : Lay) (a0 : Nat) (a1 : Int32) (a2 : Int32) (a3 : Int32) (M : Mem) : Option (Int32 × Mem) := gK y a0 (0, 7) (br (a3 < (M.1 a0 5)) (jn (fun (_u : Unit) => lt (wI M a0 5 a3) fun (M5 : Mem) => gN (y.2.1 a0 1) (gN (y.2.1 a0 2) (gC y (y.2.1 a0 1) (y.2.1 a0 2) (0 : Int32) (0 : Int32) (6 : Int32) (lt (cpI M5 (y.2.1 a0 1) (y.2.1 a0 2) (0 : Int32).toNatClampNeg (0 : Int32).toNatClampNeg (6 : Int32).toNatClampNeg) fun (M9 : Mem) => some (0, M9))))) fun j4 => br ((M.1 a0 4) ≤ a1) (j4 ()) (br (a1 < (6 : Int32)) (fixN (fun _ _ => none) (fun (s16 : Int32 → Mem → Option (Int32 × Mem)) (v14 : Int32) (M15 : Mem) => gN (y.2.1 a0 3) (gK y (y.2.1 a0 3) (0, 8) (gN (y.2.1 (y.2.1 a0 3) 0) (gK y (y.2.1 (y.2.1 a0 3) 0) (0, 1) (br ((M15.1 (y.2.1 (y.2.1 a0 3) 0) 4) ≤ v14) (some (0, M15)) (jn (fun (M24 : Mem) => lt (v14 + (1 : Int32)) fun (v26 : Int32) => s16 v26 M24) fun j25 => br (((a2 >>> (v14 &&& 31)) &&& (1 : Int32)) = 0) (gN (y.2.1 a0 1) (gA y (y.2.1 a0 1) 1 a1 (lt (wI M15 (y.2.1 a0 1) a1.toNatClampNeg v14) fun (M31 : Mem) => cp (f_X8_spotOf y (y.2.1 a0 3) v14 M31) fun (r32 : Int32) => gN (y.2.1 a0 0) (gA y (y.2.1 a0 0) 1 a1 (cp (f_X1_stepsBetween y (y.2.1 (y.2.1 a0 3) 0) r32 (M31.1 (y.2.1 a0 0) a1.toNatClampNeg) M31) fun (r35 : Int32) => c0 (R y a0 (a1 + (1 : Int32)) (a2 ||| ((1 : Int32) <<< (v14 &&& 31))) (a3 + r35) M31) fun (r36 : Int32) (M37 : Mem) => j25 M37))))) (j25 M15))))))) FUEL (0 : Int32) M) (j4 ()))) (some (0, M)))
theorem w_X7_fillB {g : GX} {n : Nat} {R : Lay → Nat → Int32 → Int32 → Int32 → Mem → Option (Int32 × Mem)} (hR : ∀ l : Launch, GF g l → ∀ (y : Lay) (a0 : Nat) (a1 : Int32) (a2 : Int32) (a3 : Int32) (M : Mem), C0 g l yX7_fill cX7_fill 5 none (2 + 1 * n) y [.ref a0, .int a1, .int a2, .int a3] M (R y a0 a1 a2 a3 M)) {l : Launch} (hG : GF g l) (y : Lay) (a0 : Nat) (a1 : Int32) (a2 : Int32) (a3 : Int32) (M : Mem) : C0 g l yX7_fill cX7_fill 5 none (2 + 1 * n + 1) y [.ref a0, .int a1, .int a2, .int a3] M (f_X7_fillB R y a0 a1 a2 a3 M) := by
  refine C0_of hG (by decide) [some (.ref a0), some (.int a1), some (.int a2), some (.int a3), none] rfl rfl (fun out h x Q C R0 => ?_)
  unfold f_X7_fillB at h
  refine g_iload_n C tb_X7_fill_0_ok (i := 0) rfl rfl ?_
  refine g_aload_n C tb_X7_fill_0_ok (i := 1) rfl rfl ?_
  obtain ⟨k1, h⟩ := gK_e h
  refine g_getI C tb_X7_fill_0_ok (i := 2) rfl fl_X7_41 rfl k1 ?_
  obtain ⟨t2, f3⟩ := br_e h
  refine g_icmp_lt C tb_X7_fill_0_ok (i := 3) 9 rfl rfl (fun c => ?_) (fun c => ?_)
  · have h := t2 c
    refine g_iload_n C tb_X7_fill_0_ok (i := 5) rfl rfl ?_
    refine g_aload_n C tb_X7_fill_0_ok (i := 6) rfl rfl ?_
    refine g_getI C tb_X7_fill_0_ok (i := 7) rfl fl_X7_25 rfl k1 ?_
    obtain ⟨j4, ej4, h⟩ := jn_e h
    have J23 : ∀ (_u : Unit), j4 _u = some out → GG g x 5 Q 0 0 y M 23 [some (.ref a0), none, none, some (.int a3), none] [] := by
      intro _u h; subst ej4
      refine g_aload_n C tb_X7_fill_0_ok (i := 12) rfl rfl ?_
      refine g_iload_n C tb_X7_fill_0_ok (i := 13) rfl rfl ?_
      refine g_putI C tb_X7_fill_0_ok (i := 14) rfl fl_X7_41 ft_7_5 rfl k1 ?_
      refine g_mem (fun M5 eM5 => ?_)
      have h := lt_e eM5 h
      refine g_aload_n C tb_X7_fill_0_ok (i := 15) rfl rfl ?_
      obtain ⟨n6, h⟩ := gN_e h
      refine g_getR C tb_X7_fill_0_ok (i := 16) rfl fl_X7_15 rfl k1 n6 ?_
      refine g_iconstv C tb_X7_fill_0_ok (i := 17) 0 rfl k_iconstv_0 ?_
      refine g_aload_n C tb_X7_fill_0_ok (i := 18) rfl rfl ?_
      obtain ⟨n7, h⟩ := gN_e h
      refine g_getR C tb_X7_fill_0_ok (i := 19) rfl fl_X7_18 rfl k1 n7 ?_
      refine g_iconstv C tb_X7_fill_0_ok (i := 20) 0 rfl k_iconstv_0 ?_
      refine g_bipushv C tb_X7_fill_0_ok (i := 21) 6 rfl k_bipushv_6 ?_
      obtain ⟨b8, h⟩ := gC_e h
      refine g_copy C tb_X7_fill_0_ok (i := 22) rfl mt_X7_48 rfl b8 ?_
      refine g_mem (fun M9 eM9 => ?_)
      have h := lt_e eM9 h
      cases h
      exact g_vret0 C R0 tb_X7_fill_0_ok (i := 23) rfl
    obtain ⟨t10, f11⟩ := br_e h
    refine g_icmp_ge C tb_X7_fill_0_ok (i := 8) 23 rfl rfl (fun c => ?_) (fun c => ?_)
    · have h := t10 c
      exact g_less (L' := [some (.ref a0), none, none, some (.int a3), none]) ⟨rfl, ⟨rfl, trivial⟩⟩ (J23 () h)
    · have h := f11 c
      refine g_iload_n C tb_X7_fill_0_ok (i := 9) rfl rfl ?_
      refine g_bipushv C tb_X7_fill_0_ok (i := 10) 6 rfl k_bipushv_6 ?_
      obtain ⟨t12, f13⟩ := br_e h
      refine g_icmp_lt C tb_X7_fill_0_ok (i := 11) 44 rfl rfl (fun c => ?_) (fun c => ?_)
      · have h := t12 c
        refine g_iconstv C tb_X7_fill_0_ok (i := 24) 0 rfl k_iconstv_0 ?_
        refine g_istore C tb_X7_fill_0_ok (i := 25) rfl rfl rfl ?_
        refine g_less (L' := [some (.ref a0), some (.int a1), some (.int a2), some (.int a3), some (.int (0 : Int32))]) ⟨rfl, ⟨rfl, ⟨rfl, ⟨rfl, ⟨rfl, trivial⟩⟩⟩⟩⟩ ?_
        refine fix_i (P := fun (f : Int32 → Mem → Option (Int32 × Mem)) => ∀ (v14 : Int32) (M15 : Mem), f v14 M15 = some out → GG g x 5 Q 0 0 y M15 47 [some (.ref a0), some (.int a1), some (.int a2), some (.int a3), some (.int v14)] []) ?_ ?_ _ (0 : Int32) M h
        · intro v14 M15 h; exact (nn_e h).elim
        · intro s16 ih17 v14 M15 h
          refine g_iload C tb_X7_fill_0_ok (i := 26) rfl rfl ?_
          refine g_aload_n C tb_X7_fill_0_ok (i := 27) rfl rfl ?_
          obtain ⟨n18, h⟩ := gN_e h
          refine g_getR C tb_X7_fill_0_ok (i := 28) rfl fl_X7_21 rfl k1 n18 ?_
          obtain ⟨k19, h⟩ := gK_e h
          obtain ⟨n20, h⟩ := gN_e h
          refine g_getR C tb_X7_fill_0_ok (i := 29) rfl fl_X7_29 rfl k19 n20 ?_
          obtain ⟨k21, h⟩ := gK_e h
          refine g_getI C tb_X7_fill_0_ok (i := 30) rfl fl_X7_35 rfl k21 ?_
          obtain ⟨t22, f23⟩ := br_e h
          refine g_icmp_ge C tb_X7_fill_0_ok (i := 31) 125 rfl rfl (fun c => ?_) (fun c => ?_)
          · have h := t22 c
            cases h
            exact g_vret0 C R0 tb_X7_fill_1_ok (i := 29) rfl
          · have h := f23 c
            refine g_iload_n C tb_X7_fill_0_ok (i := 32) rfl rfl ?_
            refine g_iload C tb_X7_fill_0_ok (i := 33) rfl rfl ?_
            refine g_ishr C tb_X7_fill_0_ok (i := 34) rfl ?_
            refine g_iconstv C tb_X7_fill_0_ok (i := 35) 1 rfl k_iconstv_1 ?_
            refine g_iand C tb_X7_fill_0_ok (i := 36) rfl ?_
            obtain ⟨j25, ej25, h⟩ := jn_e h
            have J119 : ∀ (M24 : Mem), j25 M24 = some out → GG g x 5 Q 0 0 y M24 119 [some (.ref a0), some (.int a1), some (.int a2), some (.int a3), some (.int v14)] [] := by
              intro M24 h; subst ej25
              obtain ⟨v26, ev26⟩ : ∃ w : Int32, w = v14 + (1 : Int32) := ⟨_, rfl⟩
              have h := lt_e ev26 h
              refine g_iincv C tb_X7_fill_1_ok (i := 27) (1 : Int32) ev26 rfl rfl k_iconstv_1 rfl rfl ?_
              refine g_goto C tb_X7_fill_1_ok (i := 28) 47 rfl rfl ?_
              exact g_less (L' := [some (.ref a0), some (.int a1), some (.int a2), some (.int a3), some (.int v26)]) ⟨rfl, ⟨rfl, ⟨rfl, ⟨rfl, ⟨rfl, trivial⟩⟩⟩⟩⟩ (ih17 v26 M24 h)
            obtain ⟨t27, f28⟩ := br_e h
            refine g_if_ne C tb_X7_fill_0_ok (i := 37) 119 rfl rfl (fun c => ?_) (fun c => ?_)
            · have h := f28 c
              exact g_less (L' := [some (.ref a0), some (.int a1), some (.int a2), some (.int a3), some (.int v14)]) ⟨rfl, ⟨rfl, ⟨rfl, ⟨rfl, ⟨rfl, trivial⟩⟩⟩⟩⟩ (J119 M15 h)
            · have h := t27 c
              refine g_aload_n C tb_X7_fill_0_ok (i := 38) rfl rfl ?_
              obtain ⟨n29, h⟩ := gN_e h
              refine g_getR C tb_X7_fill_0_ok (i := 39) rfl fl_X7_15 rfl k1 n29 ?_
              refine g_iload_n C tb_X7_fill_1_ok (i := 0) rfl rfl ?_
              refine g_iload C tb_X7_fill_1_ok (i := 1) rfl rfl ?_
              obtain ⟨b30, h⟩ := gA_e h
              refine g_iast C tb_X7_fill_1_ok (i := 2) rfl b30 ?_
              refine g_mem (fun M31 eM31 => ?_)
              have h := lt_e eM31 h
              refine g_aload_n C tb_X7_fill_1_ok (i := 3) rfl rfl ?_
              refine g_iload_n C tb_X7_fill_1_ok (i := 4) rfl rfl ?_
              refine g_iconstv C tb_X7_fill_1_ok (i := 5) 1 rfl k_iconstv_1 ?_
              refine g_iadd C tb_X7_fill_1_ok (i := 6) rfl ?_
              refine g_iload_n C tb_X7_fill_1_ok (i := 7) rfl rfl ?_
              refine g_iconstv C tb_X7_fill_1_ok (i := 8) 1 rfl k_iconstv_1 ?_
              refine g_iload C tb_X7_fill_1_ok (i := 9) rfl rfl ?_
              refine g_ishl C tb_X7_fill_1_ok (i := 10) rfl ?_
              refine g_ior C tb_X7_fill_1_ok (i := 11) rfl ?_
              refine g_iload_n C tb_X7_fill_1_ok (i := 12) rfl rfl ?_
              refine g_aload_n C tb_X7_fill_1_ok (i := 13) rfl rfl ?_
              refine g_getR C tb_X7_fill_1_ok (i := 14) rfl fl_X7_21 rfl k1 n18 ?_
              refine g_getR C tb_X7_fill_1_ok (i := 15) rfl fl_X7_29 rfl k19 n20 ?_
              refine g_aload_n C tb_X7_fill_1_ok (i := 16) rfl rfl ?_
              refine g_getR C tb_X7_fill_1_ok (i := 17) rfl fl_X7_21 rfl k1 n18 ?_
              refine g_iload C tb_X7_fill_1_ok (i := 18) rfl rfl ?_
              obtain ⟨r32, er32, h⟩ := cp_e h
              refine g_callV0 C tb_X7_fill_1_ok (i := 19) [.int v14] rfl mw_X8_spotOf mv_X8_spotOf ml_X7_54 k19 (bl (by omega)) rfl rfl rfl (w_X8_spotOf C.G y (y.2.1 a0 3) v14 M31) (pm_s er32) rfl rfl rfl ?_
              refine g_aload_n C tb_X7_fill_1_ok (i := 20) rfl rfl ?_
              obtain ⟨n33, h⟩ := gN_e h
              refine g_getR C tb_X7_fill_1_ok (i := 21) rfl fl_X7_9 rfl k1 n33 ?_
              refine g_iload_n C tb_X7_fill_1_ok (i := 22) rfl rfl ?_
              obtain ⟨b34, h⟩ := gA_e h
              refine g_iald C tb_X7_fill_1_ok (i := 23) rfl b34 ?_
              obtain ⟨r35, er35, h⟩ := cp_e h
              refine g_callV0 C tb_X7_fill_1_ok (i := 24) [.int r32, .int (M31.1 (y.2.1 a0 0) a1.toNatClampNeg)] rfl mw_X1_stepsBetween mv_X1_stepsBetween ml_X7_58 k21 (bl (by omega)) rfl rfl rfl (w_X1_stepsBetween C.G y (y.2.1 (y.2.1 a0 3) 0) r32 (M31.1 (y.2.1 a0 0) a1.toNatClampNeg) M31) (pm_s er35) rfl rfl rfl ?_
              refine g_iadd C tb_X7_fill_1_ok (i := 25) rfl ?_
              obtain ⟨r36, M37, er36, h⟩ := c0_e h
              refine g_callV0 C tb_X7_fill_1_ok (i := 26) [.int (a1 + (1 : Int32)), .int (a2 ||| ((1 : Int32) <<< (v14 &&& 31))), .int (a3 + r35)] rfl mw_X7_fill mv_X7_fill ml_X7_44 k1 (bl (by omega)) rfl rfl rfl (hR _ C.G y a0 (a1 + (1 : Int32)) (a2 ||| ((1 : Int32) <<< (v14 &&& 31))) (a3 + r35) M31) er36 rfl rfl rfl ?_
              exact g_less (L' := [some (.ref a0), some (.int a1), some (.int a2), some (.int a3), some (.int v14)]) ⟨rfl, ⟨rfl, ⟨rfl, ⟨rfl, ⟨rfl, trivial⟩⟩⟩⟩⟩ (J119 M37 h)
      · have h := f13 c
        exact g_less (L' := [some (.ref a0), none, none, some (.int a3), none]) ⟨rfl, ⟨rfl, trivial⟩⟩ (J23 () h)
  · have h := f3 c
    cases h
    exact g_vret0 C R0 tb_X7_fill_0_ok (i := 4) rfl
def f_X7_fill (y : Lay) (a0 : Nat) (a1 : Int32) (a2 : Int32) (a3 : Int32) (M : Mem) : Option (Int32 × Mem) := fixN (fun _ _ _ _ _ _ => none) (fun R => f_X7_fillB R) 12 y a0 a1 a2 a3 M
theorem w_X7_fill {g : GX} {l : Launch} (hG : GF g l) (y : Lay) (a0 : Nat) (a1 : Int32) (a2 : Int32) (a3 : Int32) (M : Mem) : C0 g l yX7_fill cX7_fill 5 none 14 y [.ref a0, .int a1, .int a2, .int a3] M (f_X7_fill y a0 a1 a2 a3 M) := by
  have key : ∀ n : Nat, ∀ l : Launch, GF g l → ∀ (y : Lay) (a0 : Nat) (a1 : Int32) (a2 : Int32) (a3 : Int32) (M : Mem), C0 g l yX7_fill cX7_fill 5 none (2 + 1 * n) y [.ref a0, .int a1, .int a2, .int a3] M (fixN (fun _ _ _ _ _ _ => none) (fun R => f_X7_fillB R) n y a0 a1 a2 a3 M) := by
    intro n
    induction n with
    | zero => intro l hG y a0 a1 a2 a3 M out h; exact (nn_e h).elim
    | succ n ih =>
      intro l hG y a0 a1 a2 a3 M
      rw [show 2 + 1 * (n + 1) = 2 + 1 * n + 1 by omega]
      exact w_X7_fillB ih hG y a0 a1 a2 a3 M
  exact key 12 l hG y a0 a1 a2 a3 M
def f_X7_find (y : Lay) (a0 : Nat) (a1 : Int32) (M : Mem) : Option (Int32 × Mem) := gK y a0 (0, 7) (lt (wI M a0 4 (0 : Int32)) fun (M2 : Mem) => fixN (fun _ _ => none) (fun (s5 : Int32 → Mem → Option (Int32 × Mem)) (v3 : Int32) (M4 : Mem) => br ((30 : Int32) ≤ v3) (gN (y.2.1 a0 3) (gK y (y.2.1 a0 3) (0, 8) (gN (y.2.1 (y.2.1 a0 3) 0) (gK y (y.2.1 (y.2.1 a0 3) 0) (0, 1) (br ((M4.1 a0 4) ≤ (M4.1 (y.2.1 (y.2.1 a0 3) 0) 4)) (lt (wI M4 a0 5 (1000000 : Int32)) fun (M15 : Mem) => c0 (f_X7_fill y a0 (0 : Int32) (0 : Int32) (0 : Int32) M15) fun (r16 : Int32) (M17 : Mem) => some ((1 : Int32), M17)) (some ((0 : Int32), M4))))))) (jn (fun (M18 : Mem) => lt (v3 + (1 : Int32)) fun (v20 : Int32) => s5 v20 M18) fun j19 => br (((a1 >>> (v3 &&& 31)) &&& (1 : Int32)) = 0) (j19 M4) (br ((6 : Int32) ≤ (M4.1 a0 4)) (j19 M4) (gN (y.2.1 a0 0) (gA y (y.2.1 a0 0) 1 (M4.1 a0 4) (lt (wI M4 (y.2.1 a0 0) (M4.1 a0 4).toNatClampNeg v3) fun (M27 : Mem) => lt (wI M27 a0 4 ((M27.1 a0 4) + (1 : Int32))) fun (M28 : Mem) => j19 M28)))))) FUEL (0 : Int32) M2)
theorem w_X7_find {g : GX} {l : Launch} (hG : GF g l) (y : Lay) (a0 : Nat) (a1 : Int32) (M : Mem) : C0 g l yX7_find cX7_find 3 (some .boolean) 15 y [.ref a0, .int a1] M (f_X7_find y a0 a1 M) := by
  refine C0_of hG (by decide) [some (.ref a0), some (.int a1), none] rfl rfl (fun out h x Q C R => ?_)
  unfold f_X7_find at h
  refine g_aload_n C tb_X7_find_0_ok (i := 0) rfl rfl ?_
  refine g_iconstv C tb_X7_find_0_ok (i := 1) 0 rfl k_iconstv_0 ?_
  obtain ⟨k1, h⟩ := gK_e h
  refine g_putI C tb_X7_find_0_ok (i := 2) rfl fl_X7_25 ft_7_4 rfl k1 ?_
  refine g_mem (fun M2 eM2 => ?_)
  have h := lt_e eM2 h
  refine g_iconstv C tb_X7_find_0_ok (i := 3) 0 rfl k_iconstv_0 ?_
  refine g_istore_n C tb_X7_find_0_ok (i := 4) rfl rfl rfl ?_
  refine g_less (L' := [some (.ref a0), some (.int a1), some (.int (0 : Int32))]) ⟨rfl, ⟨rfl, ⟨rfl, trivial⟩⟩⟩ ?_
  refine fix_i (P := fun (f : Int32 → Mem → Option (Int32 × Mem)) => ∀ (v3 : Int32) (M4 : Mem), f v3 M4 = some out → GG g x 3 Q 0 0 y M4 7 [some (.ref a0), some (.int a1), some (.int v3)] []) ?_ ?_ _ (0 : Int32) M2 h
  · intro v3 M4 h; exact (nn_e h).elim
  · intro s5 ih6 v3 M4 h
    refine g_iload_n C tb_X7_find_0_ok (i := 5) rfl rfl ?_
    refine g_bipushv C tb_X7_find_0_ok (i := 6) 30 rfl k_bipushv_30 ?_
    obtain ⟨t7, f8⟩ := br_e h
    refine g_icmp_ge C tb_X7_find_0_ok (i := 7) 56 rfl rfl (fun c => ?_) (fun c => ?_)
    · have h := t7 c
      refine g_aload_n C tb_X7_find_0_ok (i := 32) rfl rfl ?_
      refine g_getI C tb_X7_find_0_ok (i := 33) rfl fl_X7_25 rfl k1 ?_
      refine g_aload_n C tb_X7_find_0_ok (i := 34) rfl rfl ?_
      obtain ⟨n9, h⟩ := gN_e h
      refine g_getR C tb_X7_find_0_ok (i := 35) rfl fl_X7_21 rfl k1 n9 ?_
      obtain ⟨k10, h⟩ := gK_e h
      obtain ⟨n11, h⟩ := gN_e h
      refine g_getR C tb_X7_find_0_ok (i := 36) rfl fl_X7_29 rfl k10 n11 ?_
      obtain ⟨k12, h⟩ := gK_e h
      refine g_getI C tb_X7_find_0_ok (i := 37) rfl fl_X7_35 rfl k12 ?_
      obtain ⟨t13, f14⟩ := br_e h
      refine g_icmp_le C tb_X7_find_0_ok (i := 38) 75 rfl rfl (fun c => ?_) (fun c => ?_)
      · have h := t13 c
        refine g_aload_n C tb_X7_find_1_ok (i := 1) rfl rfl ?_
        refine g_ldcI C tb_X7_find_1_ok (i := 2) rfl cl_X7_40 ?_
        refine g_putI C tb_X7_find_1_ok (i := 3) rfl fl_X7_41 ft_7_5 rfl k1 ?_
        refine g_mem (fun M15 eM15 => ?_)
        have h := lt_e eM15 h
        refine g_aload_n C tb_X7_find_1_ok (i := 4) rfl rfl ?_
        refine g_iconstv C tb_X7_find_1_ok (i := 5) 0 rfl k_iconstv_0 ?_
        refine g_iconstv C tb_X7_find_1_ok (i := 6) 0 rfl k_iconstv_0 ?_
        refine g_iconstv C tb_X7_find_1_ok (i := 7) 0 rfl k_iconstv_0 ?_
        obtain ⟨r16, M17, er16, h⟩ := c0_e h
        refine g_callV0 C tb_X7_find_1_ok (i := 8) [.int (0 : Int32), .int (0 : Int32), .int (0 : Int32)] rfl mw_X7_fill mv_X7_fill ml_X7_44 k1 rfl rfl rfl rfl (w_X7_fill C.G y a0 (0 : Int32) (0 : Int32) (0 : Int32) M15) er16 rfl rfl rfl ?_
        refine g_iconstv C tb_X7_find_1_ok (i := 9) 1 rfl k_iconstv_1 ?_
        cases h
        exact g_zret0 C R (by decide) tb_X7_find_1_ok (i := 10) rfl
      · have h := f14 c
        refine g_iconstv C tb_X7_find_0_ok (i := 39) 0 rfl k_iconstv_0 ?_
        cases h
        exact g_zret0 C R (by decide) tb_X7_find_1_ok (i := 0) rfl
    · have h := f8 c
      refine g_iload_n C tb_X7_find_0_ok (i := 8) rfl rfl ?_
      refine g_iload_n C tb_X7_find_0_ok (i := 9) rfl rfl ?_
      refine g_ishr C tb_X7_find_0_ok (i := 10) rfl ?_
      refine g_iconstv C tb_X7_find_0_ok (i := 11) 1 rfl k_iconstv_1 ?_
      refine g_iand C tb_X7_find_0_ok (i := 12) rfl ?_
      obtain ⟨j19, ej19, h⟩ := jn_e h
      have J50 : ∀ (M18 : Mem), j19 M18 = some out → GG g x 3 Q 0 0 y M18 50 [some (.ref a0), some (.int a1), some (.int v3)] [] := by
        intro M18 h; subst ej19
        obtain ⟨v20, ev20⟩ : ∃ w : Int32, w = v3 + (1 : Int32) := ⟨_, rfl⟩
        have h := lt_e ev20 h
        refine g_iincv C tb_X7_find_0_ok (i := 30) (1 : Int32) ev20 rfl rfl k_iconstv_1 rfl rfl ?_
        refine g_goto C tb_X7_find_0_ok (i := 31) 7 rfl rfl ?_
        exact g_less (L' := [some (.ref a0), some (.int a1), some (.int v20)]) ⟨rfl, ⟨rfl, ⟨rfl, trivial⟩⟩⟩ (ih6 v20 M18 h)
      obtain ⟨t21, f22⟩ := br_e h
      refine g_if_eq C tb_X7_find_0_ok (i := 13) 50 rfl rfl (fun c => ?_) (fun c => ?_)
      · have h := t21 c
        exact g_less (L' := [some (.ref a0), some (.int a1), some (.int v3)]) ⟨rfl, ⟨rfl, ⟨rfl, trivial⟩⟩⟩ (J50 M4 h)
      · have h := f22 c
        refine g_aload_n C tb_X7_find_0_ok (i := 14) rfl rfl ?_
        refine g_getI C tb_X7_find_0_ok (i := 15) rfl fl_X7_25 rfl k1 ?_
        refine g_bipushv C tb_X7_find_0_ok (i := 16) 6 rfl k_bipushv_6 ?_
        obtain ⟨t23, f24⟩ := br_e h
        refine g_icmp_ge C tb_X7_find_0_ok (i := 17) 50 rfl rfl (fun c => ?_) (fun c => ?_)
        · have h := t23 c
          exact g_less (L' := [some (.ref a0), some (.int a1), some (.int v3)]) ⟨rfl, ⟨rfl, ⟨rfl, trivial⟩⟩⟩ (J50 M4 h)
        · have h := f24 c
          refine g_aload_n C tb_X7_find_0_ok (i := 18) rfl rfl ?_
          obtain ⟨n25, h⟩ := gN_e h
          refine g_getR C tb_X7_find_0_ok (i := 19) rfl fl_X7_9 rfl k1 n25 ?_
          refine g_aload_n C tb_X7_find_0_ok (i := 20) rfl rfl ?_
          refine g_getI C tb_X7_find_0_ok (i := 21) rfl fl_X7_25 rfl k1 ?_
          refine g_iload_n C tb_X7_find_0_ok (i := 22) rfl rfl ?_
          obtain ⟨b26, h⟩ := gA_e h
          refine g_iast C tb_X7_find_0_ok (i := 23) rfl b26 ?_
          refine g_mem (fun M27 eM27 => ?_)
          have h := lt_e eM27 h
          refine g_aload_n C tb_X7_find_0_ok (i := 24) rfl rfl ?_
          refine g_dup C tb_X7_find_0_ok (i := 25) rfl rfl ?_
          refine g_getI C tb_X7_find_0_ok (i := 26) rfl fl_X7_25 rfl k1 ?_
          refine g_iconstv C tb_X7_find_0_ok (i := 27) 1 rfl k_iconstv_1 ?_
          refine g_iadd C tb_X7_find_0_ok (i := 28) rfl ?_
          refine g_putI C tb_X7_find_0_ok (i := 29) rfl fl_X7_25 ft_7_4 rfl k1 ?_
          refine g_mem (fun M28 eM28 => ?_)
          have h := lt_e eM28 h
          exact g_less (L' := [some (.ref a0), some (.int a1), some (.int v3)]) ⟨rfl, ⟨rfl, ⟨rfl, trivial⟩⟩⟩ (J50 M28 h)
def f_X7_girlFor (y : Lay) (a0 : Nat) (a1 : Int32) (M : Mem) : Option Int32 := fixN (fun _ => none) (fun (s2 : Int32 → Option Int32) (v1 : Int32) => gK y a0 (0, 7) (jn (fun (_u : Unit) => some ((-1) : Int32)) fun j5 => br ((M.1 a0 4) ≤ v1) (j5 ()) (br ((6 : Int32) ≤ v1) (j5 ()) (gN (y.2.1 a0 0) (gA y (y.2.1 a0 0) 1 v1 (br ((M.1 (y.2.1 a0 0) v1.toNatClampNeg) = a1) (gN (y.2.1 a0 2) (gA y (y.2.1 a0 2) 1 v1 (some (M.1 (y.2.1 a0 2) v1.toNatClampNeg)))) (lt (v1 + (1 : Int32)) fun (v14 : Int32) => s2 v14))))))) FUEL (0 : Int32)
theorem w_X7_girlFor {g : GX} {l : Launch} (hG : GF g l) (y : Lay) (a0 : Nat) (a1 : Int32) (M : Mem) : C0 g l yX7_girlFor cX7_girlFor 3 (some .int) 0 y [.ref a0, .int a1] M (pm M (f_X7_girlFor y a0 a1 M)) := by
  refine CP_of hG (by decide) [some (.ref a0), some (.int a1), none] rfl rfl (fun out h x Q C R => ?_)
  unfold f_X7_girlFor at h
  refine g_iconstv C tb_X7_girlFor_0_ok (i := 0) 0 rfl k_iconstv_0 ?_
  refine g_istore_n C tb_X7_girlFor_0_ok (i := 1) rfl rfl rfl ?_
  refine g_less (L' := [some (.ref a0), some (.int a1), some (.int (0 : Int32))]) ⟨rfl, ⟨rfl, ⟨rfl, trivial⟩⟩⟩ ?_
  refine fix_i (P := fun (f : Int32 → Option Int32) => ∀ (v1 : Int32), f v1 = some out → GG g x 3 Q 0 0 y M 2 [some (.ref a0), some (.int a1), some (.int v1)] []) ?_ ?_ _ (0 : Int32) h
  · intro v1 h; exact (nn_e h).elim
  · intro s2 ih3 v1 h
    refine g_iload_n C tb_X7_girlFor_0_ok (i := 2) rfl rfl ?_
    refine g_aload_n C tb_X7_girlFor_0_ok (i := 3) rfl rfl ?_
    obtain ⟨k4, h⟩ := gK_e h
    refine g_getI C tb_X7_girlFor_0_ok (i := 4) rfl fl_X7_25 rfl k4 ?_
    obtain ⟨j5, ej5, h⟩ := jn_e h
    have J39 : ∀ (_u : Unit), j5 _u = some out → GG g x 3 Q 0 0 y M 39 [none, none, none] [] := by
      intro _u h; subst ej5
      refine g_iconstv C tb_X7_girlFor_0_ok (i := 22) (-1) rfl k_iconstv_m1 ?_
      cases h
      exact g_iret0 C R tb_X7_girlFor_0_ok (i := 23) rfl
    obtain ⟨t6, f7⟩ := br_e h
    refine g_icmp_ge C tb_X7_girlFor_0_ok (i := 5) 39 rfl rfl (fun c => ?_) (fun c => ?_)
    · have h := t6 c
      exact g_less (L' := [none, none, none]) trivial (J39 () h)
    · have h := f7 c
      refine g_iload_n C tb_X7_girlFor_0_ok (i := 6) rfl rfl ?_
      refine g_bipushv C tb_X7_girlFor_0_ok (i := 7) 6 rfl k_bipushv_6 ?_
      obtain ⟨t8, f9⟩ := br_e h
      refine g_icmp_ge C tb_X7_girlFor_0_ok (i := 8) 39 rfl rfl (fun c => ?_) (fun c => ?_)
      · have h := t8 c
        exact g_less (L' := [none, none, none]) trivial (J39 () h)
      · have h := f9 c
        refine g_aload_n C tb_X7_girlFor_0_ok (i := 9) rfl rfl ?_
        obtain ⟨n10, h⟩ := gN_e h
        refine g_getR C tb_X7_girlFor_0_ok (i := 10) rfl fl_X7_9 rfl k4 n10 ?_
        refine g_iload_n C tb_X7_girlFor_0_ok (i := 11) rfl rfl ?_
        obtain ⟨b11, h⟩ := gA_e h
        refine g_iald C tb_X7_girlFor_0_ok (i := 12) rfl b11 ?_
        refine g_iload_n C tb_X7_girlFor_0_ok (i := 13) rfl rfl ?_
        obtain ⟨t12, f13⟩ := br_e h
        refine g_icmp_ne C tb_X7_girlFor_0_ok (i := 14) 33 rfl rfl (fun c => ?_) (fun c => ?_)
        · have h := f13 c
          obtain ⟨v14, ev14⟩ : ∃ w : Int32, w = v1 + (1 : Int32) := ⟨_, rfl⟩
          have h := lt_e ev14 h
          refine g_iincv C tb_X7_girlFor_0_ok (i := 20) (1 : Int32) ev14 rfl rfl k_iconstv_1 rfl rfl ?_
          refine g_goto C tb_X7_girlFor_0_ok (i := 21) 2 rfl rfl ?_
          exact g_less (L' := [some (.ref a0), some (.int a1), some (.int v14)]) ⟨rfl, ⟨rfl, ⟨rfl, trivial⟩⟩⟩ (ih3 v14 h)
        · have h := t12 c
          refine g_aload_n C tb_X7_girlFor_0_ok (i := 15) rfl rfl ?_
          obtain ⟨n15, h⟩ := gN_e h
          refine g_getR C tb_X7_girlFor_0_ok (i := 16) rfl fl_X7_18 rfl k4 n15 ?_
          refine g_iload_n C tb_X7_girlFor_0_ok (i := 17) rfl rfl ?_
          obtain ⟨b16, h⟩ := gA_e h
          refine g_iald C tb_X7_girlFor_0_ok (i := 18) rfl b16 ?_
          cases h
          exact g_iret0 C R tb_X7_girlFor_0_ok (i := 19) rfl
def f_X11_sent (y : Lay) (a0 : Nat) (a1 : Int32) (a2 : Int32) (M : Mem) : Option (Nat × Int32 × Mem) := jn (fun (_u : Unit) => some (2, 0, M)) fun j1 => br (a1 < 0) (j1 ()) (gK y a0 (0, 11) (gN (y.2.1 a0 1) (gK y (y.2.1 a0 1) (0, 1) (cp (f_X1_cells y (y.2.1 a0 1) M) fun (r7 : Int32) => br (((a1.toUInt32 >>> (r7.toUInt32 &&& Int32.toUInt32 31)).toInt32) = 0) (cp (f_J6_bitCount_0f7a4 y a1 M) fun (r10 : Int32) => br (r10 ≤ (6 : Int32)) (jn (fun (M13 : Mem) => gN (y.2.1 a0 6) (gK y (y.2.1 a0 6) (0, 7) (c0 (f_X7_find y (y.2.1 a0 6) a1 M13) fun (r17 : Int32) (M18 : Mem) => br (r17 = 0) (some (0, ((-2) : Int32), M18)) (jn (fun (v21 : Int32) => some (0, v21, M18)) fun j22 => br (a2 = ((-1) : Int32)) (j22 (M18.1 (y.2.1 a0 6) 5)) (cp (f_X7_girlFor y (y.2.1 a0 6) a2 M18) fun (r25 : Int32) => j22 r25))))) fun j14 => br (a2 = ((-1) : Int32)) (j14 M) (cx (f_X11_needCell y a0 a2 M) fun (r28 : Int32) (M29 : Mem) => br (((a1 >>> (a2 &&& 31)) &&& (1 : Int32)) = 0) (some (1, 0, M29)) (j14 M29))) (j1 ())) (j1 ())))))
theorem w_X11_sent {g : GX} {l : Launch} (hG : GF g l) (y : Lay) (a0 : Nat) (a1 : Int32) (a2 : Int32) (M : Mem) : C1 g l yX11_sent cX11_sent 3 (some .int) 16 2 12 y [.ref a0, .int a1, .int a2] M (f_X11_sent y a0 a1 a2 M) := by
  refine C1_of hG (by decide) [some (.ref a0), some (.int a1), some (.int a2)] rfl rfl (fun out h x Q C R => ?_)
  unfold f_X11_sent at h
  refine g_iload_n C tb_X11_sent_0_ok (i := 0) rfl rfl ?_
  obtain ⟨j1, ej1, h⟩ := jn_e h
  have J25 : ∀ (_u : Unit), j1 _u = some out → GG g x 3 Q 0 0 y M 25 [none, none, none] [] := by
    intro _u h; subst ej1
    cases h
    exact g_throw (T2 := []) C tb_X11_sent_0_ok (i0 := 12) (i1 := 13) (i2 := 14) (i3 := 15) (e := 1) R tw_X11_96_98 rfl rfl rfl rfl rfl rfl rfl
  obtain ⟨t2, f3⟩ := br_e h
  refine g_if_lt C tb_X11_sent_0_ok (i := 1) 25 rfl rfl (fun c => ?_) (fun c => ?_)
  · have h := t2 c
    exact g_less (L' := [none, none, none]) trivial (J25 () h)
  · have h := f3 c
    refine g_iload_n C tb_X11_sent_0_ok (i := 2) rfl rfl ?_
    refine g_aload_n C tb_X11_sent_0_ok (i := 3) rfl rfl ?_
    obtain ⟨k4, h⟩ := gK_e h
    obtain ⟨n5, h⟩ := gN_e h
    refine g_getR C tb_X11_sent_0_ok (i := 4) rfl fl_X11_19 rfl k4 n5 ?_
    obtain ⟨k6, h⟩ := gK_e h
    obtain ⟨r7, er7, h⟩ := cp_e h
    refine g_callV0 C tb_X11_sent_0_ok (i := 5) [] rfl mw_X1_cells mv_X1_cells ml_X11_128 k6 rfl rfl rfl rfl (w_X1_cells C.G y (y.2.1 a0 1) M) (pm_s er7) rfl rfl rfl ?_
    refine g_iushr C tb_X11_sent_0_ok (i := 6) rfl ?_
    obtain ⟨t8, f9⟩ := br_e h
    refine g_if_ne C tb_X11_sent_0_ok (i := 7) 25 rfl rfl (fun c => ?_) (fun c => ?_)
    · have h := f9 c
      exact g_less (L' := [none, none, none]) trivial (J25 () h)
    · have h := t8 c
      refine g_iload_n C tb_X11_sent_0_ok (i := 8) rfl rfl ?_
      obtain ⟨r10, er10, h⟩ := cp_e h
      refine g_callS0 C tb_X11_sent_0_ok (i := 9) [.int a1] rfl mw_J6_bitCount_0f7a4 mst_J6_bitCount_0f7a4 ml_X11_296 rfl rfl rfl rfl (w_J6_bitCount_0f7a4 C.G y a1 M) (pm_s er10) rfl rfl rfl ?_
      refine g_bipushv C tb_X11_sent_0_ok (i := 10) 6 rfl k_bipushv_6 ?_
      obtain ⟨t11, f12⟩ := br_e h
      refine g_icmp_le C tb_X11_sent_0_ok (i := 11) 33 rfl rfl (fun c => ?_) (fun c => ?_)
      · have h := t11 c
        refine g_iload_n C tb_X11_sent_0_ok (i := 16) rfl rfl ?_
        refine g_iconstv C tb_X11_sent_0_ok (i := 17) (-1) rfl k_iconstv_m1 ?_
        obtain ⟨j14, ej14, h⟩ := jn_e h
        have J59 : ∀ (M13 : Mem), j14 M13 = some out → GG g x 3 Q 1 6 y M13 59 [some (.ref a0), some (.int a1), some (.int a2)] [] := by
          intro M13 h; subst ej14
          refine g_aload_n C tb_X11_sent_0_ok (i := 32) rfl rfl ?_
          obtain ⟨n15, h⟩ := gN_e h
          refine g_getR C tb_X11_sent_0_ok (i := 33) rfl fl_X11_59 rfl k4 n15 ?_
          refine g_iload_n C tb_X11_sent_0_ok (i := 34) rfl rfl ?_
          obtain ⟨k16, h⟩ := gK_e h
          obtain ⟨r17, M18, er17, h⟩ := c0_e h
          refine g_callV0 C tb_X11_sent_0_ok (i := 35) [.int a1] rfl mw_X7_find mv_X7_find ml_X11_301 k16 rfl rfl rfl rfl (w_X7_find C.G y (y.2.1 a0 6) a1 M13) er17 rfl rfl rfl ?_
          obtain ⟨t19, f20⟩ := br_e h
          refine g_if_ne C tb_X11_sent_0_ok (i := 36) 73 rfl rfl (fun c => ?_) (fun c => ?_)
          · have h := f20 c
            refine g_iload_n C tb_X11_sent_0_ok (i := 39) rfl rfl ?_
            refine g_iconstv C tb_X11_sent_1_ok (i := 0) (-1) rfl k_iconstv_m1 ?_
            obtain ⟨j22, ej22, h⟩ := jn_e h
            have J96 : ∀ (v21 : Int32), j22 v21 = some out → GG g x 3 Q 1 6 y M18 96 [none, none, none] [.int v21] := by
              intro v21 h; subst ej22
              cases h
              exact g_iret1 C R rfl rfl tb_X11_sent_1_ok (i := 10) rfl
            obtain ⟨t23, f24⟩ := br_e h
            refine g_icmp_ne C tb_X11_sent_1_ok (i := 1) 88 rfl rfl (fun c => ?_) (fun c => ?_)
            · have h := f24 c
              refine g_aload_n C tb_X11_sent_1_ok (i := 6) rfl rfl ?_
              refine g_getR C tb_X11_sent_1_ok (i := 7) rfl fl_X11_59 rfl k4 n15 ?_
              refine g_iload_n C tb_X11_sent_1_ok (i := 8) rfl rfl ?_
              obtain ⟨r25, er25, h⟩ := cp_e h
              refine g_callV0 C tb_X11_sent_1_ok (i := 9) [.int a2] rfl mw_X7_girlFor mv_X7_girlFor ml_X11_307 k16 rfl rfl rfl rfl (w_X7_girlFor C.G y (y.2.1 a0 6) a2 M18) (pm_s er25) rfl rfl rfl ?_
              exact g_less (L' := [none, none, none]) trivial (J96 r25 h)
            · have h := t23 c
              refine g_aload_n C tb_X11_sent_1_ok (i := 2) rfl rfl ?_
              refine g_getR C tb_X11_sent_1_ok (i := 3) rfl fl_X11_59 rfl k4 n15 ?_
              refine g_getI C tb_X11_sent_1_ok (i := 4) rfl fl_X11_304 rfl k16 ?_
              refine g_goto C tb_X11_sent_1_ok (i := 5) 96 rfl rfl ?_
              exact g_less (L' := [none, none, none]) trivial (J96 (M18.1 (y.2.1 a0 6) 5) h)
          · have h := t19 c
            refine g_bipushv C tb_X11_sent_0_ok (i := 37) (-2) rfl k_bipushv_m2 ?_
            cases h
            exact g_iret1 C R rfl rfl tb_X11_sent_0_ok (i := 38) rfl
        obtain ⟨t26, f27⟩ := br_e h
        refine g_icmp_eq C tb_X11_sent_0_ok (i := 18) 59 rfl rfl (fun c => ?_) (fun c => ?_)
        · have h := t26 c
          refine g_widen (k2 := 1) (s2 := 6) rfl rfl ?_
          exact g_less (L' := [some (.ref a0), some (.int a1), some (.int a2)]) ⟨rfl, ⟨rfl, ⟨rfl, trivial⟩⟩⟩ (J59 M h)
        · have h := f27 c
          refine g_aload_n C tb_X11_sent_0_ok (i := 19) rfl rfl ?_
          refine g_iload_n C tb_X11_sent_0_ok (i := 20) rfl rfl ?_
          refine g_callV1 C tb_X11_sent_0_ok (i := 21) R [.int a2] rfl mw_X11_needCell mv_X11_needCell ml_X11_179 k4 rfl rfl rfl rfl (w_X11_needCell C.G y a0 a2 M) h rfl rfl rfl (fun r28 M29 h => ?_)
          refine g_iload_n C tb_X11_sent_0_ok (i := 22) rfl rfl ?_
          refine g_iload_n C tb_X11_sent_0_ok (i := 23) rfl rfl ?_
          refine g_ishr C tb_X11_sent_0_ok (i := 24) rfl ?_
          refine g_iconstv C tb_X11_sent_0_ok (i := 25) 1 rfl k_iconstv_1 ?_
          refine g_iand C tb_X11_sent_0_ok (i := 26) rfl ?_
          obtain ⟨t30, f31⟩ := br_e h
          refine g_if_ne C tb_X11_sent_0_ok (i := 27) 59 rfl rfl (fun c => ?_) (fun c => ?_)
          · have h := f31 c
            exact g_less (L' := [some (.ref a0), some (.int a1), some (.int a2)]) ⟨rfl, ⟨rfl, ⟨rfl, trivial⟩⟩⟩ (J59 M29 h)
          · have h := t30 c
            cases h
            exact g_throw (T2 := []) C tb_X11_sent_0_ok (i0 := 28) (i1 := 29) (i2 := 30) (i3 := 31) (e := 0) R tw_X11_176_178 rfl rfl rfl rfl rfl rfl rfl
      · have h := f12 c
        exact g_less (L' := [none, none, none]) trivial (J25 () h)
def f_X8_rowBlue (y : Lay) (a0 : Nat) (a1 : Int32) (M : Mem) : Option Int32 := fixN (fun _ _ => none) (fun (s3 : Int32 → Int32 → Option Int32) (v1 : Int32) (v2 : Int32) => gK y a0 (0, 8) (gN (y.2.1 a0 0) (gK y (y.2.1 a0 0) (0, 1) (cp (f_X1_cells y (y.2.1 a0 0) M) fun (r8 : Int32) => br (r8 ≤ v2) (some v1) (cp (f_X1_rowOf y (y.2.1 a0 0) v2 M) fun (r11 : Int32) => jn (fun (v12 : Int32) => lt (v2 + (1 : Int32)) fun (v14 : Int32) => s3 v12 v14) fun j13 => br (r11 = a1) (cp (f_X8_blueOf y a0 v2 M) fun (r17 : Int32) => lt (v1 + r17) fun (v18 : Int32) => j13 v18) (j13 v1)))))) FUEL (0 : Int32) (0 : Int32)
theorem w_X8_rowBlue {g : GX} {l : Launch} (hG : GF g l) (y : Lay) (a0 : Nat) (a1 : Int32) (M : Mem) : C0 g l yX8_rowBlue cX8_rowBlue 4 (some .int) 1 y [.ref a0, .int a1] M (pm M (f_X8_rowBlue y a0 a1 M)) := by
  refine CP_of hG (by decide) [some (.ref a0), some (.int a1), none, none] rfl rfl (fun out h x Q C R => ?_)
  unfold f_X8_rowBlue at h
  refine g_iconstv C tb_X8_rowBlue_0_ok (i := 0) 0 rfl k_iconstv_0 ?_
  refine g_istore_n C tb_X8_rowBlue_0_ok (i := 1) rfl rfl rfl ?_
  refine g_iconstv C tb_X8_rowBlue_0_ok (i := 2) 0 rfl k_iconstv_0 ?_
  refine g_istore_n C tb_X8_rowBlue_0_ok (i := 3) rfl rfl rfl ?_
  refine g_less (L' := [some (.ref a0), some (.int a1), some (.int (0 : Int32)), some (.int (0 : Int32))]) ⟨rfl, ⟨rfl, ⟨rfl, ⟨rfl, trivial⟩⟩⟩⟩ ?_
  refine fix_i (P := fun (f : Int32 → Int32 → Option Int32) => ∀ (v1 : Int32) (v2 : Int32), f v1 v2 = some out → GG g x 4 Q 0 0 y M 4 [some (.ref a0), some (.int a1), some (.int v1), some (.int v2)] []) ?_ ?_ _ (0 : Int32) (0 : Int32) h
  · intro v1 v2 h; exact (nn_e h).elim
  · intro s3 ih4 v1 v2 h
    refine g_iload_n C tb_X8_rowBlue_0_ok (i := 4) rfl rfl ?_
    refine g_aload_n C tb_X8_rowBlue_0_ok (i := 5) rfl rfl ?_
    obtain ⟨k5, h⟩ := gK_e h
    obtain ⟨n6, h⟩ := gN_e h
    refine g_getR C tb_X8_rowBlue_0_ok (i := 6) rfl fl_X8_32 rfl k5 n6 ?_
    obtain ⟨k7, h⟩ := gK_e h
    obtain ⟨r8, er8, h⟩ := cp_e h
    refine g_callV0 C tb_X8_rowBlue_0_ok (i := 7) [] rfl mw_X1_cells mv_X1_cells ml_X8_147 k7 rfl rfl rfl rfl (w_X1_cells C.G y (y.2.1 a0 0) M) (pm_s er8) rfl rfl rfl ?_
    obtain ⟨t9, f10⟩ := br_e h
    refine g_icmp_ge C tb_X8_rowBlue_0_ok (i := 8) 41 rfl rfl (fun c => ?_) (fun c => ?_)
    · have h := t9 c
      refine g_iload_n C tb_X8_rowBlue_0_ok (i := 23) rfl rfl ?_
      cases h
      exact g_iret0 C R tb_X8_rowBlue_0_ok (i := 24) rfl
    · have h := f10 c
      refine g_aload_n C tb_X8_rowBlue_0_ok (i := 9) rfl rfl ?_
      refine g_getR C tb_X8_rowBlue_0_ok (i := 10) rfl fl_X8_32 rfl k5 n6 ?_
      refine g_iload_n C tb_X8_rowBlue_0_ok (i := 11) rfl rfl ?_
      obtain ⟨r11, er11, h⟩ := cp_e h
      refine g_callV0 C tb_X8_rowBlue_0_ok (i := 12) [.int v2] rfl mw_X1_rowOf mv_X1_rowOf ml_X8_160 k7 rfl rfl rfl rfl (w_X1_rowOf C.G y (y.2.1 a0 0) v2 M) (pm_s er11) rfl rfl rfl ?_
      refine g_iload_n C tb_X8_rowBlue_0_ok (i := 13) rfl rfl ?_
      obtain ⟨j13, ej13, h⟩ := jn_e h
      have J35 : ∀ (v12 : Int32), j13 v12 = some out → GG g x 4 Q 0 0 y M 35 [some (.ref a0), some (.int a1), some (.int v12), some (.int v2)] [] := by
        intro v12 h; subst ej13
        obtain ⟨v14, ev14⟩ : ∃ w : Int32, w = v2 + (1 : Int32) := ⟨_, rfl⟩
        have h := lt_e ev14 h
        refine g_iincv C tb_X8_rowBlue_0_ok (i := 21) (1 : Int32) ev14 rfl rfl k_iconstv_1 rfl rfl ?_
        refine g_goto C tb_X8_rowBlue_0_ok (i := 22) 4 rfl rfl ?_
        exact g_less (L' := [some (.ref a0), some (.int a1), some (.int v12), some (.int v14)]) ⟨rfl, ⟨rfl, ⟨rfl, ⟨rfl, trivial⟩⟩⟩⟩ (ih4 v12 v14 h)
      obtain ⟨t15, f16⟩ := br_e h
      refine g_icmp_ne C tb_X8_rowBlue_0_ok (i := 14) 35 rfl rfl (fun c => ?_) (fun c => ?_)
      · have h := f16 c
        exact g_less (L' := [some (.ref a0), some (.int a1), some (.int v1), some (.int v2)]) ⟨rfl, ⟨rfl, ⟨rfl, ⟨rfl, trivial⟩⟩⟩⟩ (J35 v1 h)
      · have h := t15 c
        refine g_iload_n C tb_X8_rowBlue_0_ok (i := 15) rfl rfl ?_
        refine g_aload_n C tb_X8_rowBlue_0_ok (i := 16) rfl rfl ?_
        refine g_iload_n C tb_X8_rowBlue_0_ok (i := 17) rfl rfl ?_
        obtain ⟨r17, er17, h⟩ := cp_e h
        refine g_callV0 C tb_X8_rowBlue_0_ok (i := 18) [.int v2] rfl mw_X8_blueOf mv_X8_blueOf ml_X8_118 k5 rfl rfl rfl rfl (w_X8_blueOf C.G y a0 v2 M) (pm_s er17) rfl rfl rfl ?_
        refine g_iadd C tb_X8_rowBlue_0_ok (i := 19) rfl ?_
        refine g_topi (fun v18 ev18 => ?_)
        have h := lt_e ev18 h
        refine g_istore_n C tb_X8_rowBlue_0_ok (i := 20) rfl rfl rfl ?_
        exact g_less (L' := [some (.ref a0), some (.int a1), some (.int v18), some (.int v2)]) ⟨rfl, ⟨rfl, ⟨rfl, ⟨rfl, trivial⟩⟩⟩⟩ (J35 v18 h)
