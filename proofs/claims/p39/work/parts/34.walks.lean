def f_X12_takeHalf (y : Lay) (a0 : Nat) (M : Mem) : Option (Int32 × Mem) := fixN (fun _ _ => none) (fun (s3 : Int32 → Mem → Option (Int32 × Mem)) (v1 : Int32) (M2 : Mem) => gT y a0 1 (gd (¬ (2 : Int32) = 0) (br (((Int32.ofNat (kd y a0).2) / (2 : Int32)) ≤ v1) (some (0, M2)) (gT y a0 1 (gd (¬ (2 : Int32) = 0) (gA y a0 1 (((Int32.ofNat (kd y a0).2) / (2 : Int32)) + v1) (gA y a0 1 v1 (lt (wI M2 a0 v1.toNatClampNeg (M2.1 a0 (((Int32.ofNat (kd y a0).2) / (2 : Int32)) + v1).toNatClampNeg)) fun (M13 : Mem) => lt (v1 + (1 : Int32)) fun (v14 : Int32) => s3 v14 M13)))))))) FUEL (0 : Int32) M
theorem w_X12_takeHalf {g : GX} {l : Launch} (hG : GF g l) (y : Lay) (a0 : Nat) (M : Mem) : C0 g l yX12_takeHalf cX12_takeHalf 2 none 0 y [.ref a0] M (f_X12_takeHalf y a0 M) := by
  refine C0_of hG (by decide) [some (.ref a0), none] rfl rfl (fun out h x Q C R => ?_)
  unfold f_X12_takeHalf at h
  refine g_iconstv C tb_X12_takeHalf_0_ok (i := 0) 0 rfl k_iconstv_0 ?_
  refine g_istore_n C tb_X12_takeHalf_0_ok (i := 1) rfl rfl rfl ?_
  refine g_less (L' := [some (.ref a0), some (.int (0 : Int32))]) ⟨rfl, ⟨rfl, trivial⟩⟩ ?_
  refine fix_i (P := fun (f : Int32 → Mem → Option (Int32 × Mem)) => ∀ (v1 : Int32) (M2 : Mem), f v1 M2 = some out → GG g x 2 Q 0 0 y M2 2 [some (.ref a0), some (.int v1)] []) ?_ ?_ _ (0 : Int32) M h
  · intro v1 M2 h; exact (nn_e h).elim
  · intro s3 ih4 v1 M2 h
    refine g_iload_n C tb_X12_takeHalf_0_ok (i := 2) rfl rfl ?_
    refine g_aload_n C tb_X12_takeHalf_0_ok (i := 3) rfl rfl ?_
    obtain ⟨b5, h⟩ := gT_e h
    refine g_alen C tb_X12_takeHalf_0_ok (i := 4) rfl b5 (by decide) ?_
    refine g_iconstv C tb_X12_takeHalf_0_ok (i := 5) 2 rfl k_iconstv_2 ?_
    obtain ⟨n6, h⟩ := gd_e h
    refine g_idiv C tb_X12_takeHalf_0_ok (i := 6) rfl n6 ?_
    obtain ⟨t7, f8⟩ := br_e h
    refine g_icmp_ge C tb_X12_takeHalf_0_ok (i := 7) 27 rfl rfl (fun c => ?_) (fun c => ?_)
    · have h := t7 c
      cases h
      exact g_vret0 C R tb_X12_takeHalf_0_ok (i := 21) rfl
    · have h := f8 c
      refine g_aload_n C tb_X12_takeHalf_0_ok (i := 8) rfl rfl ?_
      refine g_iload_n C tb_X12_takeHalf_0_ok (i := 9) rfl rfl ?_
      refine g_aload_n C tb_X12_takeHalf_0_ok (i := 10) rfl rfl ?_
      refine g_aload_n C tb_X12_takeHalf_0_ok (i := 11) rfl rfl ?_
      obtain ⟨b9, h⟩ := gT_e h
      refine g_alen C tb_X12_takeHalf_0_ok (i := 12) rfl b9 (by decide) ?_
      refine g_iconstv C tb_X12_takeHalf_0_ok (i := 13) 2 rfl k_iconstv_2 ?_
      obtain ⟨n10, h⟩ := gd_e h
      refine g_idiv C tb_X12_takeHalf_0_ok (i := 14) rfl n10 ?_
      refine g_iload_n C tb_X12_takeHalf_0_ok (i := 15) rfl rfl ?_
      refine g_iadd C tb_X12_takeHalf_0_ok (i := 16) rfl ?_
      obtain ⟨b11, h⟩ := gA_e h
      refine g_iald C tb_X12_takeHalf_0_ok (i := 17) rfl b11 ?_
      obtain ⟨b12, h⟩ := gA_e h
      refine g_iast C tb_X12_takeHalf_0_ok (i := 18) rfl b12 ?_
      refine g_mem (fun M13 eM13 => ?_)
      have h := lt_e eM13 h
      obtain ⟨v14, ev14⟩ : ∃ w : Int32, w = v1 + (1 : Int32) := ⟨_, rfl⟩
      have h := lt_e ev14 h
      refine g_iincv C tb_X12_takeHalf_0_ok (i := 19) (1 : Int32) ev14 rfl rfl k_iconstv_1 rfl rfl ?_
      refine g_goto C tb_X12_takeHalf_0_ok (i := 20) 2 rfl rfl ?_
      exact g_less (L' := [some (.ref a0), some (.int v14)]) ⟨rfl, ⟨rfl, trivial⟩⟩ (ih4 v14 M13 h)
def f_X12_takeOver (y : Lay) (a0 : Nat) (M : Mem) : Option (Int32 × Mem) := gK y a0 (0, 12) (gN (y.2.1 a0 5) (c0 (f_X12_takeHalf y (y.2.1 a0 5) M) fun (r3 : Int32) (M4 : Mem) => gN (y.2.1 a0 6) (c0 (f_X12_takeHalf y (y.2.1 a0 6) M4) fun (r6 : Int32) (M7 : Mem) => gN (y.2.1 a0 7) (c0 (f_X12_takeHalf y (y.2.1 a0 7) M7) fun (r9 : Int32) (M10 : Mem) => gN (y.2.1 a0 8) (c0 (f_X12_takeHalf y (y.2.1 a0 8) M10) fun (r12 : Int32) (M13 : Mem) => gN (y.2.1 a0 9) (c0 (f_X12_takeHalf y (y.2.1 a0 9) M13) fun (r15 : Int32) (M16 : Mem) => gN (y.2.1 a0 10) (c0 (f_X12_takeHalf y (y.2.1 a0 10) M16) fun (r18 : Int32) (M19 : Mem) => gN (y.2.1 a0 11) (c0 (f_X12_takeHalf y (y.2.1 a0 11) M19) fun (r21 : Int32) (M22 : Mem) => lt (wI M22 a0 31 (0 : Int32)) fun (M23 : Mem) => gA y (y.2.1 a0 5) 1 (3 : Int32) (lt (wI M23 a0 32 (M23.1 (y.2.1 a0 5) (3 : Int32).toNatClampNeg)) fun (M25 : Mem) => lt (wI M25 a0 33 (0 : Int32)) fun (M26 : Mem) => gA y (y.2.1 a0 5) 1 (8 : Int32) (lt (wI M26 a0 34 (M26.1 (y.2.1 a0 5) (8 : Int32).toNatClampNeg)) fun (M28 : Mem) => lt (wI M28 a0 35 (0 : Int32)) fun (M29 : Mem) => fixN (fun _ _ => none) (fun (s32 : Int32 → Mem → Option (Int32 × Mem)) (v30 : Int32) (M31 : Mem) => br ((30 : Int32) ≤ v30) (fixN (fun _ _ => none) (fun (s38 : Int32 → Mem → Option (Int32 × Mem)) (v36 : Int32) (M37 : Mem) => br ((6 : Int32) ≤ v36) (lt (wI M37 a0 36 (0 : Int32)) fun (M42 : Mem) => lt (wI M42 a0 37 (0 : Int32)) fun (M43 : Mem) => lt (wI M43 a0 55 (0 : Int32)) fun (M44 : Mem) => some (0, M44)) (gA y (y.2.1 a0 5) 1 (2 : Int32) (jn (fun (v46 : Int32) => gN (y.2.1 a0 13) (jn (fun (v49 : Int32) => gA y (y.2.1 a0 13) 1 v36 (lt (wI M37 (y.2.1 a0 13) v36.toNatClampNeg v49) fun (M52 : Mem) => gN (y.2.1 a0 29) (jn (fun (v54 : Int32) => gA y (y.2.1 a0 29) 1 v36 (lt (wI M52 (y.2.1 a0 29) v36.toNatClampNeg v54) fun (M57 : Mem) => lt (v36 + (1 : Int32)) fun (v58 : Int32) => s38 v58 M57)) fun j55 => br (v46 = 0) (j55 (0 : Int32)) (gA y (y.2.1 a0 9) 1 v36 (j55 (M52.1 (y.2.1 a0 9) v36.toNatClampNeg)))))) fun j50 => br (v46 = 0) (j50 (0 : Int32)) (gA y (y.2.1 a0 8) 1 v36 (j50 (M37.1 (y.2.1 a0 8) v36.toNatClampNeg))))) fun j47 => br ((M37.1 (y.2.1 a0 5) (2 : Int32).toNatClampNeg) ≤ v36) (j47 (0 : Int32)) (j47 (1 : Int32))))) FUEL (0 : Int32) M31) (gN (y.2.1 a0 28) (cp (f_X12_isOf y (M31.1 a0 34) v30 M31) fun (r68 : Int32) => jn (fun (v69 : Int32) => gA y (y.2.1 a0 28) 1 v30 (lt (wI M31 (y.2.1 a0 28) v30.toNatClampNeg v69) fun (M72 : Mem) => lt (v30 + (1 : Int32)) fun (v73 : Int32) => s32 v73 M72)) fun j70 => br (r68 = 0) (gA y (y.2.1 a0 6) 1 v30 (j70 (M31.1 (y.2.1 a0 6) v30.toNatClampNeg))) (j70 (0 : Int32))))) FUEL (0 : Int32) M29))))))))))
theorem w_X12_takeOver {g : GX} {l : Launch} (hG : GF g l) (y : Lay) (a0 : Nat) (M : Mem) : C0 g l yX12_takeOver cX12_takeOver 3 none 1 y [.ref a0] M (f_X12_takeOver y a0 M) := by
  refine C0_of hG (by decide) [some (.ref a0), none, none] rfl rfl (fun out h x Q C R => ?_)
  unfold f_X12_takeOver at h
  refine g_aload_n C tb_X12_takeOver_0_ok (i := 0) rfl rfl ?_
  obtain ⟨k1, h⟩ := gK_e h
  obtain ⟨n2, h⟩ := gN_e h
  refine g_getR C tb_X12_takeOver_0_ok (i := 1) rfl fl_X12_40 rfl k1 n2 ?_
  obtain ⟨r3, M4, er3, h⟩ := c0_e h
  refine g_callS0 C tb_X12_takeOver_0_ok (i := 2) [.ref (y.2.1 a0 5)] rfl mw_X12_takeHalf mst_X12_takeHalf ml_X12_327 rfl rfl rfl rfl (w_X12_takeHalf C.G y (y.2.1 a0 5) M) er3 rfl rfl rfl ?_
  refine g_aload_n C tb_X12_takeOver_0_ok (i := 3) rfl rfl ?_
  obtain ⟨n5, h⟩ := gN_e h
  refine g_getR C tb_X12_takeOver_0_ok (i := 4) rfl fl_X12_44 rfl k1 n5 ?_
  obtain ⟨r6, M7, er6, h⟩ := c0_e h
  refine g_callS0 C tb_X12_takeOver_0_ok (i := 5) [.ref (y.2.1 a0 6)] rfl mw_X12_takeHalf mst_X12_takeHalf ml_X12_327 rfl rfl rfl rfl (w_X12_takeHalf C.G y (y.2.1 a0 6) M4) er6 rfl rfl rfl ?_
  refine g_aload_n C tb_X12_takeOver_0_ok (i := 6) rfl rfl ?_
  obtain ⟨n8, h⟩ := gN_e h
  refine g_getR C tb_X12_takeOver_0_ok (i := 7) rfl fl_X12_47 rfl k1 n8 ?_
  obtain ⟨r9, M10, er9, h⟩ := c0_e h
  refine g_callS0 C tb_X12_takeOver_0_ok (i := 8) [.ref (y.2.1 a0 7)] rfl mw_X12_takeHalf mst_X12_takeHalf ml_X12_327 rfl rfl rfl rfl (w_X12_takeHalf C.G y (y.2.1 a0 7) M7) er9 rfl rfl rfl ?_
  refine g_aload_n C tb_X12_takeOver_0_ok (i := 9) rfl rfl ?_
  obtain ⟨n11, h⟩ := gN_e h
  refine g_getR C tb_X12_takeOver_0_ok (i := 10) rfl fl_X12_50 rfl k1 n11 ?_
  obtain ⟨r12, M13, er12, h⟩ := c0_e h
  refine g_callS0 C tb_X12_takeOver_0_ok (i := 11) [.ref (y.2.1 a0 8)] rfl mw_X12_takeHalf mst_X12_takeHalf ml_X12_327 rfl rfl rfl rfl (w_X12_takeHalf C.G y (y.2.1 a0 8) M10) er12 rfl rfl rfl ?_
  refine g_aload_n C tb_X12_takeOver_0_ok (i := 12) rfl rfl ?_
  obtain ⟨n14, h⟩ := gN_e h
  refine g_getR C tb_X12_takeOver_0_ok (i := 13) rfl fl_X12_53 rfl k1 n14 ?_
  obtain ⟨r15, M16, er15, h⟩ := c0_e h
  refine g_callS0 C tb_X12_takeOver_0_ok (i := 14) [.ref (y.2.1 a0 9)] rfl mw_X12_takeHalf mst_X12_takeHalf ml_X12_327 rfl rfl rfl rfl (w_X12_takeHalf C.G y (y.2.1 a0 9) M13) er15 rfl rfl rfl ?_
  refine g_aload_n C tb_X12_takeOver_0_ok (i := 15) rfl rfl ?_
  obtain ⟨n17, h⟩ := gN_e h
  refine g_getR C tb_X12_takeOver_0_ok (i := 16) rfl fl_X12_56 rfl k1 n17 ?_
  obtain ⟨r18, M19, er18, h⟩ := c0_e h
  refine g_callS0 C tb_X12_takeOver_0_ok (i := 17) [.ref (y.2.1 a0 10)] rfl mw_X12_takeHalf mst_X12_takeHalf ml_X12_327 rfl rfl rfl rfl (w_X12_takeHalf C.G y (y.2.1 a0 10) M16) er18 rfl rfl rfl ?_
  refine g_aload_n C tb_X12_takeOver_0_ok (i := 18) rfl rfl ?_
  obtain ⟨n20, h⟩ := gN_e h
  refine g_getR C tb_X12_takeOver_0_ok (i := 19) rfl fl_X12_59 rfl k1 n20 ?_
  obtain ⟨r21, M22, er21, h⟩ := c0_e h
  refine g_callS0 C tb_X12_takeOver_0_ok (i := 20) [.ref (y.2.1 a0 11)] rfl mw_X12_takeHalf mst_X12_takeHalf ml_X12_327 rfl rfl rfl rfl (w_X12_takeHalf C.G y (y.2.1 a0 11) M19) er21 rfl rfl rfl ?_
  refine g_aload_n C tb_X12_takeOver_0_ok (i := 21) rfl rfl ?_
  refine g_iconstv C tb_X12_takeOver_0_ok (i := 22) 0 rfl k_iconstv_0 ?_
  refine g_putI C tb_X12_takeOver_0_ok (i := 23) rfl fl_X12_331 ft_12_31 rfl k1 ?_
  refine g_mem (fun M23 eM23 => ?_)
  have h := lt_e eM23 h
  refine g_aload_n C tb_X12_takeOver_0_ok (i := 24) rfl rfl ?_
  refine g_aload_n C tb_X12_takeOver_0_ok (i := 25) rfl rfl ?_
  refine g_getR C tb_X12_takeOver_0_ok (i := 26) rfl fl_X12_40 rfl k1 n2 ?_
  refine g_iconstv C tb_X12_takeOver_0_ok (i := 27) 3 rfl k_iconstv_3 ?_
  obtain ⟨b24, h⟩ := gA_e h
  refine g_iald C tb_X12_takeOver_0_ok (i := 28) rfl b24 ?_
  refine g_putI C tb_X12_takeOver_0_ok (i := 29) rfl fl_X12_147 ft_12_32 rfl k1 ?_
  refine g_mem (fun M25 eM25 => ?_)
  have h := lt_e eM25 h
  refine g_aload_n C tb_X12_takeOver_0_ok (i := 30) rfl rfl ?_
  refine g_iconstv C tb_X12_takeOver_0_ok (i := 31) 0 rfl k_iconstv_0 ?_
  refine g_putI C tb_X12_takeOver_0_ok (i := 32) rfl fl_X12_333 ft_12_33 rfl k1 ?_
  refine g_mem (fun M26 eM26 => ?_)
  have h := lt_e eM26 h
  refine g_aload_n C tb_X12_takeOver_0_ok (i := 33) rfl rfl ?_
  refine g_aload_n C tb_X12_takeOver_0_ok (i := 34) rfl rfl ?_
  refine g_getR C tb_X12_takeOver_0_ok (i := 35) rfl fl_X12_40 rfl k1 n2 ?_
  refine g_bipushv C tb_X12_takeOver_0_ok (i := 36) 8 rfl k_bipushv_8 ?_
  obtain ⟨b27, h⟩ := gA_e h
  refine g_iald C tb_X12_takeOver_0_ok (i := 37) rfl b27 ?_
  refine g_putI C tb_X12_takeOver_0_ok (i := 38) rfl fl_X12_336 ft_12_34 rfl k1 ?_
  refine g_mem (fun M28 eM28 => ?_)
  have h := lt_e eM28 h
  refine g_aload_n C tb_X12_takeOver_0_ok (i := 39) rfl rfl ?_
  refine g_iconstv C tb_X12_takeOver_1_ok (i := 0) 0 rfl k_iconstv_0 ?_
  refine g_putI C tb_X12_takeOver_1_ok (i := 1) rfl fl_X12_339 ft_12_35 rfl k1 ?_
  refine g_mem (fun M29 eM29 => ?_)
  have h := lt_e eM29 h
  refine g_iconstv C tb_X12_takeOver_1_ok (i := 2) 0 rfl k_iconstv_0 ?_
  refine g_istore_n C tb_X12_takeOver_1_ok (i := 3) rfl rfl rfl ?_
  refine g_less (L' := [some (.ref a0), some (.int (0 : Int32)), none]) ⟨rfl, ⟨rfl, trivial⟩⟩ ?_
  refine fix_i (P := fun (f : Int32 → Mem → Option (Int32 × Mem)) => ∀ (v30 : Int32) (M31 : Mem), f v30 M31 = some out → GG g x 3 Q 0 0 y M31 87 [some (.ref a0), some (.int v30), none] []) ?_ ?_ _ (0 : Int32) M29 h
  · intro v30 M31 h; exact (nn_e h).elim
  · intro s32 ih33 v30 M31 h
    refine g_iload_n C tb_X12_takeOver_1_ok (i := 4) rfl rfl ?_
    refine g_bipushv C tb_X12_takeOver_1_ok (i := 5) 30 rfl k_bipushv_30 ?_
    obtain ⟨t34, f35⟩ := br_e h
    refine g_icmp_ge C tb_X12_takeOver_1_ok (i := 6) 126 rfl rfl (fun c => ?_) (fun c => ?_)
    · have h := t34 c
      refine g_iconstv C tb_X12_takeOver_1_ok (i := 24) 0 rfl k_iconstv_0 ?_
      refine g_istore_n C tb_X12_takeOver_1_ok (i := 25) rfl rfl rfl ?_
      refine g_less (L' := [some (.ref a0), some (.int (0 : Int32)), none]) ⟨rfl, ⟨rfl, trivial⟩⟩ ?_
      refine fix_i (P := fun (f : Int32 → Mem → Option (Int32 × Mem)) => ∀ (v36 : Int32) (M37 : Mem), f v36 M37 = some out → GG g x 3 Q 0 0 y M37 128 [some (.ref a0), some (.int v36), none] []) ?_ ?_ _ (0 : Int32) M31 h
      · intro v36 M37 h; exact (nn_e h).elim
      · intro s38 ih39 v36 M37 h
        refine g_iload_n C tb_X12_takeOver_1_ok (i := 26) rfl rfl ?_
        refine g_bipushv C tb_X12_takeOver_1_ok (i := 27) 6 rfl k_bipushv_6 ?_
        obtain ⟨t40, f41⟩ := br_e h
        refine g_icmp_ge C tb_X12_takeOver_1_ok (i := 28) 196 rfl rfl (fun c => ?_) (fun c => ?_)
        · have h := t40 c
          refine g_aload_n C tb_X12_takeOver_2_ok (i := 25) rfl rfl ?_
          refine g_iconstv C tb_X12_takeOver_2_ok (i := 26) 0 rfl k_iconstv_0 ?_
          refine g_putI C tb_X12_takeOver_2_ok (i := 27) rfl fl_X12_342 ft_12_36 rfl k1 ?_
          refine g_mem (fun M42 eM42 => ?_)
          have h := lt_e eM42 h
          refine g_aload_n C tb_X12_takeOver_2_ok (i := 28) rfl rfl ?_
          refine g_iconstv C tb_X12_takeOver_2_ok (i := 29) 0 rfl k_iconstv_0 ?_
          refine g_putI C tb_X12_takeOver_2_ok (i := 30) rfl fl_X12_345 ft_12_37 rfl k1 ?_
          refine g_mem (fun M43 eM43 => ?_)
          have h := lt_e eM43 h
          refine g_aload_n C tb_X12_takeOver_2_ok (i := 31) rfl rfl ?_
          refine g_iconstv C tb_X12_takeOver_2_ok (i := 32) 0 rfl k_iconstv_0 ?_
          refine g_putZ C tb_X12_takeOver_2_ok (i := 33) rfl fl_X12_348 ft_12_55 rfl (by decide) k1 ?_
          refine g_mem (fun M44 eM44 => ?_)
          have h := lt_e eM44 h
          cases h
          exact g_vret0 C R tb_X12_takeOver_2_ok (i := 34) rfl
        · have h := f41 c
          refine g_iload_n C tb_X12_takeOver_1_ok (i := 29) rfl rfl ?_
          refine g_aload_n C tb_X12_takeOver_1_ok (i := 30) rfl rfl ?_
          refine g_getR C tb_X12_takeOver_1_ok (i := 31) rfl fl_X12_40 rfl k1 n2 ?_
          refine g_iconstv C tb_X12_takeOver_1_ok (i := 32) 2 rfl k_iconstv_2 ?_
          obtain ⟨b45, h⟩ := gA_e h
          refine g_iald C tb_X12_takeOver_1_ok (i := 33) rfl b45 ?_
          obtain ⟨j47, ej47, h⟩ := jn_e h
          have J149 : ∀ (v46 : Int32), j47 v46 = some out → GG g x 3 Q 0 0 y M37 149 [some (.ref a0), some (.int v36), none] [.int v46] := by
            intro v46 h; subst ej47
            refine g_istore_n C tb_X12_takeOver_1_ok (i := 38) rfl rfl rfl ?_
            refine g_aload_n C tb_X12_takeOver_1_ok (i := 39) rfl rfl ?_
            obtain ⟨n48, h⟩ := gN_e h
            refine g_getR C tb_X12_takeOver_2_ok (i := 0) rfl fl_X12_65 rfl k1 n48 ?_
            refine g_iload_n C tb_X12_takeOver_2_ok (i := 1) rfl rfl ?_
            refine g_iload_n C tb_X12_takeOver_2_ok (i := 2) rfl rfl ?_
            obtain ⟨j50, ej50, h⟩ := jn_e h
            have J169 : ∀ (v49 : Int32), j50 v49 = some out → GG g x 3 Q 0 0 y M37 169 [some (.ref a0), some (.int v36), some (.int v46)] [.int v49, .int v36, .ref (y.2.1 a0 13)] := by
              intro v49 h; subst ej50
              obtain ⟨b51, h⟩ := gA_e h
              refine g_iast C tb_X12_takeOver_2_ok (i := 10) rfl b51 ?_
              refine g_mem (fun M52 eM52 => ?_)
              have h := lt_e eM52 h
              refine g_aload_n C tb_X12_takeOver_2_ok (i := 11) rfl rfl ?_
              obtain ⟨n53, h⟩ := gN_e h
              refine g_getR C tb_X12_takeOver_2_ok (i := 12) rfl fl_X12_77 rfl k1 n53 ?_
              refine g_iload_n C tb_X12_takeOver_2_ok (i := 13) rfl rfl ?_
              refine g_iload_n C tb_X12_takeOver_2_ok (i := 14) rfl rfl ?_
              obtain ⟨j55, ej55, h⟩ := jn_e h
              have J189 : ∀ (v54 : Int32), j55 v54 = some out → GG g x 3 Q 0 0 y M52 189 [some (.ref a0), some (.int v36), none] [.int v54, .int v36, .ref (y.2.1 a0 29)] := by
                intro v54 h; subst ej55
                obtain ⟨b56, h⟩ := gA_e h
                refine g_iast C tb_X12_takeOver_2_ok (i := 22) rfl b56 ?_
                refine g_mem (fun M57 eM57 => ?_)
                have h := lt_e eM57 h
                obtain ⟨v58, ev58⟩ : ∃ w : Int32, w = v36 + (1 : Int32) := ⟨_, rfl⟩
                have h := lt_e ev58 h
                refine g_iincv C tb_X12_takeOver_2_ok (i := 23) (1 : Int32) ev58 rfl rfl k_iconstv_1 rfl rfl ?_
                refine g_goto C tb_X12_takeOver_2_ok (i := 24) 128 rfl rfl ?_
                exact g_less (L' := [some (.ref a0), some (.int v58), none]) ⟨rfl, ⟨rfl, trivial⟩⟩ (ih39 v58 M57 h)
              obtain ⟨t59, f60⟩ := br_e h
              refine g_if_eq C tb_X12_takeOver_2_ok (i := 15) 188 rfl rfl (fun c => ?_) (fun c => ?_)
              · have h := t59 c
                refine g_iconstv C tb_X12_takeOver_2_ok (i := 21) 0 rfl k_iconstv_0 ?_
                exact g_less (L' := [some (.ref a0), some (.int v36), none]) ⟨rfl, ⟨rfl, trivial⟩⟩ (J189 (0 : Int32) h)
              · have h := f60 c
                refine g_aload_n C tb_X12_takeOver_2_ok (i := 16) rfl rfl ?_
                refine g_getR C tb_X12_takeOver_2_ok (i := 17) rfl fl_X12_53 rfl k1 n14 ?_
                refine g_iload_n C tb_X12_takeOver_2_ok (i := 18) rfl rfl ?_
                obtain ⟨b61, h⟩ := gA_e h
                refine g_iald C tb_X12_takeOver_2_ok (i := 19) rfl b61 ?_
                refine g_goto C tb_X12_takeOver_2_ok (i := 20) 189 rfl rfl ?_
                exact g_less (L' := [some (.ref a0), some (.int v36), none]) ⟨rfl, ⟨rfl, trivial⟩⟩ (J189 (M52.1 (y.2.1 a0 9) v36.toNatClampNeg) h)
            obtain ⟨t62, f63⟩ := br_e h
            refine g_if_eq C tb_X12_takeOver_2_ok (i := 3) 168 rfl rfl (fun c => ?_) (fun c => ?_)
            · have h := t62 c
              refine g_iconstv C tb_X12_takeOver_2_ok (i := 9) 0 rfl k_iconstv_0 ?_
              exact g_less (L' := [some (.ref a0), some (.int v36), some (.int v46)]) ⟨rfl, ⟨rfl, ⟨rfl, trivial⟩⟩⟩ (J169 (0 : Int32) h)
            · have h := f63 c
              refine g_aload_n C tb_X12_takeOver_2_ok (i := 4) rfl rfl ?_
              refine g_getR C tb_X12_takeOver_2_ok (i := 5) rfl fl_X12_50 rfl k1 n11 ?_
              refine g_iload_n C tb_X12_takeOver_2_ok (i := 6) rfl rfl ?_
              obtain ⟨b64, h⟩ := gA_e h
              refine g_iald C tb_X12_takeOver_2_ok (i := 7) rfl b64 ?_
              refine g_goto C tb_X12_takeOver_2_ok (i := 8) 169 rfl rfl ?_
              exact g_less (L' := [some (.ref a0), some (.int v36), some (.int v46)]) ⟨rfl, ⟨rfl, ⟨rfl, trivial⟩⟩⟩ (J169 (M37.1 (y.2.1 a0 8) v36.toNatClampNeg) h)
          obtain ⟨t65, f66⟩ := br_e h
          refine g_icmp_ge C tb_X12_takeOver_1_ok (i := 34) 148 rfl rfl (fun c => ?_) (fun c => ?_)
          · have h := t65 c
            refine g_iconstv C tb_X12_takeOver_1_ok (i := 37) 0 rfl k_iconstv_0 ?_
            exact g_less (L' := [some (.ref a0), some (.int v36), none]) ⟨rfl, ⟨rfl, trivial⟩⟩ (J149 (0 : Int32) h)
          · have h := f66 c
            refine g_iconstv C tb_X12_takeOver_1_ok (i := 35) 1 rfl k_iconstv_1 ?_
            refine g_goto C tb_X12_takeOver_1_ok (i := 36) 149 rfl rfl ?_
            exact g_less (L' := [some (.ref a0), some (.int v36), none]) ⟨rfl, ⟨rfl, trivial⟩⟩ (J149 (1 : Int32) h)
    · have h := f35 c
      refine g_aload_n C tb_X12_takeOver_1_ok (i := 7) rfl rfl ?_
      obtain ⟨n67, h⟩ := gN_e h
      refine g_getR C tb_X12_takeOver_1_ok (i := 8) rfl fl_X12_75 rfl k1 n67 ?_
      refine g_iload_n C tb_X12_takeOver_1_ok (i := 9) rfl rfl ?_
      refine g_aload_n C tb_X12_takeOver_1_ok (i := 10) rfl rfl ?_
      refine g_getI C tb_X12_takeOver_1_ok (i := 11) rfl fl_X12_336 rfl k1 ?_
      refine g_iload_n C tb_X12_takeOver_1_ok (i := 12) rfl rfl ?_
      obtain ⟨r68, er68, h⟩ := cp_e h
      refine g_callS0 C tb_X12_takeOver_1_ok (i := 13) [.int (M31.1 a0 34), .int v30] rfl mw_X12_isOf mst_X12_isOf ml_X12_232 rfl rfl rfl rfl (w_X12_isOf C.G y (M31.1 a0 34) v30 M31) (pm_s er68) rfl rfl rfl ?_
      obtain ⟨j70, ej70, h⟩ := jn_e h
      have J119 : ∀ (v69 : Int32), j70 v69 = some out → GG g x 3 Q 0 0 y M31 119 [some (.ref a0), some (.int v30), none] [.int v69, .int v30, .ref (y.2.1 a0 28)] := by
        intro v69 h; subst ej70
        obtain ⟨b71, h⟩ := gA_e h
        refine g_iast C tb_X12_takeOver_1_ok (i := 21) rfl b71 ?_
        refine g_mem (fun M72 eM72 => ?_)
        have h := lt_e eM72 h
        obtain ⟨v73, ev73⟩ : ∃ w : Int32, w = v30 + (1 : Int32) := ⟨_, rfl⟩
        have h := lt_e ev73 h
        refine g_iincv C tb_X12_takeOver_1_ok (i := 22) (1 : Int32) ev73 rfl rfl k_iconstv_1 rfl rfl ?_
        refine g_goto C tb_X12_takeOver_1_ok (i := 23) 87 rfl rfl ?_
        exact g_less (L' := [some (.ref a0), some (.int v73), none]) ⟨rfl, ⟨rfl, trivial⟩⟩ (ih33 v73 M72 h)
      obtain ⟨t74, f75⟩ := br_e h
      refine g_if_eq C tb_X12_takeOver_1_ok (i := 14) 113 rfl rfl (fun c => ?_) (fun c => ?_)
      · have h := t74 c
        refine g_aload_n C tb_X12_takeOver_1_ok (i := 17) rfl rfl ?_
        refine g_getR C tb_X12_takeOver_1_ok (i := 18) rfl fl_X12_44 rfl k1 n5 ?_
        refine g_iload_n C tb_X12_takeOver_1_ok (i := 19) rfl rfl ?_
        obtain ⟨b76, h⟩ := gA_e h
        refine g_iald C tb_X12_takeOver_1_ok (i := 20) rfl b76 ?_
        exact g_less (L' := [some (.ref a0), some (.int v30), none]) ⟨rfl, ⟨rfl, trivial⟩⟩ (J119 (M31.1 (y.2.1 a0 6) v30.toNatClampNeg) h)
      · have h := f75 c
        refine g_iconstv C tb_X12_takeOver_1_ok (i := 15) 0 rfl k_iconstv_0 ?_
        refine g_goto C tb_X12_takeOver_1_ok (i := 16) 119 rfl rfl ?_
        exact g_less (L' := [some (.ref a0), some (.int v30), none]) ⟨rfl, ⟨rfl, trivial⟩⟩ (J119 (0 : Int32) h)
def f_X12_coast (y : Lay) (a0 : Nat) (a1 : Int32) (M : Mem) : Option (Int32 × Mem) := gK y a0 (0, 12) (lt (wI M a0 4 (0 : Int32)) fun (M2 : Mem) => jn (fun (_u : Unit) => c0 (f_X12_fail y a0 (1 : Int32) M2) fun (r4 : Int32) (M5 : Mem) => some (r4, M5)) fun j3 => br (a1 < 0) (j3 ()) (br (a1 ≤ (M2.1 a0 15)) (lt (wI M2 a0 15 (0 : Int32)) fun (M10 : Mem) => lt (wI M10 a0 17 a1) fun (M11 : Mem) => lt (wI M11 a0 16 (0 : Int32)) fun (M12 : Mem) => lt (wI M12 a0 22 (0 : Int32)) fun (M13 : Mem) => lt (wI M13 a0 24 ((-1) : Int32)) fun (M14 : Mem) => lt (wI M14 a0 25 (0 : Int32)) fun (M15 : Mem) => lt (wI M15 a0 26 (0 : Int32)) fun (M16 : Mem) => c0 (f_X12_begin y a0 (9 : Int32) M16) fun (r17 : Int32) (M18 : Mem) => fixN (fun _ _ => none) (fun (s21 : Int32 → Mem → Option (Int32 × Mem)) (v19 : Int32) (M20 : Mem) => br ((30 : Int32) ≤ v19) (c0 (f_X12_stepOn y a0 M20) fun (r25 : Int32) (M26 : Mem) => fixN (fun _ _ => none) (fun (s29 : Int32 → Mem → Option (Int32 × Mem)) (v27 : Int32) (M28 : Mem) => jn (fun (_u : Unit) => br ((M28.1 a0 22) = 0) (c0 (f_X12_takeOver y a0 M28) fun (r34 : Int32) (M35 : Mem) => some ((0 : Int32), M35)) (lt (wI M28 a0 24 (M28.1 a0 23)) fun (M36 : Mem) => gN (y.2.1 a0 12) (gA y (y.2.1 a0 12) 1 (0 : Int32) (gA y (y.2.1 a0 12) 1 (0 : Int32) (lt (wI M36 (y.2.1 a0 12) (0 : Int32).toNatClampNeg ((M36.1 (y.2.1 a0 12) (0 : Int32).toNatClampNeg) + (1 : Int32))) fun (M40 : Mem) => some ((M40.1 a0 22), M40)))))) fun j31 => br ((M28.1 a0 22) = 0) (br ((M28.1 a0 18) = 0) (j31 ()) (c0 (f_X12_readLine y a0 v27 M28) fun (r45 : Int32) (M46 : Mem) => s29 r45 M46)) (j31 ())) FUEL (0 : Int32) M26) (gN (y.2.1 a0 6) (gA y (y.2.1 a0 6) 1 ((30 : Int32) + v19) (lt (wI M20 (y.2.1 a0 6) ((30 : Int32) + v19).toNatClampNeg (0 : Int32)) fun (M49 : Mem) => lt (v19 + (1 : Int32)) fun (v50 : Int32) => s21 v50 M49)))) FUEL (0 : Int32) M18) (j3 ())))
theorem w_X12_coast {g : GX} {l : Launch} (hG : GF g l) (y : Lay) (a0 : Nat) (a1 : Int32) (M : Mem) : C0 g l yX12_coast cX12_coast 3 (some .int) 82 y [.ref a0, .int a1] M (f_X12_coast y a0 a1 M) := by
  refine C0_of hG (by decide) [some (.ref a0), some (.int a1), none] rfl rfl (fun out h x Q C R => ?_)
  unfold f_X12_coast at h
  refine g_aload_n C tb_X12_coast_0_ok (i := 0) rfl rfl ?_
  refine g_iconstv C tb_X12_coast_0_ok (i := 1) 0 rfl k_iconstv_0 ?_
  obtain ⟨k1, h⟩ := gK_e h
  refine g_putI C tb_X12_coast_0_ok (i := 2) rfl fl_X12_150 ft_12_4 rfl k1 ?_
  refine g_mem (fun M2 eM2 => ?_)
  have h := lt_e eM2 h
  refine g_iload_n C tb_X12_coast_0_ok (i := 3) rfl rfl ?_
  obtain ⟨j3, ej3, h⟩ := jn_e h
  have J17 : ∀ (_u : Unit), j3 _u = some out → GG g x 3 Q 0 0 y M2 17 [some (.ref a0), none, none] [] := by
    intro _u h; subst ej3
    refine g_aload_n C tb_X12_coast_0_ok (i := 9) rfl rfl ?_
    refine g_iconstv C tb_X12_coast_0_ok (i := 10) 1 rfl k_iconstv_1 ?_
    obtain ⟨r4, M5, er4, h⟩ := c0_e h
    refine g_callV0 C tb_X12_coast_0_ok (i := 11) [.int (1 : Int32)] rfl mw_X12_fail mv_X12_fail ml_X12_318 k1 rfl rfl rfl rfl (w_X12_fail C.G y a0 (1 : Int32) M2) er4 rfl rfl rfl ?_
    cases h
    exact g_iret0 C R tb_X12_coast_0_ok (i := 12) rfl
  obtain ⟨t6, f7⟩ := br_e h
  refine g_if_lt C tb_X12_coast_0_ok (i := 4) 17 rfl rfl (fun c => ?_) (fun c => ?_)
  · have h := t6 c
    exact g_less (L' := [some (.ref a0), none, none]) ⟨rfl, trivial⟩ (J17 () h)
  · have h := f7 c
    refine g_iload_n C tb_X12_coast_0_ok (i := 5) rfl rfl ?_
    refine g_aload_n C tb_X12_coast_0_ok (i := 6) rfl rfl ?_
    refine g_getI C tb_X12_coast_0_ok (i := 7) rfl fl_X12_161 rfl k1 ?_
    obtain ⟨t8, f9⟩ := br_e h
    refine g_icmp_le C tb_X12_coast_0_ok (i := 8) 23 rfl rfl (fun c => ?_) (fun c => ?_)
    · have h := t8 c
      refine g_aload_n C tb_X12_coast_0_ok (i := 13) rfl rfl ?_
      refine g_iconstv C tb_X12_coast_0_ok (i := 14) 0 rfl k_iconstv_0 ?_
      refine g_putI C tb_X12_coast_0_ok (i := 15) rfl fl_X12_161 ft_12_15 rfl k1 ?_
      refine g_mem (fun M10 eM10 => ?_)
      have h := lt_e eM10 h
      refine g_aload_n C tb_X12_coast_0_ok (i := 16) rfl rfl ?_
      refine g_iload_n C tb_X12_coast_0_ok (i := 17) rfl rfl ?_
      refine g_putI C tb_X12_coast_0_ok (i := 18) rfl fl_X12_164 ft_12_17 rfl k1 ?_
      refine g_mem (fun M11 eM11 => ?_)
      have h := lt_e eM11 h
      refine g_aload_n C tb_X12_coast_0_ok (i := 19) rfl rfl ?_
      refine g_iconstv C tb_X12_coast_0_ok (i := 20) 0 rfl k_iconstv_0 ?_
      refine g_putI C tb_X12_coast_0_ok (i := 21) rfl fl_X12_167 ft_12_16 rfl k1 ?_
      refine g_mem (fun M12 eM12 => ?_)
      have h := lt_e eM12 h
      refine g_aload_n C tb_X12_coast_0_ok (i := 22) rfl rfl ?_
      refine g_iconstv C tb_X12_coast_0_ok (i := 23) 0 rfl k_iconstv_0 ?_
      refine g_putI C tb_X12_coast_0_ok (i := 24) rfl fl_X12_203 ft_12_22 rfl k1 ?_
      refine g_mem (fun M13 eM13 => ?_)
      have h := lt_e eM13 h
      refine g_aload_n C tb_X12_coast_0_ok (i := 25) rfl rfl ?_
      refine g_iconstv C tb_X12_coast_0_ok (i := 26) (-1) rfl k_iconstv_m1 ?_
      refine g_putI C tb_X12_coast_0_ok (i := 27) rfl fl_X12_71 ft_12_24 rfl k1 ?_
      refine g_mem (fun M14 eM14 => ?_)
      have h := lt_e eM14 h
      refine g_aload_n C tb_X12_coast_0_ok (i := 28) rfl rfl ?_
      refine g_iconstv C tb_X12_coast_0_ok (i := 29) 0 rfl k_iconstv_0 ?_
      refine g_putI C tb_X12_coast_0_ok (i := 30) rfl fl_X12_280 ft_12_25 rfl k1 ?_
      refine g_mem (fun M15 eM15 => ?_)
      have h := lt_e eM15 h
      refine g_aload_n C tb_X12_coast_0_ok (i := 31) rfl rfl ?_
      refine g_iconstv C tb_X12_coast_0_ok (i := 32) 0 rfl k_iconstv_0 ?_
      refine g_putZ C tb_X12_coast_0_ok (i := 33) rfl fl_X12_236 ft_12_26 rfl (by decide) k1 ?_
      refine g_mem (fun M16 eM16 => ?_)
      have h := lt_e eM16 h
      refine g_aload_n C tb_X12_coast_0_ok (i := 34) rfl rfl ?_
      refine g_bipushv C tb_X12_coast_0_ok (i := 35) 9 rfl k_bipushv_9 ?_
      obtain ⟨r17, M18, er17, h⟩ := c0_e h
      refine g_callV0 C tb_X12_coast_0_ok (i := 36) [.int (9 : Int32)] rfl mw_X12_begin mv_X12_begin ml_X12_143 k1 rfl rfl rfl rfl (w_X12_begin C.G y a0 (9 : Int32) M16) er17 rfl rfl rfl ?_
      refine g_iconstv C tb_X12_coast_0_ok (i := 37) 0 rfl k_iconstv_0 ?_
      refine g_istore_n C tb_X12_coast_0_ok (i := 38) rfl rfl rfl ?_
      refine g_less (L' := [some (.ref a0), none, some (.int (0 : Int32))]) ⟨rfl, ⟨rfl, trivial⟩⟩ ?_
      refine fix_i (P := fun (f : Int32 → Mem → Option (Int32 × Mem)) => ∀ (v19 : Int32) (M20 : Mem), f v19 M20 = some out → GG g x 3 Q 0 0 y M20 66 [some (.ref a0), none, some (.int v19)] []) ?_ ?_ _ (0 : Int32) M18 h
      · intro v19 M20 h; exact (nn_e h).elim
      · intro s21 ih22 v19 M20 h
        refine g_iload_n C tb_X12_coast_0_ok (i := 39) rfl rfl ?_
        refine g_bipushv C tb_X12_coast_1_ok (i := 0) 30 rfl k_bipushv_30 ?_
        obtain ⟨t23, f24⟩ := br_e h
        refine g_icmp_ge C tb_X12_coast_1_ok (i := 1) 88 rfl rfl (fun c => ?_) (fun c => ?_)
        · have h := t23 c
          refine g_aload_n C tb_X12_coast_1_ok (i := 11) rfl rfl ?_
          obtain ⟨r25, M26, er25, h⟩ := c0_e h
          refine g_callV0 C tb_X12_coast_1_ok (i := 12) [] rfl mw_X12_stepOn mv_X12_stepOn ml_X12_226 k1 rfl rfl rfl rfl (w_X12_stepOn C.G y a0 M20) er25 rfl rfl rfl ?_
          refine g_iconstv C tb_X12_coast_1_ok (i := 13) 0 rfl k_iconstv_0 ?_
          refine g_istore_n C tb_X12_coast_1_ok (i := 14) rfl rfl rfl ?_
          refine g_less (L' := [some (.ref a0), none, some (.int (0 : Int32))]) ⟨rfl, ⟨rfl, trivial⟩⟩ ?_
          refine fix_i (P := fun (f : Int32 → Mem → Option (Int32 × Mem)) => ∀ (v27 : Int32) (M28 : Mem), f v27 M28 = some out → GG g x 3 Q 0 0 y M28 94 [some (.ref a0), none, some (.int v27)] []) ?_ ?_ _ (0 : Int32) M26 h
          · intro v27 M28 h; exact (nn_e h).elim
          · intro s29 ih30 v27 M28 h
            refine g_aload_n C tb_X12_coast_1_ok (i := 15) rfl rfl ?_
            refine g_getI C tb_X12_coast_1_ok (i := 16) rfl fl_X12_203 rfl k1 ?_
            obtain ⟨j31, ej31, h⟩ := jn_e h
            have J117 : ∀ (_u : Unit), j31 _u = some out → GG g x 3 Q 0 0 y M28 117 [some (.ref a0), none, none] [] := by
              intro _u h; subst ej31
              refine g_aload_n C tb_X12_coast_1_ok (i := 26) rfl rfl ?_
              refine g_getI C tb_X12_coast_1_ok (i := 27) rfl fl_X12_203 rfl k1 ?_
              obtain ⟨t32, f33⟩ := br_e h
              refine g_if_eq C tb_X12_coast_1_ok (i := 28) 147 rfl rfl (fun c => ?_) (fun c => ?_)
              · have h := t32 c
                refine g_aload_n C tb_X12_coast_2_ok (i := 4) rfl rfl ?_
                obtain ⟨r34, M35, er34, h⟩ := c0_e h
                refine g_callV0 C tb_X12_coast_2_ok (i := 5) [] rfl mw_X12_takeOver mv_X12_takeOver ml_X12_324 k1 rfl rfl rfl rfl (w_X12_takeOver C.G y a0 M28) er34 rfl rfl rfl ?_
                refine g_iconstv C tb_X12_coast_2_ok (i := 6) 0 rfl k_iconstv_0 ?_
                cases h
                exact g_iret0 C R tb_X12_coast_2_ok (i := 7) rfl
              · have h := f33 c
                refine g_aload_n C tb_X12_coast_1_ok (i := 29) rfl rfl ?_
                refine g_aload_n C tb_X12_coast_1_ok (i := 30) rfl rfl ?_
                refine g_getI C tb_X12_coast_1_ok (i := 31) rfl fl_X12_206 rfl k1 ?_
                refine g_putI C tb_X12_coast_1_ok (i := 32) rfl fl_X12_71 ft_12_24 rfl k1 ?_
                refine g_mem (fun M36 eM36 => ?_)
                have h := lt_e eM36 h
                refine g_aload_n C tb_X12_coast_1_ok (i := 33) rfl rfl ?_
                obtain ⟨n37, h⟩ := gN_e h
                refine g_getR C tb_X12_coast_1_ok (i := 34) rfl fl_X12_62 rfl k1 n37 ?_
                refine g_iconstv C tb_X12_coast_1_ok (i := 35) 0 rfl k_iconstv_0 ?_
                refine g_dup2 C tb_X12_coast_1_ok (i := 36) rfl rfl rfl ?_
                obtain ⟨b38, h⟩ := gA_e h
                refine g_iald C tb_X12_coast_1_ok (i := 37) rfl b38 ?_
                refine g_iconstv C tb_X12_coast_1_ok (i := 38) 1 rfl k_iconstv_1 ?_
                refine g_iadd C tb_X12_coast_1_ok (i := 39) rfl ?_
                obtain ⟨b39, h⟩ := gA_e h
                refine g_iast C tb_X12_coast_2_ok (i := 0) rfl b39 ?_
                refine g_mem (fun M40 eM40 => ?_)
                have h := lt_e eM40 h
                refine g_aload_n C tb_X12_coast_2_ok (i := 1) rfl rfl ?_
                refine g_getI C tb_X12_coast_2_ok (i := 2) rfl fl_X12_203 rfl k1 ?_
                cases h
                exact g_iret0 C R tb_X12_coast_2_ok (i := 3) rfl
            obtain ⟨t41, f42⟩ := br_e h
            refine g_if_ne C tb_X12_coast_1_ok (i := 17) 117 rfl rfl (fun c => ?_) (fun c => ?_)
            · have h := f42 c
              exact g_less (L' := [some (.ref a0), none, none]) ⟨rfl, trivial⟩ (J117 () h)
            · have h := t41 c
              refine g_aload_n C tb_X12_coast_1_ok (i := 18) rfl rfl ?_
              refine g_getI C tb_X12_coast_1_ok (i := 19) rfl fl_X12_177 rfl k1 ?_
              obtain ⟨t43, f44⟩ := br_e h
              refine g_if_eq C tb_X12_coast_1_ok (i := 20) 117 rfl rfl (fun c => ?_) (fun c => ?_)
              · have h := t43 c
                exact g_less (L' := [some (.ref a0), none, none]) ⟨rfl, trivial⟩ (J117 () h)
              · have h := f44 c
                refine g_aload_n C tb_X12_coast_1_ok (i := 21) rfl rfl ?_
                refine g_iload_n C tb_X12_coast_1_ok (i := 22) rfl rfl ?_
                obtain ⟨r45, M46, er45, h⟩ := c0_e h
                refine g_callV0 C tb_X12_coast_1_ok (i := 23) [.int v27] rfl mw_X12_readLine mv_X12_readLine ml_X12_321 k1 rfl rfl rfl rfl (w_X12_readLine C.G y a0 v27 M28) er45 rfl rfl rfl ?_
                refine g_istore_n C tb_X12_coast_1_ok (i := 24) rfl rfl rfl ?_
                refine g_goto C tb_X12_coast_1_ok (i := 25) 94 rfl rfl ?_
                exact g_less (L' := [some (.ref a0), none, some (.int r45)]) ⟨rfl, ⟨rfl, trivial⟩⟩ (ih30 r45 M46 h)
        · have h := f24 c
          refine g_aload_n C tb_X12_coast_1_ok (i := 2) rfl rfl ?_
          obtain ⟨n47, h⟩ := gN_e h
          refine g_getR C tb_X12_coast_1_ok (i := 3) rfl fl_X12_44 rfl k1 n47 ?_
          refine g_bipushv C tb_X12_coast_1_ok (i := 4) 30 rfl k_bipushv_30 ?_
          refine g_iload_n C tb_X12_coast_1_ok (i := 5) rfl rfl ?_
          refine g_iadd C tb_X12_coast_1_ok (i := 6) rfl ?_
          refine g_iconstv C tb_X12_coast_1_ok (i := 7) 0 rfl k_iconstv_0 ?_
          obtain ⟨b48, h⟩ := gA_e h
          refine g_iast C tb_X12_coast_1_ok (i := 8) rfl b48 ?_
          refine g_mem (fun M49 eM49 => ?_)
          have h := lt_e eM49 h
          obtain ⟨v50, ev50⟩ : ∃ w : Int32, w = v19 + (1 : Int32) := ⟨_, rfl⟩
          have h := lt_e ev50 h
          refine g_iincv C tb_X12_coast_1_ok (i := 9) (1 : Int32) ev50 rfl rfl k_iconstv_1 rfl rfl ?_
          refine g_goto C tb_X12_coast_1_ok (i := 10) 66 rfl rfl ?_
          exact g_less (L' := [some (.ref a0), none, some (.int v50)]) ⟨rfl, ⟨rfl, trivial⟩⟩ (ih22 v50 M49 h)
    · have h := f9 c
      exact g_less (L' := [some (.ref a0), none, none]) ⟨rfl, trivial⟩ (J17 () h)
def f_X12_fault (y : Lay) (a0 : Nat) (M : Mem) : Option (Int32 × Mem) := gK y a0 (0, 12) (lt (wI M a0 4 (0 : Int32)) fun (M2 : Mem) => some ((M2.1 a0 24), M2))
theorem w_X12_fault {g : GX} {l : Launch} (hG : GF g l) (y : Lay) (a0 : Nat) (M : Mem) : C0 g l yX12_fault cX12_fault 1 (some .int) 0 y [.ref a0] M (f_X12_fault y a0 M) := by
  refine C0_of hG (by decide) [some (.ref a0)] rfl rfl (fun out h x Q C R => ?_)
  unfold f_X12_fault at h
  refine g_aload_n C tb_X12_fault_0_ok (i := 0) rfl rfl ?_
  refine g_iconstv C tb_X12_fault_0_ok (i := 1) 0 rfl k_iconstv_0 ?_
  obtain ⟨k1, h⟩ := gK_e h
  refine g_putI C tb_X12_fault_0_ok (i := 2) rfl fl_X12_150 ft_12_4 rfl k1 ?_
  refine g_mem (fun M2 eM2 => ?_)
  have h := lt_e eM2 h
  refine g_aload_n C tb_X12_fault_0_ok (i := 3) rfl rfl ?_
  refine g_getI C tb_X12_fault_0_ok (i := 4) rfl fl_X12_71 rfl k1 ?_
  cases h
  exact g_iret0 C R tb_X12_fault_0_ok (i := 5) rfl
def f_X12_cells (y : Lay) (a0 : Nat) (M : Mem) : Option Int32 := gK y a0 (0, 12) (gN (y.2.1 a0 5) (gA y (y.2.1 a0 5) 1 (0 : Int32) (gA y (y.2.1 a0 5) 1 (1 : Int32) (some ((M.1 (y.2.1 a0 5) (0 : Int32).toNatClampNeg) * (M.1 (y.2.1 a0 5) (1 : Int32).toNatClampNeg))))))
theorem w_X12_cells {g : GX} {l : Launch} (hG : GF g l) (y : Lay) (a0 : Nat) (M : Mem) : C0 g l yX12_cells cX12_cells 1 (some .int) 0 y [.ref a0] M (pm M (f_X12_cells y a0 M)) := by
  refine CP_of hG (by decide) [some (.ref a0)] rfl rfl (fun out h x Q C R => ?_)
  unfold f_X12_cells at h
  refine g_aload_n C tb_X12_cells_0_ok (i := 0) rfl rfl ?_
  obtain ⟨k1, h⟩ := gK_e h
  obtain ⟨n2, h⟩ := gN_e h
  refine g_getR C tb_X12_cells_0_ok (i := 1) rfl fl_X12_40 rfl k1 n2 ?_
  refine g_iconstv C tb_X12_cells_0_ok (i := 2) 0 rfl k_iconstv_0 ?_
  obtain ⟨b3, h⟩ := gA_e h
  refine g_iald C tb_X12_cells_0_ok (i := 3) rfl b3 ?_
  refine g_aload_n C tb_X12_cells_0_ok (i := 4) rfl rfl ?_
  refine g_getR C tb_X12_cells_0_ok (i := 5) rfl fl_X12_40 rfl k1 n2 ?_
  refine g_iconstv C tb_X12_cells_0_ok (i := 6) 1 rfl k_iconstv_1 ?_
  obtain ⟨b4, h⟩ := gA_e h
  refine g_iald C tb_X12_cells_0_ok (i := 7) rfl b4 ?_
  refine g_imul C tb_X12_cells_0_ok (i := 8) rfl ?_
  cases h
  exact g_iret0 C R tb_X12_cells_0_ok (i := 9) rfl
def f_X12_allBlue (y : Lay) (a0 : Nat) (M : Mem) : Option Int32 := fixN (fun _ _ => none) (fun (s3 : Int32 → Int32 → Option Int32) (v1 : Int32) (v2 : Int32) => gK y a0 (0, 12) (cp (f_X12_cells y a0 M) fun (r6 : Int32) => br (r6 ≤ v2) (some v1) (gN (y.2.1 a0 28) (gA y (y.2.1 a0 28) 1 v2 (lt (v1 + (M.1 (y.2.1 a0 28) v2.toNatClampNeg)) fun (v11 : Int32) => lt (v2 + (1 : Int32)) fun (v12 : Int32) => s3 v11 v12))))) FUEL (0 : Int32) (0 : Int32)
theorem w_X12_allBlue {g : GX} {l : Launch} (hG : GF g l) (y : Lay) (a0 : Nat) (M : Mem) : C0 g l yX12_allBlue cX12_allBlue 3 (some .int) 1 y [.ref a0] M (pm M (f_X12_allBlue y a0 M)) := by
  refine CP_of hG (by decide) [some (.ref a0), none, none] rfl rfl (fun out h x Q C R => ?_)
  unfold f_X12_allBlue at h
  refine g_iconstv C tb_X12_allBlue_0_ok (i := 0) 0 rfl k_iconstv_0 ?_
  refine g_istore_n C tb_X12_allBlue_0_ok (i := 1) rfl rfl rfl ?_
  refine g_iconstv C tb_X12_allBlue_0_ok (i := 2) 0 rfl k_iconstv_0 ?_
  refine g_istore_n C tb_X12_allBlue_0_ok (i := 3) rfl rfl rfl ?_
  refine g_less (L' := [some (.ref a0), some (.int (0 : Int32)), some (.int (0 : Int32))]) ⟨rfl, ⟨rfl, ⟨rfl, trivial⟩⟩⟩ ?_
  refine fix_i (P := fun (f : Int32 → Int32 → Option Int32) => ∀ (v1 : Int32) (v2 : Int32), f v1 v2 = some out → GG g x 3 Q 0 0 y M 4 [some (.ref a0), some (.int v1), some (.int v2)] []) ?_ ?_ _ (0 : Int32) (0 : Int32) h
  · intro v1 v2 h; exact (nn_e h).elim
  · intro s3 ih4 v1 v2 h
    refine g_iload_n C tb_X12_allBlue_0_ok (i := 4) rfl rfl ?_
    refine g_aload_n C tb_X12_allBlue_0_ok (i := 5) rfl rfl ?_
    obtain ⟨k5, h⟩ := gK_e h
    obtain ⟨r6, er6, h⟩ := cp_e h
    refine g_callV0 C tb_X12_allBlue_0_ok (i := 6) [] rfl mw_X12_cells mv_X12_cells ml_X12_153 k5 rfl rfl rfl rfl (w_X12_cells C.G y a0 M) (pm_s er6) rfl rfl rfl ?_
    obtain ⟨t7, f8⟩ := br_e h
    refine g_icmp_ge C tb_X12_allBlue_0_ok (i := 7) 27 rfl rfl (fun c => ?_) (fun c => ?_)
    · have h := t7 c
      refine g_iload_n C tb_X12_allBlue_0_ok (i := 17) rfl rfl ?_
      cases h
      exact g_iret0 C R tb_X12_allBlue_0_ok (i := 18) rfl
    · have h := f8 c
      refine g_iload_n C tb_X12_allBlue_0_ok (i := 8) rfl rfl ?_
      refine g_aload_n C tb_X12_allBlue_0_ok (i := 9) rfl rfl ?_
      obtain ⟨n9, h⟩ := gN_e h
      refine g_getR C tb_X12_allBlue_0_ok (i := 10) rfl fl_X12_75 rfl k5 n9 ?_
      refine g_iload_n C tb_X12_allBlue_0_ok (i := 11) rfl rfl ?_
      obtain ⟨b10, h⟩ := gA_e h
      refine g_iald C tb_X12_allBlue_0_ok (i := 12) rfl b10 ?_
      refine g_iadd C tb_X12_allBlue_0_ok (i := 13) rfl ?_
      refine g_topi (fun v11 ev11 => ?_)
      have h := lt_e ev11 h
      refine g_istore_n C tb_X12_allBlue_0_ok (i := 14) rfl rfl rfl ?_
      obtain ⟨v12, ev12⟩ : ∃ w : Int32, w = v2 + (1 : Int32) := ⟨_, rfl⟩
      have h := lt_e ev12 h
      refine g_iincv C tb_X12_allBlue_0_ok (i := 15) (1 : Int32) ev12 rfl rfl k_iconstv_1 rfl rfl ?_
      refine g_goto C tb_X12_allBlue_0_ok (i := 16) 4 rfl rfl ?_
      exact g_less (L' := [some (.ref a0), some (.int v11), some (.int v12)]) ⟨rfl, ⟨rfl, ⟨rfl, trivial⟩⟩⟩ (ih4 v11 v12 h)
def f_X12_count (y : Lay) (a0 : Nat) (a1 : Int32) (M : Mem) : Option (Int32 × Mem) := gK y a0 (0, 12) (lt (wI M a0 4 (0 : Int32)) fun (M2 : Mem) => br (a1 < (0 : Int32) ∨ (16 : Int32) < a1) (c0 (f_X12_fail y a0 (1 : Int32) M2) fun (r5 : Int32) (M6 : Mem) => some (r5, M6)) (br (a1 = (0 : Int32)) (cp (f_X12_cells y a0 M2) fun (r7 : Int32) => some (r7, M2)) (br (a1 = (1 : Int32)) (gN (y.2.1 a0 5) (gA y (y.2.1 a0 5) 1 (0 : Int32) (some ((M2.1 (y.2.1 a0 5) (0 : Int32).toNatClampNeg), M2)))) (br (a1 = (2 : Int32)) (gN (y.2.1 a0 5) (gA y (y.2.1 a0 5) 1 (2 : Int32) (some ((M2.1 (y.2.1 a0 5) (2 : Int32).toNatClampNeg), M2)))) (br (a1 = (3 : Int32)) (some ((M2.1 a0 31), M2)) (br (a1 = (4 : Int32)) (some ((M2.1 a0 32), M2)) (br (a1 = (5 : Int32)) (gN (y.2.1 a0 5) (gA y (y.2.1 a0 5) 1 (4 : Int32) (some ((M2.1 (y.2.1 a0 5) (4 : Int32).toNatClampNeg), M2)))) (br (a1 = (6 : Int32)) (gN (y.2.1 a0 5) (gA y (y.2.1 a0 5) 1 (5 : Int32) (some ((M2.1 (y.2.1 a0 5) (5 : Int32).toNatClampNeg), M2)))) (br (a1 = (7 : Int32)) (some ((M2.1 a0 33), M2)) (br (a1 = (8 : Int32)) (some ((M2.1 a0 34), M2)) (br (a1 = (9 : Int32)) (some ((M2.1 a0 35), M2)) (br (a1 = (10 : Int32)) (cp (f_X12_allBlue y a0 M2) fun (r36 : Int32) => some (r36, M2)) (br (a1 = (11 : Int32)) (some ((M2.1 a0 36), M2)) (br (a1 = (12 : Int32)) (some ((M2.1 a0 37), M2)) (br (a1 = (13 : Int32)) (some ((M2.1 a0 15), M2)) (br (a1 = (14 : Int32)) (gN (y.2.1 a0 12) (gA y (y.2.1 a0 12) 1 (a1 - (14 : Int32)) (some ((M2.1 (y.2.1 a0 12) (a1 - (14 : Int32)).toNatClampNeg), M2)))) (br (a1 = (15 : Int32)) (gN (y.2.1 a0 12) (gA y (y.2.1 a0 12) 1 (a1 - (14 : Int32)) (some ((M2.1 (y.2.1 a0 12) (a1 - (14 : Int32)).toNatClampNeg), M2)))) (gN (y.2.1 a0 12) (gA y (y.2.1 a0 12) 1 (a1 - (14 : Int32)) (some ((M2.1 (y.2.1 a0 12) (a1 - (14 : Int32)).toNatClampNeg), M2)))))))))))))))))))))
theorem w_X12_count {g : GX} {l : Launch} (hG : GF g l) (y : Lay) (a0 : Nat) (a1 : Int32) (M : Mem) : C0 g l yX12_count cX12_count 2 (some .int) 2 y [.ref a0, .int a1] M (f_X12_count y a0 a1 M) := by
  refine C0_of hG (by decide) [some (.ref a0), some (.int a1)] rfl rfl (fun out h x Q C R => ?_)
  unfold f_X12_count at h
  refine g_aload_n C tb_X12_count_0_ok (i := 0) rfl rfl ?_
  refine g_iconstv C tb_X12_count_0_ok (i := 1) 0 rfl k_iconstv_0 ?_
  obtain ⟨k1, h⟩ := gK_e h
  refine g_putI C tb_X12_count_0_ok (i := 2) rfl fl_X12_150 ft_12_4 rfl k1 ?_
  refine g_mem (fun M2 eM2 => ?_)
  have h := lt_e eM2 h
  refine g_iload_n C tb_X12_count_0_ok (i := 3) rfl rfl ?_
  obtain ⟨t3, f4⟩ := br_e h
  by_cases hsw : a1 < (0 : Int32) ∨ (16 : Int32) < a1
  · have h := t3 hsw
    refine g_tableOut C tb_X12_count_0_ok (i := 4) 0 16 176 rfl hsw (by decide) rfl ?_
    refine g_aload_n C tb_X12_count_1_ok (i := 22) rfl rfl ?_
    refine g_iconstv C tb_X12_count_1_ok (i := 23) 1 rfl k_iconstv_1 ?_
    obtain ⟨r5, M6, er5, h⟩ := c0_e h
    refine g_callV0 C tb_X12_count_1_ok (i := 24) [.int (1 : Int32)] rfl mw_X12_fail mv_X12_fail ml_X12_318 k1 rfl rfl rfl rfl (w_X12_fail C.G y a0 (1 : Int32) M2) er5 rfl rfl rfl ?_
    cases h
    exact g_iret0 C R tb_X12_count_1_ok (i := 25) rfl
  have h := f4 hsw
  obtain ⟨t8, f9⟩ := br_e h
  by_cases hs1000 : a1 = (0 : Int32)
  · have h := t8 hs1000
    refine g_tableIn C tb_X12_count_0_ok (i := 4) 0 88 82 rfl hs1000 (by decide) rfl ?_
    refine g_aload_n C tb_X12_count_0_ok (i := 5) rfl rfl ?_
    obtain ⟨r7, er7, h⟩ := cp_e h
    refine g_callV0 C tb_X12_count_0_ok (i := 6) [] rfl mw_X12_cells mv_X12_cells ml_X12_153 k1 rfl rfl rfl rfl (w_X12_cells C.G y a0 M2) (pm_s er7) rfl rfl rfl ?_
    cases h
    exact g_iret0 C R tb_X12_count_0_ok (i := 7) rfl
  have h := f9 hs1000
  obtain ⟨t12, f13⟩ := br_e h
  by_cases hs1001 : a1 = (1 : Int32)
  · have h := t12 hs1001
    refine g_tableIn C tb_X12_count_0_ok (i := 4) 1 93 87 rfl hs1001 (by decide) rfl ?_
    refine g_aload_n C tb_X12_count_0_ok (i := 8) rfl rfl ?_
    obtain ⟨n10, h⟩ := gN_e h
    refine g_getR C tb_X12_count_0_ok (i := 9) rfl fl_X12_40 rfl k1 n10 ?_
    refine g_iconstv C tb_X12_count_0_ok (i := 10) 0 rfl k_iconstv_0 ?_
    obtain ⟨b11, h⟩ := gA_e h
    refine g_iald C tb_X12_count_0_ok (i := 11) rfl b11 ?_
    cases h
    exact g_iret0 C R tb_X12_count_0_ok (i := 12) rfl
  have h := f13 hs1001
  obtain ⟨t16, f17⟩ := br_e h
  by_cases hs1002 : a1 = (2 : Int32)
  · have h := t16 hs1002
    refine g_tableIn C tb_X12_count_0_ok (i := 4) 2 100 94 rfl hs1002 (by decide) rfl ?_
    refine g_aload_n C tb_X12_count_0_ok (i := 13) rfl rfl ?_
    obtain ⟨n14, h⟩ := gN_e h
    refine g_getR C tb_X12_count_0_ok (i := 14) rfl fl_X12_40 rfl k1 n14 ?_
    refine g_iconstv C tb_X12_count_0_ok (i := 15) 2 rfl k_iconstv_2 ?_
    obtain ⟨b15, h⟩ := gA_e h
    refine g_iald C tb_X12_count_0_ok (i := 16) rfl b15 ?_
    cases h
    exact g_iret0 C R tb_X12_count_0_ok (i := 17) rfl
  have h := f17 hs1002
  obtain ⟨t18, f19⟩ := br_e h
  by_cases hs1003 : a1 = (3 : Int32)
  · have h := t18 hs1003
    refine g_tableIn C tb_X12_count_0_ok (i := 4) 3 107 101 rfl hs1003 (by decide) rfl ?_
    refine g_aload_n C tb_X12_count_0_ok (i := 18) rfl rfl ?_
    refine g_getI C tb_X12_count_0_ok (i := 19) rfl fl_X12_331 rfl k1 ?_
    cases h
    exact g_iret0 C R tb_X12_count_0_ok (i := 20) rfl
  have h := f19 hs1003
  obtain ⟨t20, f21⟩ := br_e h
  by_cases hs1004 : a1 = (4 : Int32)
  · have h := t20 hs1004
    refine g_tableIn C tb_X12_count_0_ok (i := 4) 4 112 106 rfl hs1004 (by decide) rfl ?_
    refine g_aload_n C tb_X12_count_0_ok (i := 21) rfl rfl ?_
    refine g_getI C tb_X12_count_0_ok (i := 22) rfl fl_X12_147 rfl k1 ?_
    cases h
    exact g_iret0 C R tb_X12_count_0_ok (i := 23) rfl
  have h := f21 hs1004
  obtain ⟨t24, f25⟩ := br_e h
  by_cases hs1005 : a1 = (5 : Int32)
  · have h := t24 hs1005
    refine g_tableIn C tb_X12_count_0_ok (i := 4) 5 117 111 rfl hs1005 (by decide) rfl ?_
    refine g_aload_n C tb_X12_count_0_ok (i := 24) rfl rfl ?_
    obtain ⟨n22, h⟩ := gN_e h
    refine g_getR C tb_X12_count_0_ok (i := 25) rfl fl_X12_40 rfl k1 n22 ?_
    refine g_iconstv C tb_X12_count_0_ok (i := 26) 4 rfl k_iconstv_4 ?_
    obtain ⟨b23, h⟩ := gA_e h
    refine g_iald C tb_X12_count_0_ok (i := 27) rfl b23 ?_
    cases h
    exact g_iret0 C R tb_X12_count_0_ok (i := 28) rfl
  have h := f25 hs1005
  obtain ⟨t28, f29⟩ := br_e h
  by_cases hs1006 : a1 = (6 : Int32)
  · have h := t28 hs1006
    refine g_tableIn C tb_X12_count_0_ok (i := 4) 6 124 118 rfl hs1006 (by decide) rfl ?_
    refine g_aload_n C tb_X12_count_0_ok (i := 29) rfl rfl ?_
    obtain ⟨n26, h⟩ := gN_e h
    refine g_getR C tb_X12_count_0_ok (i := 30) rfl fl_X12_40 rfl k1 n26 ?_
    refine g_iconstv C tb_X12_count_0_ok (i := 31) 5 rfl k_iconstv_5 ?_
    obtain ⟨b27, h⟩ := gA_e h
    refine g_iald C tb_X12_count_0_ok (i := 32) rfl b27 ?_
    cases h
    exact g_iret0 C R tb_X12_count_0_ok (i := 33) rfl
  have h := f29 hs1006
  obtain ⟨t30, f31⟩ := br_e h
  by_cases hs1007 : a1 = (7 : Int32)
  · have h := t30 hs1007
    refine g_tableIn C tb_X12_count_0_ok (i := 4) 7 131 125 rfl hs1007 (by decide) rfl ?_
    refine g_aload_n C tb_X12_count_0_ok (i := 34) rfl rfl ?_
    refine g_getI C tb_X12_count_0_ok (i := 35) rfl fl_X12_333 rfl k1 ?_
    cases h
    exact g_iret0 C R tb_X12_count_0_ok (i := 36) rfl
  have h := f31 hs1007
  obtain ⟨t32, f33⟩ := br_e h
  by_cases hs1008 : a1 = (8 : Int32)
  · have h := t32 hs1008
    refine g_tableIn C tb_X12_count_0_ok (i := 4) 8 136 130 rfl hs1008 (by decide) rfl ?_
    refine g_aload_n C tb_X12_count_0_ok (i := 37) rfl rfl ?_
    refine g_getI C tb_X12_count_0_ok (i := 38) rfl fl_X12_336 rfl k1 ?_
    cases h
    exact g_iret0 C R tb_X12_count_0_ok (i := 39) rfl
  have h := f33 hs1008
  obtain ⟨t34, f35⟩ := br_e h
  by_cases hs1009 : a1 = (9 : Int32)
  · have h := t34 hs1009
    refine g_tableIn C tb_X12_count_0_ok (i := 4) 9 141 135 rfl hs1009 (by decide) rfl ?_
    refine g_aload_n C tb_X12_count_1_ok (i := 0) rfl rfl ?_
    refine g_getI C tb_X12_count_1_ok (i := 1) rfl fl_X12_339 rfl k1 ?_
    cases h
    exact g_iret0 C R tb_X12_count_1_ok (i := 2) rfl
  have h := f35 hs1009
  obtain ⟨t37, f38⟩ := br_e h
  by_cases hs1010 : a1 = (10 : Int32)
  · have h := t37 hs1010
    refine g_tableIn C tb_X12_count_0_ok (i := 4) 10 146 140 rfl hs1010 (by decide) rfl ?_
    refine g_aload_n C tb_X12_count_1_ok (i := 3) rfl rfl ?_
    obtain ⟨r36, er36, h⟩ := cp_e h
    refine g_callV0 C tb_X12_count_1_ok (i := 4) [] rfl mw_X12_allBlue mv_X12_allBlue ml_X12_405 k1 rfl rfl rfl rfl (w_X12_allBlue C.G y a0 M2) (pm_s er36) rfl rfl rfl ?_
    cases h
    exact g_iret0 C R tb_X12_count_1_ok (i := 5) rfl
  have h := f38 hs1010
  obtain ⟨t39, f40⟩ := br_e h
  by_cases hs1011 : a1 = (11 : Int32)
  · have h := t39 hs1011
    refine g_tableIn C tb_X12_count_0_ok (i := 4) 11 151 145 rfl hs1011 (by decide) rfl ?_
    refine g_aload_n C tb_X12_count_1_ok (i := 6) rfl rfl ?_
    refine g_getI C tb_X12_count_1_ok (i := 7) rfl fl_X12_342 rfl k1 ?_
    cases h
    exact g_iret0 C R tb_X12_count_1_ok (i := 8) rfl
  have h := f40 hs1011
  obtain ⟨t41, f42⟩ := br_e h
  by_cases hs1012 : a1 = (12 : Int32)
  · have h := t41 hs1012
    refine g_tableIn C tb_X12_count_0_ok (i := 4) 12 156 150 rfl hs1012 (by decide) rfl ?_
    refine g_aload_n C tb_X12_count_1_ok (i := 9) rfl rfl ?_
    refine g_getI C tb_X12_count_1_ok (i := 10) rfl fl_X12_345 rfl k1 ?_
    cases h
    exact g_iret0 C R tb_X12_count_1_ok (i := 11) rfl
  have h := f42 hs1012
  obtain ⟨t43, f44⟩ := br_e h
  by_cases hs1013 : a1 = (13 : Int32)
  · have h := t43 hs1013
    refine g_tableIn C tb_X12_count_0_ok (i := 4) 13 161 155 rfl hs1013 (by decide) rfl ?_
    refine g_aload_n C tb_X12_count_1_ok (i := 12) rfl rfl ?_
    refine g_getI C tb_X12_count_1_ok (i := 13) rfl fl_X12_161 rfl k1 ?_
    cases h
    exact g_iret0 C R tb_X12_count_1_ok (i := 14) rfl
  have h := f44 hs1013
  obtain ⟨t47, f48⟩ := br_e h
  by_cases hs1014 : a1 = (14 : Int32)
  · have h := t47 hs1014
    refine g_tableIn C tb_X12_count_0_ok (i := 4) 14 166 160 rfl hs1014 (by decide) rfl ?_
    refine g_aload_n C tb_X12_count_1_ok (i := 15) rfl rfl ?_
    obtain ⟨n45, h⟩ := gN_e h
    refine g_getR C tb_X12_count_1_ok (i := 16) rfl fl_X12_62 rfl k1 n45 ?_
    refine g_iload_n C tb_X12_count_1_ok (i := 17) rfl rfl ?_
    refine g_bipushv C tb_X12_count_1_ok (i := 18) 14 rfl k_bipushv_14 ?_
    refine g_isub C tb_X12_count_1_ok (i := 19) rfl ?_
    obtain ⟨b46, h⟩ := gA_e h
    refine g_iald C tb_X12_count_1_ok (i := 20) rfl b46 ?_
    cases h
    exact g_iret0 C R tb_X12_count_1_ok (i := 21) rfl
  have h := f48 hs1014
  obtain ⟨t51, f52⟩ := br_e h
  by_cases hs1015 : a1 = (15 : Int32)
  · have h := t51 hs1015
    refine g_tableIn C tb_X12_count_0_ok (i := 4) 15 166 160 rfl hs1015 (by decide) rfl ?_
    refine g_aload_n C tb_X12_count_1_ok (i := 15) rfl rfl ?_
    obtain ⟨n49, h⟩ := gN_e h
    refine g_getR C tb_X12_count_1_ok (i := 16) rfl fl_X12_62 rfl k1 n49 ?_
    refine g_iload_n C tb_X12_count_1_ok (i := 17) rfl rfl ?_
    refine g_bipushv C tb_X12_count_1_ok (i := 18) 14 rfl k_bipushv_14 ?_
    refine g_isub C tb_X12_count_1_ok (i := 19) rfl ?_
    obtain ⟨b50, h⟩ := gA_e h
    refine g_iald C tb_X12_count_1_ok (i := 20) rfl b50 ?_
    cases h
    exact g_iret0 C R tb_X12_count_1_ok (i := 21) rfl
  have h := f52 hs1015
  have hlast : a1 = (16 : Int32) := i32_sw (l := [(0 : Int32), (1 : Int32), (2 : Int32), (3 : Int32), (4 : Int32), (5 : Int32), (6 : Int32), (7 : Int32), (8 : Int32), (9 : Int32), (10 : Int32), (11 : Int32), (12 : Int32), (13 : Int32), (14 : Int32), (15 : Int32)]) (n := 16) hsw (by decide +kernel) (i32_ne [(0 : Int32), (1 : Int32), (2 : Int32), (3 : Int32), (4 : Int32), (5 : Int32), (6 : Int32), (7 : Int32), (8 : Int32), (9 : Int32), (10 : Int32), (11 : Int32), (12 : Int32), (13 : Int32), (14 : Int32), (15 : Int32)] rfl (by intro c hc; simp only [List.mem_cons, List.not_mem_nil, or_false] at hc; rcases hc with rfl | rfl | rfl | rfl | rfl | rfl | rfl | rfl | rfl | rfl | rfl | rfl | rfl | rfl | rfl | rfl <;> assumption))
  refine g_tableIn C tb_X12_count_0_ok (i := 4) 16 166 160 rfl hlast (by decide) rfl ?_
  refine g_aload_n C tb_X12_count_1_ok (i := 15) rfl rfl ?_
  obtain ⟨n53, h⟩ := gN_e h
  refine g_getR C tb_X12_count_1_ok (i := 16) rfl fl_X12_62 rfl k1 n53 ?_
  refine g_iload_n C tb_X12_count_1_ok (i := 17) rfl rfl ?_
  refine g_bipushv C tb_X12_count_1_ok (i := 18) 14 rfl k_bipushv_14 ?_
  refine g_isub C tb_X12_count_1_ok (i := 19) rfl ?_
  obtain ⟨b54, h⟩ := gA_e h
  refine g_iald C tb_X12_count_1_ok (i := 20) rfl b54 ?_
  cases h
  exact g_iret0 C R tb_X12_count_1_ok (i := 21) rfl
def f_X12_isIn (y : Lay) (a0 : Int64) (a1 : Int64) (a2 : Int64) (M : Mem) : Option Int32 := jn (fun (v1 : Int32) => gd (v1 = 0 ∨ v1 = 1) (some v1)) fun j2 => jn (fun (_u : Unit) => j2 (0 : Int32)) fun j3 => br ((lg_cmp a0 a1) < 0) (j3 ()) (br (0 < (lg_cmp a0 a2)) (j3 ()) (j2 (1 : Int32)))
theorem w_X12_isIn {g : GX} {l : Launch} (hG : GF g l) (y : Lay) (a0 : Int64) (a1 : Int64) (a2 : Int64) (M : Mem) : C0 g l yX12_isIn cX12_isIn 6 (some .boolean) 0 y [.long a0, .long a1, .long a2] M (pm M (f_X12_isIn y a0 a1 a2 M)) := by
  refine CP_of hG (by decide) [some (.long a0), none, some (.long a1), none, some (.long a2), none] rfl rfl (fun out h x Q C R => ?_)
  unfold f_X12_isIn at h
  refine g_lload_n C tb_X12_isIn_0_ok (i := 0) rfl rfl ?_
  refine g_lload_n C tb_X12_isIn_0_ok (i := 1) rfl rfl ?_
  refine g_lcmp C tb_X12_isIn_0_ok (i := 2) rfl ?_
  obtain ⟨j2, ej2, h⟩ := jn_e h
  have J18 : ∀ (v1 : Int32), j2 v1 = some out → GG g x 6 Q 0 0 y M 18 [none, none, none, none, none, none] [.int v1] := by
    intro v1 h; subst ej2
    obtain ⟨hz, h⟩ := gd_e h
    cases h
    exact g_zret0 C R hz tb_X12_isIn_0_ok (i := 11) rfl
  obtain ⟨j3, ej3, h⟩ := jn_e h
  have J17 : ∀ (_u : Unit), j3 _u = some out → GG g x 6 Q 0 0 y M 17 [none, none, none, none, none, none] [] := by
    intro _u h; subst ej3
    refine g_iconstv C tb_X12_isIn_0_ok (i := 10) 0 rfl k_iconstv_0 ?_
    exact g_less (L' := [none, none, none, none, none, none]) trivial (J18 (0 : Int32) h)
  obtain ⟨t4, f5⟩ := br_e h
  refine g_if_lt C tb_X12_isIn_0_ok (i := 3) 17 rfl rfl (fun c => ?_) (fun c => ?_)
  · have h := t4 c
    exact g_less (L' := [none, none, none, none, none, none]) trivial (J17 () h)
  · have h := f5 c
    refine g_lload_n C tb_X12_isIn_0_ok (i := 4) rfl rfl ?_
    refine g_lload C tb_X12_isIn_0_ok (i := 5) rfl rfl ?_
    refine g_lcmp C tb_X12_isIn_0_ok (i := 6) rfl ?_
    obtain ⟨t6, f7⟩ := br_e h
    refine g_if_gt C tb_X12_isIn_0_ok (i := 7) 17 rfl rfl (fun c => ?_) (fun c => ?_)
    · have h := t6 c
      exact g_less (L' := [none, none, none, none, none, none]) trivial (J17 () h)
    · have h := f7 c
      refine g_iconstv C tb_X12_isIn_0_ok (i := 8) 1 rfl k_iconstv_1 ?_
      refine g_goto C tb_X12_isIn_0_ok (i := 9) 18 rfl rfl ?_
      exact g_less (L' := [none, none, none, none, none, none]) trivial (J18 (1 : Int32) h)
def f_X12_isCell (y : Lay) (a0 : Nat) (a1 : Int32) (M : Mem) : Option Int32 := gK y a0 (0, 12) (cp (f_X12_cells y a0 M) fun (r2 : Int32) => cp (f_X12_isIn y (a1.toInt64) (0 : Int64) ((r2 - (1 : Int32)).toInt64) M) fun (r3 : Int32) => gd (r3 = 0 ∨ r3 = 1) (some r3))
theorem w_X12_isCell {g : GX} {l : Launch} (hG : GF g l) (y : Lay) (a0 : Nat) (a1 : Int32) (M : Mem) : C0 g l yX12_isCell cX12_isCell 2 (some .boolean) 1 y [.ref a0, .int a1] M (pm M (f_X12_isCell y a0 a1 M)) := by
  refine CP_of hG (by decide) [some (.ref a0), some (.int a1)] rfl rfl (fun out h x Q C R => ?_)
  unfold f_X12_isCell at h
  refine g_iload_n C tb_X12_isCell_0_ok (i := 0) rfl rfl ?_
  refine g_i2l C tb_X12_isCell_0_ok (i := 1) rfl ?_
  refine g_lconst C tb_X12_isCell_0_ok (i := 2) 0 rfl rfl ?_
  refine g_aload_n C tb_X12_isCell_0_ok (i := 3) rfl rfl ?_
  obtain ⟨k1, h⟩ := gK_e h
  obtain ⟨r2, er2, h⟩ := cp_e h
  refine g_callV0 C tb_X12_isCell_0_ok (i := 4) [] rfl mw_X12_cells mv_X12_cells ml_X12_153 k1 rfl rfl rfl rfl (w_X12_cells C.G y a0 M) (pm_s er2) rfl rfl rfl ?_
  refine g_iconstv C tb_X12_isCell_0_ok (i := 5) 1 rfl k_iconstv_1 ?_
  refine g_isub C tb_X12_isCell_0_ok (i := 6) rfl ?_
  refine g_i2l C tb_X12_isCell_0_ok (i := 7) rfl ?_
  obtain ⟨r3, er3, h⟩ := cp_e h
  refine g_callS0 C tb_X12_isCell_0_ok (i := 8) [.long (a1.toInt64), .long (0 : Int64), .long ((r2 - (1 : Int32)).toInt64)] rfl mw_X12_isIn mst_X12_isIn ml_X12_157 rfl rfl rfl rfl (w_X12_isIn C.G y (a1.toInt64) (0 : Int64) ((r2 - (1 : Int32)).toInt64) M) (pm_s er3) rfl rfl rfl ?_
  obtain ⟨hz, h⟩ := gd_e h
  cases h
  exact g_zret0 C R hz tb_X12_isCell_0_ok (i := 9) rfl
def f_X12_columnOf (y : Lay) (a0 : Nat) (a1 : Int32) (M : Mem) : Option Int32 := gK y a0 (0, 12) (gN (y.2.1 a0 5) (gA y (y.2.1 a0 5) 1 (0 : Int32) (gd (¬ (M.1 (y.2.1 a0 5) (0 : Int32).toNatClampNeg) = 0) (some (a1 - a1 / (M.1 (y.2.1 a0 5) (0 : Int32).toNatClampNeg) * (M.1 (y.2.1 a0 5) (0 : Int32).toNatClampNeg))))))
theorem w_X12_columnOf {g : GX} {l : Launch} (hG : GF g l) (y : Lay) (a0 : Nat) (a1 : Int32) (M : Mem) : C0 g l yX12_columnOf cX12_columnOf 2 (some .int) 0 y [.ref a0, .int a1] M (pm M (f_X12_columnOf y a0 a1 M)) := by
  refine CP_of hG (by decide) [some (.ref a0), some (.int a1)] rfl rfl (fun out h x Q C R => ?_)
  unfold f_X12_columnOf at h
  refine g_iload_n C tb_X12_columnOf_0_ok (i := 0) rfl rfl ?_
  refine g_aload_n C tb_X12_columnOf_0_ok (i := 1) rfl rfl ?_
  obtain ⟨k1, h⟩ := gK_e h
  obtain ⟨n2, h⟩ := gN_e h
  refine g_getR C tb_X12_columnOf_0_ok (i := 2) rfl fl_X12_40 rfl k1 n2 ?_
  refine g_iconstv C tb_X12_columnOf_0_ok (i := 3) 0 rfl k_iconstv_0 ?_
  obtain ⟨b3, h⟩ := gA_e h
  refine g_iald C tb_X12_columnOf_0_ok (i := 4) rfl b3 ?_
  obtain ⟨n4, h⟩ := gd_e h
  refine g_irem C tb_X12_columnOf_0_ok (i := 5) rfl n4 ?_
  cases h
  exact g_iret0 C R tb_X12_columnOf_0_ok (i := 6) rfl
def f_X12_rowOf (y : Lay) (a0 : Nat) (a1 : Int32) (M : Mem) : Option Int32 := gK y a0 (0, 12) (gN (y.2.1 a0 5) (gA y (y.2.1 a0 5) 1 (0 : Int32) (gd (¬ (M.1 (y.2.1 a0 5) (0 : Int32).toNatClampNeg) = 0) (some (a1 / (M.1 (y.2.1 a0 5) (0 : Int32).toNatClampNeg))))))
theorem w_X12_rowOf {g : GX} {l : Launch} (hG : GF g l) (y : Lay) (a0 : Nat) (a1 : Int32) (M : Mem) : C0 g l yX12_rowOf cX12_rowOf 2 (some .int) 0 y [.ref a0, .int a1] M (pm M (f_X12_rowOf y a0 a1 M)) := by
  refine CP_of hG (by decide) [some (.ref a0), some (.int a1)] rfl rfl (fun out h x Q C R => ?_)
  unfold f_X12_rowOf at h
  refine g_iload_n C tb_X12_rowOf_0_ok (i := 0) rfl rfl ?_
  refine g_aload_n C tb_X12_rowOf_0_ok (i := 1) rfl rfl ?_
  obtain ⟨k1, h⟩ := gK_e h
  obtain ⟨n2, h⟩ := gN_e h
  refine g_getR C tb_X12_rowOf_0_ok (i := 2) rfl fl_X12_40 rfl k1 n2 ?_
  refine g_iconstv C tb_X12_rowOf_0_ok (i := 3) 0 rfl k_iconstv_0 ?_
  obtain ⟨b3, h⟩ := gA_e h
  refine g_iald C tb_X12_rowOf_0_ok (i := 4) rfl b3 ?_
  obtain ⟨n4, h⟩ := gd_e h
  refine g_idiv C tb_X12_rowOf_0_ok (i := 5) rfl n4 ?_
  cases h
  exact g_iret0 C R tb_X12_rowOf_0_ok (i := 6) rfl
def f_X12_farOf (y : Lay) (a0 : Nat) (a1 : Int32) (a2 : Int32) (M : Mem) : Option Int32 := gK y a0 (0, 12) (cp (f_X12_columnOf y a0 a1 M) fun (r2 : Int32) => cp (f_X12_columnOf y a0 a2 M) fun (r3 : Int32) => cp (f_X12_rowOf y a0 a1 M) fun (r4 : Int32) => cp (f_X12_rowOf y a0 a2 M) fun (r5 : Int32) => some ((jabs (r2 - r3)) + (jabs (r4 - r5))))
theorem w_X12_farOf {g : GX} {l : Launch} (hG : GF g l) (y : Lay) (a0 : Nat) (a1 : Int32) (a2 : Int32) (M : Mem) : C0 g l yX12_farOf cX12_farOf 3 (some .int) 1 y [.ref a0, .int a1, .int a2] M (pm M (f_X12_farOf y a0 a1 a2 M)) := by
  refine CP_of hG (by decide) [some (.ref a0), some (.int a1), some (.int a2)] rfl rfl (fun out h x Q C R => ?_)
  unfold f_X12_farOf at h
  refine g_aload_n C tb_X12_farOf_0_ok (i := 0) rfl rfl ?_
  refine g_iload_n C tb_X12_farOf_0_ok (i := 1) rfl rfl ?_
  obtain ⟨k1, h⟩ := gK_e h
  obtain ⟨r2, er2, h⟩ := cp_e h
  refine g_callV0 C tb_X12_farOf_0_ok (i := 2) [.int a1] rfl mw_X12_columnOf mv_X12_columnOf ml_X12_351 k1 rfl rfl rfl rfl (w_X12_columnOf C.G y a0 a1 M) (pm_s er2) rfl rfl rfl ?_
  refine g_aload_n C tb_X12_farOf_0_ok (i := 3) rfl rfl ?_
  refine g_iload_n C tb_X12_farOf_0_ok (i := 4) rfl rfl ?_
  obtain ⟨r3, er3, h⟩ := cp_e h
  refine g_callV0 C tb_X12_farOf_0_ok (i := 5) [.int a2] rfl mw_X12_columnOf mv_X12_columnOf ml_X12_351 k1 rfl rfl rfl rfl (w_X12_columnOf C.G y a0 a2 M) (pm_s er3) rfl rfl rfl ?_
  refine g_isub C tb_X12_farOf_0_ok (i := 6) rfl ?_
  refine g_abs C tb_X12_farOf_0_ok (i := 7) rfl mt_X12_354 rfl rfl rfl ?_
  refine g_aload_n C tb_X12_farOf_0_ok (i := 8) rfl rfl ?_
  refine g_iload_n C tb_X12_farOf_0_ok (i := 9) rfl rfl ?_
  obtain ⟨r4, er4, h⟩ := cp_e h
  refine g_callV0 C tb_X12_farOf_0_ok (i := 10) [.int a1] rfl mw_X12_rowOf mv_X12_rowOf ml_X12_357 k1 rfl rfl rfl rfl (w_X12_rowOf C.G y a0 a1 M) (pm_s er4) rfl rfl rfl ?_
  refine g_aload_n C tb_X12_farOf_0_ok (i := 11) rfl rfl ?_
  refine g_iload_n C tb_X12_farOf_0_ok (i := 12) rfl rfl ?_
  obtain ⟨r5, er5, h⟩ := cp_e h
  refine g_callV0 C tb_X12_farOf_0_ok (i := 13) [.int a2] rfl mw_X12_rowOf mv_X12_rowOf ml_X12_357 k1 rfl rfl rfl rfl (w_X12_rowOf C.G y a0 a2 M) (pm_s er5) rfl rfl rfl ?_
  refine g_isub C tb_X12_farOf_0_ok (i := 14) rfl ?_
  refine g_abs C tb_X12_farOf_0_ok (i := 15) rfl mt_X12_354 rfl rfl rfl ?_
  refine g_iadd C tb_X12_farOf_0_ok (i := 16) rfl ?_
  cases h
  exact g_iret0 C R tb_X12_farOf_0_ok (i := 17) rfl
def f_X12_besideOf (y : Lay) (a0 : Nat) (a1 : Int32) (M : Mem) : Option Int32 := fixN (fun _ _ => none) (fun (s3 : Int32 → Int32 → Option Int32) (v1 : Int32) (v2 : Int32) => gK y a0 (0, 12) (cp (f_X12_cells y a0 M) fun (r6 : Int32) => br (r6 ≤ v2) (some v1) (cp (f_X12_farOf y a0 a1 v2 M) fun (r9 : Int32) => jn (fun (v10 : Int32) => lt (v1 ||| v10) fun (v12 : Int32) => lt (v2 + (1 : Int32)) fun (v13 : Int32) => s3 v12 v13) fun j11 => br (r9 = (1 : Int32)) (j11 ((1 : Int32) <<< (v2 &&& 31))) (j11 (0 : Int32))))) FUEL (0 : Int32) (0 : Int32)
theorem w_X12_besideOf {g : GX} {l : Launch} (hG : GF g l) (y : Lay) (a0 : Nat) (a1 : Int32) (M : Mem) : C0 g l yX12_besideOf cX12_besideOf 4 (some .int) 2 y [.ref a0, .int a1] M (pm M (f_X12_besideOf y a0 a1 M)) := by
  refine CP_of hG (by decide) [some (.ref a0), some (.int a1), none, none] rfl rfl (fun out h x Q C R => ?_)
  unfold f_X12_besideOf at h
  refine g_iconstv C tb_X12_besideOf_0_ok (i := 0) 0 rfl k_iconstv_0 ?_
  refine g_istore_n C tb_X12_besideOf_0_ok (i := 1) rfl rfl rfl ?_
  refine g_iconstv C tb_X12_besideOf_0_ok (i := 2) 0 rfl k_iconstv_0 ?_
  refine g_istore_n C tb_X12_besideOf_0_ok (i := 3) rfl rfl rfl ?_
  refine g_less (L' := [some (.ref a0), some (.int a1), some (.int (0 : Int32)), some (.int (0 : Int32))]) ⟨rfl, ⟨rfl, ⟨rfl, ⟨rfl, trivial⟩⟩⟩⟩ ?_
  refine fix_i (P := fun (f : Int32 → Int32 → Option Int32) => ∀ (v1 : Int32) (v2 : Int32), f v1 v2 = some out → GG g x 4 Q 0 0 y M 4 [some (.ref a0), some (.int a1), some (.int v1), some (.int v2)] []) ?_ ?_ _ (0 : Int32) (0 : Int32) h
  · intro v1 v2 h; exact (nn_e h).elim
  · intro s3 ih4 v1 v2 h
    refine g_iload_n C tb_X12_besideOf_0_ok (i := 4) rfl rfl ?_
    refine g_aload_n C tb_X12_besideOf_0_ok (i := 5) rfl rfl ?_
    obtain ⟨k5, h⟩ := gK_e h
    obtain ⟨r6, er6, h⟩ := cp_e h
    refine g_callV0 C tb_X12_besideOf_0_ok (i := 6) [] rfl mw_X12_cells mv_X12_cells ml_X12_153 k5 rfl rfl rfl rfl (w_X12_cells C.G y a0 M) (pm_s er6) rfl rfl rfl ?_
    obtain ⟨t7, f8⟩ := br_e h
    refine g_icmp_ge C tb_X12_besideOf_0_ok (i := 7) 38 rfl rfl (fun c => ?_) (fun c => ?_)
    · have h := t7 c
      refine g_iload_n C tb_X12_besideOf_0_ok (i := 24) rfl rfl ?_
      cases h
      exact g_iret0 C R tb_X12_besideOf_0_ok (i := 25) rfl
    · have h := f8 c
      refine g_iload_n C tb_X12_besideOf_0_ok (i := 8) rfl rfl ?_
      refine g_aload_n C tb_X12_besideOf_0_ok (i := 9) rfl rfl ?_
      refine g_iload_n C tb_X12_besideOf_0_ok (i := 10) rfl rfl ?_
      refine g_iload_n C tb_X12_besideOf_0_ok (i := 11) rfl rfl ?_
      obtain ⟨r9, er9, h⟩ := cp_e h
      refine g_callV0 C tb_X12_besideOf_0_ok (i := 12) [.int a1, .int v2] rfl mw_X12_farOf mv_X12_farOf ml_X12_360 k5 rfl rfl rfl rfl (w_X12_farOf C.G y a0 a1 v2 M) (pm_s er9) rfl rfl rfl ?_
      refine g_iconstv C tb_X12_besideOf_0_ok (i := 13) 1 rfl k_iconstv_1 ?_
      obtain ⟨j11, ej11, h⟩ := jn_e h
      have J30 : ∀ (v10 : Int32), j11 v10 = some out → GG g x 4 Q 0 0 y M 30 [some (.ref a0), some (.int a1), none, some (.int v2)] [.int v10, .int v1] := by
        intro v10 h; subst ej11
        refine g_ior C tb_X12_besideOf_0_ok (i := 20) rfl ?_
        refine g_topi (fun v12 ev12 => ?_)
        have h := lt_e ev12 h
        refine g_istore_n C tb_X12_besideOf_0_ok (i := 21) rfl rfl rfl ?_
        obtain ⟨v13, ev13⟩ : ∃ w : Int32, w = v2 + (1 : Int32) := ⟨_, rfl⟩
        have h := lt_e ev13 h
        refine g_iincv C tb_X12_besideOf_0_ok (i := 22) (1 : Int32) ev13 rfl rfl k_iconstv_1 rfl rfl ?_
        refine g_goto C tb_X12_besideOf_0_ok (i := 23) 4 rfl rfl ?_
        exact g_less (L' := [some (.ref a0), some (.int a1), some (.int v12), some (.int v13)]) ⟨rfl, ⟨rfl, ⟨rfl, ⟨rfl, trivial⟩⟩⟩⟩ (ih4 v12 v13 h)
      obtain ⟨t14, f15⟩ := br_e h
      refine g_icmp_ne C tb_X12_besideOf_0_ok (i := 14) 29 rfl rfl (fun c => ?_) (fun c => ?_)
      · have h := f15 c
        refine g_iconstv C tb_X12_besideOf_0_ok (i := 19) 0 rfl k_iconstv_0 ?_
        exact g_less (L' := [some (.ref a0), some (.int a1), none, some (.int v2)]) ⟨rfl, ⟨rfl, ⟨rfl, trivial⟩⟩⟩ (J30 (0 : Int32) h)
      · have h := t14 c
        refine g_iconstv C tb_X12_besideOf_0_ok (i := 15) 1 rfl k_iconstv_1 ?_
        refine g_iload_n C tb_X12_besideOf_0_ok (i := 16) rfl rfl ?_
        refine g_ishl C tb_X12_besideOf_0_ok (i := 17) rfl ?_
        refine g_goto C tb_X12_besideOf_0_ok (i := 18) 30 rfl rfl ?_
        exact g_less (L' := [some (.ref a0), some (.int a1), none, some (.int v2)]) ⟨rfl, ⟨rfl, ⟨rfl, trivial⟩⟩⟩ (J30 ((1 : Int32) <<< (v2 &&& 31)) h)
def f_X12_girlsAt (y : Lay) (a0 : Nat) (a1 : Int32) (M : Mem) : Option Int32 := fixN (fun _ _ => none) (fun (s3 : Int32 → Int32 → Option Int32) (v1 : Int32) (v2 : Int32) => gK y a0 (0, 12) (gN (y.2.1 a0 5) (gA y (y.2.1 a0 5) 1 (2 : Int32) (br ((M.1 (y.2.1 a0 5) (2 : Int32).toNatClampNeg) ≤ v2) (some v1) (gN (y.2.1 a0 29) (gA y (y.2.1 a0 29) 1 v2 (jn (fun (v12 : Int32) => lt (v1 ||| v12) fun (v14 : Int32) => lt (v2 + (1 : Int32)) fun (v15 : Int32) => s3 v14 v15) fun j13 => br ((M.1 (y.2.1 a0 29) v2.toNatClampNeg) = a1) (j13 ((1 : Int32) <<< (v2 &&& 31))) (j13 (0 : Int32))))))))) FUEL (0 : Int32) (0 : Int32)
theorem w_X12_girlsAt {g : GX} {l : Launch} (hG : GF g l) (y : Lay) (a0 : Nat) (a1 : Int32) (M : Mem) : C0 g l yX12_girlsAt cX12_girlsAt 4 (some .int) 0 y [.ref a0, .int a1] M (pm M (f_X12_girlsAt y a0 a1 M)) := by
  refine CP_of hG (by decide) [some (.ref a0), some (.int a1), none, none] rfl rfl (fun out h x Q C R => ?_)
  unfold f_X12_girlsAt at h
  refine g_iconstv C tb_X12_girlsAt_0_ok (i := 0) 0 rfl k_iconstv_0 ?_
  refine g_istore_n C tb_X12_girlsAt_0_ok (i := 1) rfl rfl rfl ?_
  refine g_iconstv C tb_X12_girlsAt_0_ok (i := 2) 0 rfl k_iconstv_0 ?_
  refine g_istore_n C tb_X12_girlsAt_0_ok (i := 3) rfl rfl rfl ?_
  refine g_less (L' := [some (.ref a0), some (.int a1), some (.int (0 : Int32)), some (.int (0 : Int32))]) ⟨rfl, ⟨rfl, ⟨rfl, ⟨rfl, trivial⟩⟩⟩⟩ ?_
  refine fix_i (P := fun (f : Int32 → Int32 → Option Int32) => ∀ (v1 : Int32) (v2 : Int32), f v1 v2 = some out → GG g x 4 Q 0 0 y M 4 [some (.ref a0), some (.int a1), some (.int v1), some (.int v2)] []) ?_ ?_ _ (0 : Int32) (0 : Int32) h
  · intro v1 v2 h; exact (nn_e h).elim
  · intro s3 ih4 v1 v2 h
    refine g_iload_n C tb_X12_girlsAt_0_ok (i := 4) rfl rfl ?_
    refine g_aload_n C tb_X12_girlsAt_0_ok (i := 5) rfl rfl ?_
    obtain ⟨k5, h⟩ := gK_e h
    obtain ⟨n6, h⟩ := gN_e h
    refine g_getR C tb_X12_girlsAt_0_ok (i := 6) rfl fl_X12_40 rfl k5 n6 ?_
    refine g_iconstv C tb_X12_girlsAt_0_ok (i := 7) 2 rfl k_iconstv_2 ?_
    obtain ⟨b7, h⟩ := gA_e h
    refine g_iald C tb_X12_girlsAt_0_ok (i := 8) rfl b7 ?_
    obtain ⟨t8, f9⟩ := br_e h
    refine g_icmp_ge C tb_X12_girlsAt_0_ok (i := 9) 40 rfl rfl (fun c => ?_) (fun c => ?_)
    · have h := t8 c
      refine g_iload_n C tb_X12_girlsAt_0_ok (i := 26) rfl rfl ?_
      cases h
      exact g_iret0 C R tb_X12_girlsAt_0_ok (i := 27) rfl
    · have h := f9 c
      refine g_iload_n C tb_X12_girlsAt_0_ok (i := 10) rfl rfl ?_
      refine g_aload_n C tb_X12_girlsAt_0_ok (i := 11) rfl rfl ?_
      obtain ⟨n10, h⟩ := gN_e h
      refine g_getR C tb_X12_girlsAt_0_ok (i := 12) rfl fl_X12_77 rfl k5 n10 ?_
      refine g_iload_n C tb_X12_girlsAt_0_ok (i := 13) rfl rfl ?_
      obtain ⟨b11, h⟩ := gA_e h
      refine g_iald C tb_X12_girlsAt_0_ok (i := 14) rfl b11 ?_
      refine g_iload_n C tb_X12_girlsAt_0_ok (i := 15) rfl rfl ?_
      obtain ⟨j13, ej13, h⟩ := jn_e h
      have J32 : ∀ (v12 : Int32), j13 v12 = some out → GG g x 4 Q 0 0 y M 32 [some (.ref a0), some (.int a1), none, some (.int v2)] [.int v12, .int v1] := by
        intro v12 h; subst ej13
        refine g_ior C tb_X12_girlsAt_0_ok (i := 22) rfl ?_
        refine g_topi (fun v14 ev14 => ?_)
        have h := lt_e ev14 h
        refine g_istore_n C tb_X12_girlsAt_0_ok (i := 23) rfl rfl rfl ?_
        obtain ⟨v15, ev15⟩ : ∃ w : Int32, w = v2 + (1 : Int32) := ⟨_, rfl⟩
        have h := lt_e ev15 h
        refine g_iincv C tb_X12_girlsAt_0_ok (i := 24) (1 : Int32) ev15 rfl rfl k_iconstv_1 rfl rfl ?_
        refine g_goto C tb_X12_girlsAt_0_ok (i := 25) 4 rfl rfl ?_
        exact g_less (L' := [some (.ref a0), some (.int a1), some (.int v14), some (.int v15)]) ⟨rfl, ⟨rfl, ⟨rfl, ⟨rfl, trivial⟩⟩⟩⟩ (ih4 v14 v15 h)
      obtain ⟨t16, f17⟩ := br_e h
      refine g_icmp_ne C tb_X12_girlsAt_0_ok (i := 16) 31 rfl rfl (fun c => ?_) (fun c => ?_)
      · have h := f17 c
        refine g_iconstv C tb_X12_girlsAt_0_ok (i := 21) 0 rfl k_iconstv_0 ?_
        exact g_less (L' := [some (.ref a0), some (.int a1), none, some (.int v2)]) ⟨rfl, ⟨rfl, ⟨rfl, trivial⟩⟩⟩ (J32 (0 : Int32) h)
      · have h := t16 c
        refine g_iconstv C tb_X12_girlsAt_0_ok (i := 17) 1 rfl k_iconstv_1 ?_
        refine g_iload_n C tb_X12_girlsAt_0_ok (i := 18) rfl rfl ?_
        refine g_ishl C tb_X12_girlsAt_0_ok (i := 19) rfl ?_
        refine g_goto C tb_X12_girlsAt_0_ok (i := 20) 32 rfl rfl ?_
        exact g_less (L' := [some (.ref a0), some (.int a1), none, some (.int v2)]) ⟨rfl, ⟨rfl, ⟨rfl, trivial⟩⟩⟩ (J32 ((1 : Int32) <<< (v2 &&& 31)) h)
def f_X12_patchOf (y : Lay) (a0 : Nat) (a1 : Int32) (a2 : Int32) (M : Mem) : Option Int32 := lt ((1 : Int32) <<< (a1 &&& 31)) fun (v1 : Int32) => fixN (fun _ _ => none) (fun (s4 : Int32 → Int32 → Option Int32) (v2 : Int32) (v3 : Int32) => br ((30 : Int32) ≤ v3) (some v2) (fixN (fun _ _ => none) (fun (s10 : Int32 → Int32 → Option Int32) (v8 : Int32) (v9 : Int32) => gK y a0 (0, 12) (cp (f_X12_cells y a0 M) fun (r13 : Int32) => br (r13 ≤ v9) (lt (v3 + (1 : Int32)) fun (v16 : Int32) => s4 v8 v16) (cp (f_X12_isOf y v8 v9 M) fun (r17 : Int32) => jn (fun (v18 : Int32) => lt (v9 + (1 : Int32)) fun (v20 : Int32) => s10 v18 v20) fun j19 => br (r17 = 0) (j19 v8) (cp (f_X12_besideOf y a0 v9 M) fun (r23 : Int32) => fixN (fun _ _ => none) (fun (s26 : Int32 → Int32 → Option Int32) (v24 : Int32) (v25 : Int32) => cp (f_X12_cells y a0 M) fun (r28 : Int32) => br (r28 ≤ v25) (j19 v24) (cp (f_X12_isOf y r23 v25 M) fun (r31 : Int32) => jn (fun (v32 : Int32) => lt (v24 ||| v32) fun (v34 : Int32) => lt (v25 + (1 : Int32)) fun (v35 : Int32) => s26 v34 v35) fun j33 => jn (fun (_u : Unit) => j33 (0 : Int32)) fun j36 => br (r31 = 0) (j36 ()) (gN (y.2.1 a0 28) (gA y (y.2.1 a0 28) 1 v9 (gA y (y.2.1 a0 28) 1 v25 (br (a2 < (jabs ((M.1 (y.2.1 a0 28) v9.toNatClampNeg) - (M.1 (y.2.1 a0 28) v25.toNatClampNeg)))) (j36 ()) (j33 ((1 : Int32) <<< (v25 &&& 31))))))))) FUEL v8 (0 : Int32))))) FUEL v2 (0 : Int32))) FUEL v1 (0 : Int32)
theorem w_X12_patchOf {g : GX} {l : Launch} (hG : GF g l) (y : Lay) (a0 : Nat) (a1 : Int32) (a2 : Int32) (M : Mem) : C0 g l yX12_patchOf cX12_patchOf 8 (some .int) 3 y [.ref a0, .int a1, .int a2] M (pm M (f_X12_patchOf y a0 a1 a2 M)) := by
  refine CP_of hG (by decide) [some (.ref a0), some (.int a1), some (.int a2), none, none, none, none, none] rfl rfl (fun out h x Q C R => ?_)
  unfold f_X12_patchOf at h
  refine g_iconstv C tb_X12_patchOf_0_ok (i := 0) 1 rfl k_iconstv_1 ?_
  refine g_iload_n C tb_X12_patchOf_0_ok (i := 1) rfl rfl ?_
  refine g_ishl C tb_X12_patchOf_0_ok (i := 2) rfl ?_
  refine g_topi (fun v1 ev1 => ?_)
  have h := lt_e ev1 h
  refine g_istore_n C tb_X12_patchOf_0_ok (i := 3) rfl rfl rfl ?_
  refine g_iconstv C tb_X12_patchOf_0_ok (i := 4) 0 rfl k_iconstv_0 ?_
  refine g_istore C tb_X12_patchOf_0_ok (i := 5) rfl rfl rfl ?_
  refine g_less (L' := [some (.ref a0), none, some (.int a2), some (.int v1), some (.int (0 : Int32)), none, none, none]) ⟨rfl, ⟨rfl, ⟨rfl, ⟨rfl, trivial⟩⟩⟩⟩ ?_
  refine fix_i (P := fun (f : Int32 → Int32 → Option Int32) => ∀ (v2 : Int32) (v3 : Int32), f v2 v3 = some out → GG g x 8 Q 0 0 y M 7 [some (.ref a0), none, some (.int a2), some (.int v2), some (.int v3), none, none, none] []) ?_ ?_ _ v1 (0 : Int32) h
  · intro v2 v3 h; exact (nn_e h).elim
  · intro s4 ih5 v2 v3 h
    refine g_iload C tb_X12_patchOf_0_ok (i := 6) rfl rfl ?_
    refine g_bipushv C tb_X12_patchOf_0_ok (i := 7) 30 rfl k_bipushv_30 ?_
    obtain ⟨t6, f7⟩ := br_e h
    refine g_icmp_ge C tb_X12_patchOf_0_ok (i := 8) 119 rfl rfl (fun c => ?_) (fun c => ?_)
    · have h := t6 c
      refine g_iload_n C tb_X12_patchOf_1_ok (i := 20) rfl rfl ?_
      cases h
      exact g_iret0 C R tb_X12_patchOf_1_ok (i := 21) rfl
    · have h := f7 c
      refine g_iconstv C tb_X12_patchOf_0_ok (i := 9) 0 rfl k_iconstv_0 ?_
      refine g_istore C tb_X12_patchOf_0_ok (i := 10) rfl rfl rfl ?_
      refine g_less (L' := [some (.ref a0), none, some (.int a2), some (.int v2), some (.int v3), some (.int (0 : Int32)), none, none]) ⟨rfl, ⟨rfl, ⟨rfl, ⟨rfl, ⟨rfl, trivial⟩⟩⟩⟩⟩ ?_
      refine fix_i (P := fun (f : Int32 → Int32 → Option Int32) => ∀ (v8 : Int32) (v9 : Int32), f v8 v9 = some out → GG g x 8 Q 0 0 y M 17 [some (.ref a0), none, some (.int a2), some (.int v8), some (.int v3), some (.int v9), none, none] []) ?_ ?_ _ v2 (0 : Int32) h
      · intro v8 v9 h; exact (nn_e h).elim
      · intro s10 ih11 v8 v9 h
        refine g_iload C tb_X12_patchOf_0_ok (i := 11) rfl rfl ?_
        refine g_aload_n C tb_X12_patchOf_0_ok (i := 12) rfl rfl ?_
        obtain ⟨k12, h⟩ := gK_e h
        obtain ⟨r13, er13, h⟩ := cp_e h
        refine g_callV0 C tb_X12_patchOf_0_ok (i := 13) [] rfl mw_X12_cells mv_X12_cells ml_X12_153 k12 rfl rfl rfl rfl (w_X12_cells C.G y a0 M) (pm_s er13) rfl rfl rfl ?_
        obtain ⟨t14, f15⟩ := br_e h
        refine g_icmp_ge C tb_X12_patchOf_0_ok (i := 14) 113 rfl rfl (fun c => ?_) (fun c => ?_)
        · have h := t14 c
          obtain ⟨v16, ev16⟩ : ∃ w : Int32, w = v3 + (1 : Int32) := ⟨_, rfl⟩
          have h := lt_e ev16 h
          refine g_iincv C tb_X12_patchOf_1_ok (i := 18) (1 : Int32) ev16 rfl rfl k_iconstv_1 rfl rfl ?_
          refine g_goto C tb_X12_patchOf_1_ok (i := 19) 7 rfl rfl ?_
          exact g_less (L' := [some (.ref a0), none, some (.int a2), some (.int v8), some (.int v16), none, none, none]) ⟨rfl, ⟨rfl, ⟨rfl, ⟨rfl, trivial⟩⟩⟩⟩ (ih5 v8 v16 h)
        · have h := f15 c
          refine g_iload_n C tb_X12_patchOf_0_ok (i := 15) rfl rfl ?_
          refine g_iload C tb_X12_patchOf_0_ok (i := 16) rfl rfl ?_
          obtain ⟨r17, er17, h⟩ := cp_e h
          refine g_callS0 C tb_X12_patchOf_0_ok (i := 17) [.int v8, .int v9] rfl mw_X12_isOf mst_X12_isOf ml_X12_232 rfl rfl rfl rfl (w_X12_isOf C.G y v8 v9 M) (pm_s er17) rfl rfl rfl ?_
          obtain ⟨j19, ej19, h⟩ := jn_e h
          have J107 : ∀ (v18 : Int32), j19 v18 = some out → GG g x 8 Q 0 0 y M 107 [some (.ref a0), none, some (.int a2), some (.int v18), some (.int v3), some (.int v9), none, none] [] := by
            intro v18 h; subst ej19
            obtain ⟨v20, ev20⟩ : ∃ w : Int32, w = v9 + (1 : Int32) := ⟨_, rfl⟩
            have h := lt_e ev20 h
            refine g_iincv C tb_X12_patchOf_1_ok (i := 16) (1 : Int32) ev20 rfl rfl k_iconstv_1 rfl rfl ?_
            refine g_goto C tb_X12_patchOf_1_ok (i := 17) 17 rfl rfl ?_
            exact g_less (L' := [some (.ref a0), none, some (.int a2), some (.int v18), some (.int v3), some (.int v20), none, none]) ⟨rfl, ⟨rfl, ⟨rfl, ⟨rfl, ⟨rfl, trivial⟩⟩⟩⟩⟩ (ih11 v18 v20 h)
          obtain ⟨t21, f22⟩ := br_e h
          refine g_if_ne C tb_X12_patchOf_0_ok (i := 18) 38 rfl rfl (fun c => ?_) (fun c => ?_)
          · have h := f22 c
            refine g_aload_n C tb_X12_patchOf_0_ok (i := 20) rfl rfl ?_
            refine g_iload C tb_X12_patchOf_0_ok (i := 21) rfl rfl ?_
            obtain ⟨r23, er23, h⟩ := cp_e h
            refine g_callV0 C tb_X12_patchOf_0_ok (i := 22) [.int v9] rfl mw_X12_besideOf mv_X12_besideOf ml_X12_363 k12 rfl rfl rfl rfl (w_X12_besideOf C.G y a0 v9 M) (pm_s er23) rfl rfl rfl ?_
            refine g_istore C tb_X12_patchOf_0_ok (i := 23) rfl rfl rfl ?_
            refine g_iconstv C tb_X12_patchOf_0_ok (i := 24) 0 rfl k_iconstv_0 ?_
            refine g_istore C tb_X12_patchOf_0_ok (i := 25) rfl rfl rfl ?_
            refine g_less (L' := [some (.ref a0), none, some (.int a2), some (.int v8), some (.int v3), some (.int v9), some (.int r23), some (.int (0 : Int32))]) ⟨rfl, ⟨rfl, ⟨rfl, ⟨rfl, ⟨rfl, ⟨rfl, ⟨rfl, trivial⟩⟩⟩⟩⟩⟩⟩ ?_
            refine fix_i (P := fun (f : Int32 → Int32 → Option Int32) => ∀ (v24 : Int32) (v25 : Int32), f v24 v25 = some out → GG g x 8 Q 0 0 y M 49 [some (.ref a0), none, some (.int a2), some (.int v24), some (.int v3), some (.int v9), some (.int r23), some (.int v25)] []) ?_ ?_ _ v8 (0 : Int32) h
            · intro v24 v25 h; exact (nn_e h).elim
            · intro s26 ih27 v24 v25 h
              refine g_iload C tb_X12_patchOf_0_ok (i := 26) rfl rfl ?_
              refine g_aload_n C tb_X12_patchOf_0_ok (i := 27) rfl rfl ?_
              obtain ⟨r28, er28, h⟩ := cp_e h
              refine g_callV0 C tb_X12_patchOf_0_ok (i := 28) [] rfl mw_X12_cells mv_X12_cells ml_X12_153 k12 rfl rfl rfl rfl (w_X12_cells C.G y a0 M) (pm_s er28) rfl rfl rfl ?_
              obtain ⟨t29, f30⟩ := br_e h
              refine g_icmp_ge C tb_X12_patchOf_0_ok (i := 29) 107 rfl rfl (fun c => ?_) (fun c => ?_)
              · have h := t29 c
                exact g_less (L' := [some (.ref a0), none, some (.int a2), some (.int v24), some (.int v3), some (.int v9), none, none]) ⟨rfl, ⟨rfl, ⟨rfl, ⟨rfl, ⟨rfl, trivial⟩⟩⟩⟩⟩ (J107 v24 h)
              · have h := f30 c
                refine g_iload_n C tb_X12_patchOf_0_ok (i := 30) rfl rfl ?_
                refine g_iload C tb_X12_patchOf_0_ok (i := 31) rfl rfl ?_
                refine g_iload C tb_X12_patchOf_0_ok (i := 32) rfl rfl ?_
                obtain ⟨r31, er31, h⟩ := cp_e h
                refine g_callS0 C tb_X12_patchOf_0_ok (i := 33) [.int r23, .int v25] rfl mw_X12_isOf mst_X12_isOf ml_X12_232 rfl rfl rfl rfl (w_X12_isOf C.G y r23 v25 M) (pm_s er31) rfl rfl rfl ?_
                obtain ⟨j33, ej33, h⟩ := jn_e h
                have J99 : ∀ (v32 : Int32), j33 v32 = some out → GG g x 8 Q 0 0 y M 99 [some (.ref a0), none, some (.int a2), none, some (.int v3), some (.int v9), some (.int r23), some (.int v25)] [.int v32, .int v24] := by
                  intro v32 h; subst ej33
                  refine g_ior C tb_X12_patchOf_1_ok (i := 12) rfl ?_
                  refine g_topi (fun v34 ev34 => ?_)
                  have h := lt_e ev34 h
                  refine g_istore_n C tb_X12_patchOf_1_ok (i := 13) rfl rfl rfl ?_
                  obtain ⟨v35, ev35⟩ : ∃ w : Int32, w = v25 + (1 : Int32) := ⟨_, rfl⟩
                  have h := lt_e ev35 h
                  refine g_iincv C tb_X12_patchOf_1_ok (i := 14) (1 : Int32) ev35 rfl rfl k_iconstv_1 rfl rfl ?_
                  refine g_goto C tb_X12_patchOf_1_ok (i := 15) 49 rfl rfl ?_
                  exact g_less (L' := [some (.ref a0), none, some (.int a2), some (.int v34), some (.int v3), some (.int v9), some (.int r23), some (.int v35)]) ⟨rfl, ⟨rfl, ⟨rfl, ⟨rfl, ⟨rfl, ⟨rfl, ⟨rfl, trivial⟩⟩⟩⟩⟩⟩⟩ (ih27 v34 v35 h)
                obtain ⟨j36, ej36, h⟩ := jn_e h
                have J98 : ∀ (_u : Unit), j36 _u = some out → GG g x 8 Q 0 0 y M 98 [some (.ref a0), none, some (.int a2), none, some (.int v3), some (.int v9), some (.int r23), some (.int v25)] [.int v24] := by
                  intro _u h; subst ej36
                  refine g_iconstv C tb_X12_patchOf_1_ok (i := 11) 0 rfl k_iconstv_0 ?_
                  exact g_less (L' := [some (.ref a0), none, some (.int a2), none, some (.int v3), some (.int v9), some (.int r23), some (.int v25)]) ⟨rfl, ⟨rfl, ⟨rfl, ⟨rfl, ⟨rfl, ⟨rfl, trivial⟩⟩⟩⟩⟩⟩ (J99 (0 : Int32) h)
                obtain ⟨t37, f38⟩ := br_e h
                refine g_if_eq C tb_X12_patchOf_0_ok (i := 34) 98 rfl rfl (fun c => ?_) (fun c => ?_)
                · have h := t37 c
                  exact g_less (L' := [some (.ref a0), none, some (.int a2), none, some (.int v3), some (.int v9), some (.int r23), some (.int v25)]) ⟨rfl, ⟨rfl, ⟨rfl, ⟨rfl, ⟨rfl, ⟨rfl, trivial⟩⟩⟩⟩⟩⟩ (J98 () h)
                · have h := f38 c
                  refine g_aload_n C tb_X12_patchOf_0_ok (i := 35) rfl rfl ?_
                  obtain ⟨n39, h⟩ := gN_e h
                  refine g_getR C tb_X12_patchOf_0_ok (i := 36) rfl fl_X12_75 rfl k12 n39 ?_
                  refine g_iload C tb_X12_patchOf_0_ok (i := 37) rfl rfl ?_
                  obtain ⟨b40, h⟩ := gA_e h
                  refine g_iald C tb_X12_patchOf_0_ok (i := 38) rfl b40 ?_
                  refine g_aload_n C tb_X12_patchOf_0_ok (i := 39) rfl rfl ?_
                  refine g_getR C tb_X12_patchOf_1_ok (i := 0) rfl fl_X12_75 rfl k12 n39 ?_
                  refine g_iload C tb_X12_patchOf_1_ok (i := 1) rfl rfl ?_
                  obtain ⟨b41, h⟩ := gA_e h
                  refine g_iald C tb_X12_patchOf_1_ok (i := 2) rfl b41 ?_
                  refine g_isub C tb_X12_patchOf_1_ok (i := 3) rfl ?_
                  refine g_abs C tb_X12_patchOf_1_ok (i := 4) rfl mt_X12_354 rfl rfl rfl ?_
                  refine g_iload_n C tb_X12_patchOf_1_ok (i := 5) rfl rfl ?_
                  obtain ⟨t42, f43⟩ := br_e h
                  refine g_icmp_gt C tb_X12_patchOf_1_ok (i := 6) 98 rfl rfl (fun c => ?_) (fun c => ?_)
                  · have h := t42 c
                    exact g_less (L' := [some (.ref a0), none, some (.int a2), none, some (.int v3), some (.int v9), some (.int r23), some (.int v25)]) ⟨rfl, ⟨rfl, ⟨rfl, ⟨rfl, ⟨rfl, ⟨rfl, trivial⟩⟩⟩⟩⟩⟩ (J98 () h)
                  · have h := f43 c
                    refine g_iconstv C tb_X12_patchOf_1_ok (i := 7) 1 rfl k_iconstv_1 ?_
                    refine g_iload C tb_X12_patchOf_1_ok (i := 8) rfl rfl ?_
                    refine g_ishl C tb_X12_patchOf_1_ok (i := 9) rfl ?_
                    refine g_goto C tb_X12_patchOf_1_ok (i := 10) 99 rfl rfl ?_
                    exact g_less (L' := [some (.ref a0), none, some (.int a2), none, some (.int v3), some (.int v9), some (.int r23), some (.int v25)]) ⟨rfl, ⟨rfl, ⟨rfl, ⟨rfl, ⟨rfl, ⟨rfl, trivial⟩⟩⟩⟩⟩⟩ (J99 ((1 : Int32) <<< (v25 &&& 31)) h)
          · have h := t21 c
            refine g_goto C tb_X12_patchOf_0_ok (i := 19) 107 rfl rfl ?_
            exact g_less (L' := [some (.ref a0), none, some (.int a2), some (.int v8), some (.int v3), some (.int v9), none, none]) ⟨rfl, ⟨rfl, ⟨rfl, ⟨rfl, ⟨rfl, trivial⟩⟩⟩⟩⟩ (J107 v8 h)
def f_X12_cell (y : Lay) (a0 : Nat) (a1 : Int32) (a2 : Int32) (M : Mem) : Option (Int32 × Mem) := gK y a0 (0, 12) (lt (wI M a0 4 (0 : Int32)) fun (M2 : Mem) => cp (f_X12_isCell y a0 a1 M2) fun (r3 : Int32) => br (r3 = 0) (c0 (f_X12_fail y a0 (1 : Int32) M2) fun (r21 : Int32) (M22 : Mem) => some (r21, M22)) (br (a2 < (0 : Int32) ∨ (3 : Int32) < a2) (c0 (f_X12_fail y a0 (1 : Int32) M2) fun (r8 : Int32) (M9 : Mem) => some (r8, M9)) (br (a2 = (0 : Int32)) (gN (y.2.1 a0 28) (gA y (y.2.1 a0 28) 1 a1 (some ((M2.1 (y.2.1 a0 28) a1.toNatClampNeg), M2)))) (br (a2 = (1 : Int32)) (cp (f_X12_besideOf y a0 a1 M2) fun (r14 : Int32) => some (r14, M2)) (br (a2 = (2 : Int32)) (cp (f_X12_girlsAt y a0 a1 M2) fun (r17 : Int32) => some (r17, M2)) (cp (f_X12_patchOf y a0 a1 (0 : Int32) M2) fun (r20 : Int32) => some (r20, M2)))))))
theorem w_X12_cell {g : GX} {l : Launch} (hG : GF g l) (y : Lay) (a0 : Nat) (a1 : Int32) (a2 : Int32) (M : Mem) : C0 g l yX12_cell cX12_cell 3 (some .int) 4 y [.ref a0, .int a1, .int a2] M (f_X12_cell y a0 a1 a2 M) := by
  refine C0_of hG (by decide) [some (.ref a0), some (.int a1), some (.int a2)] rfl rfl (fun out h x Q C R => ?_)
  unfold f_X12_cell at h
  refine g_aload_n C tb_X12_cell_0_ok (i := 0) rfl rfl ?_
  refine g_iconstv C tb_X12_cell_0_ok (i := 1) 0 rfl k_iconstv_0 ?_
  obtain ⟨k1, h⟩ := gK_e h
  refine g_putI C tb_X12_cell_0_ok (i := 2) rfl fl_X12_150 ft_12_4 rfl k1 ?_
  refine g_mem (fun M2 eM2 => ?_)
  have h := lt_e eM2 h
  refine g_aload_n C tb_X12_cell_0_ok (i := 3) rfl rfl ?_
  refine g_iload_n C tb_X12_cell_0_ok (i := 4) rfl rfl ?_
  obtain ⟨r3, er3, h⟩ := cp_e h
  refine g_callV0 C tb_X12_cell_0_ok (i := 5) [.int a1] rfl mw_X12_isCell mv_X12_isCell ml_X12_408 k1 rfl rfl rfl rfl (w_X12_isCell C.G y a0 a1 M2) (pm_s er3) rfl rfl rfl ?_
  obtain ⟨t4, f5⟩ := br_e h
  refine g_if_ne C tb_X12_cell_0_ok (i := 6) 19 rfl rfl (fun c => ?_) (fun c => ?_)
  · have h := f5 c
    refine g_iload_n C tb_X12_cell_0_ok (i := 11) rfl rfl ?_
    obtain ⟨t6, f7⟩ := br_e h
    by_cases hsw : a2 < (0 : Int32) ∨ (3 : Int32) < a2
    · have h := t6 hsw
      refine g_tableOut C tb_X12_cell_0_ok (i := 12) 0 3 78 rfl hsw (by decide) rfl ?_
      refine g_aload_n C tb_X12_cell_0_ok (i := 31) rfl rfl ?_
      refine g_iconstv C tb_X12_cell_0_ok (i := 32) 1 rfl k_iconstv_1 ?_
      obtain ⟨r8, M9, er8, h⟩ := c0_e h
      refine g_callV0 C tb_X12_cell_0_ok (i := 33) [.int (1 : Int32)] rfl mw_X12_fail mv_X12_fail ml_X12_318 k1 rfl rfl rfl rfl (w_X12_fail C.G y a0 (1 : Int32) M2) er8 rfl rfl rfl ?_
      cases h
      exact g_iret0 C R tb_X12_cell_0_ok (i := 34) rfl
    have h := f7 hsw
    obtain ⟨t12, f13⟩ := br_e h
    by_cases hs1000 : a2 = (0 : Int32)
    · have h := t12 hs1000
      refine g_tableIn C tb_X12_cell_0_ok (i := 12) 0 52 32 rfl hs1000 (by decide) rfl ?_
      refine g_aload_n C tb_X12_cell_0_ok (i := 13) rfl rfl ?_
      obtain ⟨n10, h⟩ := gN_e h
      refine g_getR C tb_X12_cell_0_ok (i := 14) rfl fl_X12_75 rfl k1 n10 ?_
      refine g_iload_n C tb_X12_cell_0_ok (i := 15) rfl rfl ?_
      obtain ⟨b11, h⟩ := gA_e h
      refine g_iald C tb_X12_cell_0_ok (i := 16) rfl b11 ?_
      cases h
      exact g_iret0 C R tb_X12_cell_0_ok (i := 17) rfl
    have h := f13 hs1000
    obtain ⟨t15, f16⟩ := br_e h
    by_cases hs1001 : a2 = (1 : Int32)
    · have h := t15 hs1001
      refine g_tableIn C tb_X12_cell_0_ok (i := 12) 1 59 39 rfl hs1001 (by decide) rfl ?_
      refine g_aload_n C tb_X12_cell_0_ok (i := 18) rfl rfl ?_
      refine g_iload_n C tb_X12_cell_0_ok (i := 19) rfl rfl ?_
      obtain ⟨r14, er14, h⟩ := cp_e h
      refine g_callV0 C tb_X12_cell_0_ok (i := 20) [.int a1] rfl mw_X12_besideOf mv_X12_besideOf ml_X12_363 k1 rfl rfl rfl rfl (w_X12_besideOf C.G y a0 a1 M2) (pm_s er14) rfl rfl rfl ?_
      cases h
      exact g_iret0 C R tb_X12_cell_0_ok (i := 21) rfl
    have h := f16 hs1001
    obtain ⟨t18, f19⟩ := br_e h
    by_cases hs1002 : a2 = (2 : Int32)
    · have h := t18 hs1002
      refine g_tableIn C tb_X12_cell_0_ok (i := 12) 2 65 45 rfl hs1002 (by decide) rfl ?_
      refine g_aload_n C tb_X12_cell_0_ok (i := 22) rfl rfl ?_
      refine g_iload_n C tb_X12_cell_0_ok (i := 23) rfl rfl ?_
      obtain ⟨r17, er17, h⟩ := cp_e h
      refine g_callV0 C tb_X12_cell_0_ok (i := 24) [.int a1] rfl mw_X12_girlsAt mv_X12_girlsAt ml_X12_411 k1 rfl rfl rfl rfl (w_X12_girlsAt C.G y a0 a1 M2) (pm_s er17) rfl rfl rfl ?_
      cases h
      exact g_iret0 C R tb_X12_cell_0_ok (i := 25) rfl
    have h := f19 hs1002
    have hlast : a2 = (3 : Int32) := i32_sw (l := [(0 : Int32), (1 : Int32), (2 : Int32)]) (n := 3) hsw (by decide +kernel) (i32_ne [(0 : Int32), (1 : Int32), (2 : Int32)] rfl (by intro c hc; simp only [List.mem_cons, List.not_mem_nil, or_false] at hc; rcases hc with rfl | rfl | rfl <;> assumption))
    refine g_tableIn C tb_X12_cell_0_ok (i := 12) 3 71 51 rfl hlast (by decide) rfl ?_
    refine g_aload_n C tb_X12_cell_0_ok (i := 26) rfl rfl ?_
    refine g_iload_n C tb_X12_cell_0_ok (i := 27) rfl rfl ?_
    refine g_iconstv C tb_X12_cell_0_ok (i := 28) 0 rfl k_iconstv_0 ?_
    obtain ⟨r20, er20, h⟩ := cp_e h
    refine g_callV0 C tb_X12_cell_0_ok (i := 29) [.int a1, .int (0 : Int32)] rfl mw_X12_patchOf mv_X12_patchOf ml_X12_414 k1 rfl rfl rfl rfl (w_X12_patchOf C.G y a0 a1 (0 : Int32) M2) (pm_s er20) rfl rfl rfl ?_
    cases h
    exact g_iret0 C R tb_X12_cell_0_ok (i := 30) rfl
  · have h := t4 c
    refine g_aload_n C tb_X12_cell_0_ok (i := 7) rfl rfl ?_
    refine g_iconstv C tb_X12_cell_0_ok (i := 8) 1 rfl k_iconstv_1 ?_
    obtain ⟨r21, M22, er21, h⟩ := c0_e h
    refine g_callV0 C tb_X12_cell_0_ok (i := 9) [.int (1 : Int32)] rfl mw_X12_fail mv_X12_fail ml_X12_318 k1 rfl rfl rfl rfl (w_X12_fail C.G y a0 (1 : Int32) M2) er21 rfl rfl rfl ?_
    cases h
    exact g_iret0 C R tb_X12_cell_0_ok (i := 10) rfl
def f_X12_isGirl (y : Lay) (a0 : Nat) (a1 : Int32) (M : Mem) : Option Int32 := gK y a0 (0, 12) (gN (y.2.1 a0 5) (gA y (y.2.1 a0 5) 1 (2 : Int32) (cp (f_X12_isIn y (a1.toInt64) (0 : Int64) (((M.1 (y.2.1 a0 5) (2 : Int32).toNatClampNeg) - (1 : Int32)).toInt64) M) fun (r4 : Int32) => gd (r4 = 0 ∨ r4 = 1) (some r4))))
theorem w_X12_isGirl {g : GX} {l : Launch} (hG : GF g l) (y : Lay) (a0 : Nat) (a1 : Int32) (M : Mem) : C0 g l yX12_isGirl cX12_isGirl 2 (some .boolean) 1 y [.ref a0, .int a1] M (pm M (f_X12_isGirl y a0 a1 M)) := by
  refine CP_of hG (by decide) [some (.ref a0), some (.int a1)] rfl rfl (fun out h x Q C R => ?_)
  unfold f_X12_isGirl at h
  refine g_iload_n C tb_X12_isGirl_0_ok (i := 0) rfl rfl ?_
  refine g_i2l C tb_X12_isGirl_0_ok (i := 1) rfl ?_
  refine g_lconst C tb_X12_isGirl_0_ok (i := 2) 0 rfl rfl ?_
  refine g_aload_n C tb_X12_isGirl_0_ok (i := 3) rfl rfl ?_
  obtain ⟨k1, h⟩ := gK_e h
  obtain ⟨n2, h⟩ := gN_e h
  refine g_getR C tb_X12_isGirl_0_ok (i := 4) rfl fl_X12_40 rfl k1 n2 ?_
  refine g_iconstv C tb_X12_isGirl_0_ok (i := 5) 2 rfl k_iconstv_2 ?_
  obtain ⟨b3, h⟩ := gA_e h
  refine g_iald C tb_X12_isGirl_0_ok (i := 6) rfl b3 ?_
  refine g_iconstv C tb_X12_isGirl_0_ok (i := 7) 1 rfl k_iconstv_1 ?_
  refine g_isub C tb_X12_isGirl_0_ok (i := 8) rfl ?_
  refine g_i2l C tb_X12_isGirl_0_ok (i := 9) rfl ?_
  obtain ⟨r4, er4, h⟩ := cp_e h
  refine g_callS0 C tb_X12_isGirl_0_ok (i := 10) [.long (a1.toInt64), .long (0 : Int64), .long (((M.1 (y.2.1 a0 5) (2 : Int32).toNatClampNeg) - (1 : Int32)).toInt64)] rfl mw_X12_isIn mst_X12_isIn ml_X12_157 rfl rfl rfl rfl (w_X12_isIn C.G y (a1.toInt64) (0 : Int64) (((M.1 (y.2.1 a0 5) (2 : Int32).toNatClampNeg) - (1 : Int32)).toInt64) M) (pm_s er4) rfl rfl rfl ?_
  obtain ⟨hz, h⟩ := gd_e h
  cases h
  exact g_zret0 C R hz tb_X12_isGirl_0_ok (i := 11) rfl
def f_X12_blueBeside (y : Lay) (a0 : Nat) (a1 : Int32) (M : Mem) : Option Int32 := gK y a0 (0, 12) (cp (f_X12_besideOf y a0 a1 M) fun (r2 : Int32) => fixN (fun _ _ => none) (fun (s5 : Int32 → Int32 → Option Int32) (v3 : Int32) (v4 : Int32) => cp (f_X12_cells y a0 M) fun (r7 : Int32) => br (r7 ≤ v4) (some v3) (cp (f_X12_isOf y r2 v4 M) fun (r10 : Int32) => jn (fun (v11 : Int32) => lt (v3 + v11) fun (v13 : Int32) => lt (v4 + (1 : Int32)) fun (v14 : Int32) => s5 v13 v14) fun j12 => br (r10 = 0) (j12 (0 : Int32)) (gN (y.2.1 a0 28) (gA y (y.2.1 a0 28) 1 v4 (j12 (M.1 (y.2.1 a0 28) v4.toNatClampNeg)))))) FUEL (0 : Int32) (0 : Int32))
theorem w_X12_blueBeside {g : GX} {l : Launch} (hG : GF g l) (y : Lay) (a0 : Nat) (a1 : Int32) (M : Mem) : C0 g l yX12_blueBeside cX12_blueBeside 5 (some .int) 3 y [.ref a0, .int a1] M (pm M (f_X12_blueBeside y a0 a1 M)) := by
  refine CP_of hG (by decide) [some (.ref a0), some (.int a1), none, none, none] rfl rfl (fun out h x Q C R => ?_)
  unfold f_X12_blueBeside at h
  refine g_iconstv C tb_X12_blueBeside_0_ok (i := 0) 0 rfl k_iconstv_0 ?_
  refine g_istore_n C tb_X12_blueBeside_0_ok (i := 1) rfl rfl rfl ?_
  refine g_aload_n C tb_X12_blueBeside_0_ok (i := 2) rfl rfl ?_
  refine g_iload_n C tb_X12_blueBeside_0_ok (i := 3) rfl rfl ?_
  obtain ⟨k1, h⟩ := gK_e h
  obtain ⟨r2, er2, h⟩ := cp_e h
  refine g_callV0 C tb_X12_blueBeside_0_ok (i := 4) [.int a1] rfl mw_X12_besideOf mv_X12_besideOf ml_X12_363 k1 rfl rfl rfl rfl (w_X12_besideOf C.G y a0 a1 M) (pm_s er2) rfl rfl rfl ?_
  refine g_istore_n C tb_X12_blueBeside_0_ok (i := 5) rfl rfl rfl ?_
  refine g_iconstv C tb_X12_blueBeside_0_ok (i := 6) 0 rfl k_iconstv_0 ?_
  refine g_istore C tb_X12_blueBeside_0_ok (i := 7) rfl rfl rfl ?_
  refine g_less (L' := [some (.ref a0), none, some (.int (0 : Int32)), some (.int r2), some (.int (0 : Int32))]) ⟨rfl, ⟨rfl, ⟨rfl, ⟨rfl, trivial⟩⟩⟩⟩ ?_
  refine fix_i (P := fun (f : Int32 → Int32 → Option Int32) => ∀ (v3 : Int32) (v4 : Int32), f v3 v4 = some out → GG g x 5 Q 0 0 y M 11 [some (.ref a0), none, some (.int v3), some (.int r2), some (.int v4)] []) ?_ ?_ _ (0 : Int32) (0 : Int32) h
  · intro v3 v4 h; exact (nn_e h).elim
  · intro s5 ih6 v3 v4 h
    refine g_iload C tb_X12_blueBeside_0_ok (i := 8) rfl rfl ?_
    refine g_aload_n C tb_X12_blueBeside_0_ok (i := 9) rfl rfl ?_
    obtain ⟨r7, er7, h⟩ := cp_e h
    refine g_callV0 C tb_X12_blueBeside_0_ok (i := 10) [] rfl mw_X12_cells mv_X12_cells ml_X12_153 k1 rfl rfl rfl rfl (w_X12_cells C.G y a0 M) (pm_s er7) rfl rfl rfl ?_
    obtain ⟨t8, f9⟩ := br_e h
    refine g_icmp_ge C tb_X12_blueBeside_0_ok (i := 11) 49 rfl rfl (fun c => ?_) (fun c => ?_)
    · have h := t8 c
      refine g_iload_n C tb_X12_blueBeside_0_ok (i := 27) rfl rfl ?_
      cases h
      exact g_iret0 C R tb_X12_blueBeside_0_ok (i := 28) rfl
    · have h := f9 c
      refine g_iload_n C tb_X12_blueBeside_0_ok (i := 12) rfl rfl ?_
      refine g_iload_n C tb_X12_blueBeside_0_ok (i := 13) rfl rfl ?_
      refine g_iload C tb_X12_blueBeside_0_ok (i := 14) rfl rfl ?_
      obtain ⟨r10, er10, h⟩ := cp_e h
      refine g_callS0 C tb_X12_blueBeside_0_ok (i := 15) [.int r2, .int v4] rfl mw_X12_isOf mst_X12_isOf ml_X12_232 rfl rfl rfl rfl (w_X12_isOf C.G y r2 v4 M) (pm_s er10) rfl rfl rfl ?_
      obtain ⟨j12, ej12, h⟩ := jn_e h
      have J41 : ∀ (v11 : Int32), j12 v11 = some out → GG g x 5 Q 0 0 y M 41 [some (.ref a0), none, none, some (.int r2), some (.int v4)] [.int v11, .int v3] := by
        intro v11 h; subst ej12
        refine g_iadd C tb_X12_blueBeside_0_ok (i := 23) rfl ?_
        refine g_topi (fun v13 ev13 => ?_)
        have h := lt_e ev13 h
        refine g_istore_n C tb_X12_blueBeside_0_ok (i := 24) rfl rfl rfl ?_
        obtain ⟨v14, ev14⟩ : ∃ w : Int32, w = v4 + (1 : Int32) := ⟨_, rfl⟩
        have h := lt_e ev14 h
        refine g_iincv C tb_X12_blueBeside_0_ok (i := 25) (1 : Int32) ev14 rfl rfl k_iconstv_1 rfl rfl ?_
        refine g_goto C tb_X12_blueBeside_0_ok (i := 26) 11 rfl rfl ?_
        exact g_less (L' := [some (.ref a0), none, some (.int v13), some (.int r2), some (.int v14)]) ⟨rfl, ⟨rfl, ⟨rfl, ⟨rfl, trivial⟩⟩⟩⟩ (ih6 v13 v14 h)
      obtain ⟨t15, f16⟩ := br_e h
      refine g_if_eq C tb_X12_blueBeside_0_ok (i := 16) 40 rfl rfl (fun c => ?_) (fun c => ?_)
      · have h := t15 c
        refine g_iconstv C tb_X12_blueBeside_0_ok (i := 22) 0 rfl k_iconstv_0 ?_
        exact g_less (L' := [some (.ref a0), none, none, some (.int r2), some (.int v4)]) ⟨rfl, ⟨rfl, ⟨rfl, trivial⟩⟩⟩ (J41 (0 : Int32) h)
      · have h := f16 c
        refine g_aload_n C tb_X12_blueBeside_0_ok (i := 17) rfl rfl ?_
        obtain ⟨n17, h⟩ := gN_e h
        refine g_getR C tb_X12_blueBeside_0_ok (i := 18) rfl fl_X12_75 rfl k1 n17 ?_
        refine g_iload C tb_X12_blueBeside_0_ok (i := 19) rfl rfl ?_
        obtain ⟨b18, h⟩ := gA_e h
        refine g_iald C tb_X12_blueBeside_0_ok (i := 20) rfl b18 ?_
        refine g_goto C tb_X12_blueBeside_0_ok (i := 21) 41 rfl rfl ?_
        exact g_less (L' := [some (.ref a0), none, none, some (.int r2), some (.int v4)]) ⟨rfl, ⟨rfl, ⟨rfl, trivial⟩⟩⟩ (J41 (M.1 (y.2.1 a0 28) v4.toNatClampNeg) h)
def f_X12_ask (y : Lay) (a0 : Nat) (a1 : Int32) (M : Mem) : Option (Int32 × Mem) := gK y a0 (0, 12) (gN (y.2.1 a0 38) (gN (y.2.1 a0 28) (gA y (y.2.1 a0 28) 1 a1 (gA y (y.2.1 a0 38) 1 (0 : Int32) (lt (wI M (y.2.1 a0 38) (0 : Int32).toNatClampNeg (M.1 (y.2.1 a0 28) a1.toNatClampNeg)) fun (M6 : Mem) => cp (f_X12_blueBeside y a0 a1 M6) fun (r7 : Int32) => gA y (y.2.1 a0 38) 1 (1 : Int32) (lt (wI M6 (y.2.1 a0 38) (1 : Int32).toNatClampNeg r7) fun (M9 : Mem) => cp (f_X12_rowOf y a0 a1 M9) fun (r10 : Int32) => gA y (y.2.1 a0 38) 1 (2 : Int32) (lt (wI M9 (y.2.1 a0 38) (2 : Int32).toNatClampNeg r10) fun (M12 : Mem) => gA y (y.2.1 a0 38) 1 (3 : Int32) (lt (wI M12 (y.2.1 a0 38) (3 : Int32).toNatClampNeg (M12.1 a0 31)) fun (M14 : Mem) => some (0, M14)))))))))
theorem w_X12_ask {g : GX} {l : Launch} (hG : GF g l) (y : Lay) (a0 : Nat) (a1 : Int32) (M : Mem) : C0 g l yX12_ask cX12_ask 2 none 4 y [.ref a0, .int a1] M (f_X12_ask y a0 a1 M) := by
  refine C0_of hG (by decide) [some (.ref a0), some (.int a1)] rfl rfl (fun out h x Q C R => ?_)
  unfold f_X12_ask at h
  refine g_aload_n C tb_X12_ask_0_ok (i := 0) rfl rfl ?_
  obtain ⟨k1, h⟩ := gK_e h
  obtain ⟨n2, h⟩ := gN_e h
  refine g_getR C tb_X12_ask_0_ok (i := 1) rfl fl_X12_83 rfl k1 n2 ?_
  refine g_iconstv C tb_X12_ask_0_ok (i := 2) 0 rfl k_iconstv_0 ?_
  refine g_aload_n C tb_X12_ask_0_ok (i := 3) rfl rfl ?_
  obtain ⟨n3, h⟩ := gN_e h
  refine g_getR C tb_X12_ask_0_ok (i := 4) rfl fl_X12_75 rfl k1 n3 ?_
  refine g_iload_n C tb_X12_ask_0_ok (i := 5) rfl rfl ?_
  obtain ⟨b4, h⟩ := gA_e h
  refine g_iald C tb_X12_ask_0_ok (i := 6) rfl b4 ?_
  obtain ⟨b5, h⟩ := gA_e h
  refine g_iast C tb_X12_ask_0_ok (i := 7) rfl b5 ?_
  refine g_mem (fun M6 eM6 => ?_)
  have h := lt_e eM6 h
  refine g_aload_n C tb_X12_ask_0_ok (i := 8) rfl rfl ?_
  refine g_getR C tb_X12_ask_0_ok (i := 9) rfl fl_X12_83 rfl k1 n2 ?_
  refine g_iconstv C tb_X12_ask_0_ok (i := 10) 1 rfl k_iconstv_1 ?_
  refine g_aload_n C tb_X12_ask_0_ok (i := 11) rfl rfl ?_
  refine g_iload_n C tb_X12_ask_0_ok (i := 12) rfl rfl ?_
  obtain ⟨r7, er7, h⟩ := cp_e h
  refine g_callV0 C tb_X12_ask_0_ok (i := 13) [.int a1] rfl mw_X12_blueBeside mv_X12_blueBeside ml_X12_370 k1 rfl rfl rfl rfl (w_X12_blueBeside C.G y a0 a1 M6) (pm_s er7) rfl rfl rfl ?_
  obtain ⟨b8, h⟩ := gA_e h
  refine g_iast C tb_X12_ask_0_ok (i := 14) rfl b8 ?_
  refine g_mem (fun M9 eM9 => ?_)
  have h := lt_e eM9 h
  refine g_aload_n C tb_X12_ask_0_ok (i := 15) rfl rfl ?_
  refine g_getR C tb_X12_ask_0_ok (i := 16) rfl fl_X12_83 rfl k1 n2 ?_
  refine g_iconstv C tb_X12_ask_0_ok (i := 17) 2 rfl k_iconstv_2 ?_
  refine g_aload_n C tb_X12_ask_0_ok (i := 18) rfl rfl ?_
  refine g_iload_n C tb_X12_ask_0_ok (i := 19) rfl rfl ?_
  obtain ⟨r10, er10, h⟩ := cp_e h
  refine g_callV0 C tb_X12_ask_0_ok (i := 20) [.int a1] rfl mw_X12_rowOf mv_X12_rowOf ml_X12_357 k1 rfl rfl rfl rfl (w_X12_rowOf C.G y a0 a1 M9) (pm_s er10) rfl rfl rfl ?_
  obtain ⟨b11, h⟩ := gA_e h
  refine g_iast C tb_X12_ask_0_ok (i := 21) rfl b11 ?_
  refine g_mem (fun M12 eM12 => ?_)
  have h := lt_e eM12 h
  refine g_aload_n C tb_X12_ask_0_ok (i := 22) rfl rfl ?_
  refine g_getR C tb_X12_ask_0_ok (i := 23) rfl fl_X12_83 rfl k1 n2 ?_
  refine g_iconstv C tb_X12_ask_0_ok (i := 24) 3 rfl k_iconstv_3 ?_
  refine g_aload_n C tb_X12_ask_0_ok (i := 25) rfl rfl ?_
  refine g_getI C tb_X12_ask_0_ok (i := 26) rfl fl_X12_331 rfl k1 ?_
  obtain ⟨b13, h⟩ := gA_e h
  refine g_iast C tb_X12_ask_0_ok (i := 27) rfl b13 ?_
  refine g_mem (fun M14 eM14 => ?_)
  have h := lt_e eM14 h
  cases h
  exact g_vret0 C R tb_X12_ask_0_ok (i := 28) rfl
def f_X12_reckon (y : Lay) (a0 : Int32) (a1 : Int32) (a2 : Int32) (M : Mem) : Option Int32 := br (a0 < ((-26) : Int32) ∨ ((-20) : Int32) < a0) (jn (fun (v3 : Int32) => some v3) fun j4 => jn (fun (_u : Unit) => j4 (1 : Int32)) fun j5 => br (a1 = 0) (br (a2 = 0) (j4 (0 : Int32)) (j5 ())) (j5 ())) (br (a0 = ((-26) : Int32)) (jn (fun (v10 : Int32) => some v10) fun j11 => jn (fun (_u : Unit) => j11 (0 : Int32)) fun j12 => br (a1 = 0) (j12 ()) (br (a2 = 0) (j12 ()) (j11 (1 : Int32)))) (br (a0 = ((-25) : Int32)) (jn (fun (v19 : Int32) => some v19) fun j20 => br (a1 = a2) (j20 (1 : Int32)) (j20 (0 : Int32))) (br (a0 = ((-24) : Int32)) (jn (fun (v25 : Int32) => some v25) fun j26 => br (a2 ≤ a1) (j26 (0 : Int32)) (j26 (1 : Int32))) (br (a0 = ((-23) : Int32)) (jn (fun (v31 : Int32) => some v31) fun j32 => br (a2 = 0) (j32 (0 : Int32)) (gd (¬ a2 = 0) (j32 (a1 / a2)))) (br (a0 = ((-22) : Int32)) (some (a1 * a2)) (br (a0 = ((-21) : Int32)) (some (a1 - a2)) (some (a1 + a2))))))))
theorem w_X12_reckon {g : GX} {l : Launch} (hG : GF g l) (y : Lay) (a0 : Int32) (a1 : Int32) (a2 : Int32) (M : Mem) : C0 g l yX12_reckon cX12_reckon 3 (some .int) 0 y [.int a0, .int a1, .int a2] M (pm M (f_X12_reckon y a0 a1 a2 M)) := by
  refine CP_of hG (by decide) [some (.int a0), some (.int a1), some (.int a2)] rfl rfl (fun out h x Q C R => ?_)
  unfold f_X12_reckon at h
  refine g_iload_n C tb_X12_reckon_0_ok (i := 0) rfl rfl ?_
  obtain ⟨t1, f2⟩ := br_e h
  by_cases hsw : a0 < ((-26) : Int32) ∨ ((-20) : Int32) < a0
  · have h := t1 hsw
    refine g_tableOut C tb_X12_reckon_0_ok (i := 1) (-26) (-20) 104 rfl hsw (by decide) rfl ?_
    refine g_iload_n C tb_X12_reckon_1_ok (i := 4) rfl rfl ?_
    obtain ⟨j4, ej4, h⟩ := jn_e h
    have J117 : ∀ (v3 : Int32), j4 v3 = some out → GG g x 3 Q 0 0 y M 117 [none, none, none] [.int v3] := by
      intro v3 h; subst ej4
      cases h
      exact g_iret0 C R tb_X12_reckon_1_ok (i := 11) rfl
    obtain ⟨j5, ej5, h⟩ := jn_e h
    have J112 : ∀ (_u : Unit), j5 _u = some out → GG g x 3 Q 0 0 y M 112 [none, none, none] [] := by
      intro _u h; subst ej5
      refine g_iconstv C tb_X12_reckon_1_ok (i := 8) 1 rfl k_iconstv_1 ?_
      refine g_goto C tb_X12_reckon_1_ok (i := 9) 117 rfl rfl ?_
      exact g_less (L' := [none, none, none]) trivial (J117 (1 : Int32) h)
    obtain ⟨t6, f7⟩ := br_e h
    refine g_if_ne C tb_X12_reckon_1_ok (i := 5) 112 rfl rfl (fun c => ?_) (fun c => ?_)
    · have h := f7 c
      exact g_less (L' := [none, none, none]) trivial (J112 () h)
    · have h := t6 c
      refine g_iload_n C tb_X12_reckon_1_ok (i := 6) rfl rfl ?_
      obtain ⟨t8, f9⟩ := br_e h
      refine g_if_eq C tb_X12_reckon_1_ok (i := 7) 116 rfl rfl (fun c => ?_) (fun c => ?_)
      · have h := t8 c
        refine g_iconstv C tb_X12_reckon_1_ok (i := 10) 0 rfl k_iconstv_0 ?_
        exact g_less (L' := [none, none, none]) trivial (J117 (0 : Int32) h)
      · have h := f9 c
        exact g_less (L' := [none, none, none]) trivial (J112 () h)
  have h := f2 hsw
  obtain ⟨t17, f18⟩ := br_e h
  by_cases hs974 : a0 = ((-26) : Int32)
  · have h := t17 hs974
    refine g_tableIn C tb_X12_reckon_0_ok (i := 1) (-26) 90 89 rfl hs974 (by decide) rfl ?_
    refine g_iload_n C tb_X12_reckon_0_ok (i := 36) rfl rfl ?_
    obtain ⟨j11, ej11, h⟩ := jn_e h
    have J103 : ∀ (v10 : Int32), j11 v10 = some out → GG g x 3 Q 0 0 y M 103 [none, none, none] [.int v10] := by
      intro v10 h; subst ej11
      cases h
      exact g_iret0 C R tb_X12_reckon_1_ok (i := 3) rfl
    obtain ⟨j12, ej12, h⟩ := jn_e h
    have J102 : ∀ (_u : Unit), j12 _u = some out → GG g x 3 Q 0 0 y M 102 [none, none, none] [] := by
      intro _u h; subst ej12
      refine g_iconstv C tb_X12_reckon_1_ok (i := 2) 0 rfl k_iconstv_0 ?_
      exact g_less (L' := [none, none, none]) trivial (J103 (0 : Int32) h)
    obtain ⟨t13, f14⟩ := br_e h
    refine g_if_eq C tb_X12_reckon_0_ok (i := 37) 102 rfl rfl (fun c => ?_) (fun c => ?_)
    · have h := t13 c
      exact g_less (L' := [none, none, none]) trivial (J102 () h)
    · have h := f14 c
      refine g_iload_n C tb_X12_reckon_0_ok (i := 38) rfl rfl ?_
      obtain ⟨t15, f16⟩ := br_e h
      refine g_if_eq C tb_X12_reckon_0_ok (i := 39) 102 rfl rfl (fun c => ?_) (fun c => ?_)
      · have h := t15 c
        exact g_less (L' := [none, none, none]) trivial (J102 () h)
      · have h := f16 c
        refine g_iconstv C tb_X12_reckon_1_ok (i := 0) 1 rfl k_iconstv_1 ?_
        refine g_goto C tb_X12_reckon_1_ok (i := 1) 103 rfl rfl ?_
        exact g_less (L' := [none, none, none]) trivial (J103 (1 : Int32) h)
  have h := f18 hs974
  obtain ⟨t23, f24⟩ := br_e h
  by_cases hs975 : a0 = ((-25) : Int32)
  · have h := t23 hs975
    refine g_tableIn C tb_X12_reckon_0_ok (i := 1) (-25) 79 78 rfl hs975 (by decide) rfl ?_
    refine g_iload_n C tb_X12_reckon_0_ok (i := 29) rfl rfl ?_
    refine g_iload_n C tb_X12_reckon_0_ok (i := 30) rfl rfl ?_
    obtain ⟨j20, ej20, h⟩ := jn_e h
    have J89 : ∀ (v19 : Int32), j20 v19 = some out → GG g x 3 Q 0 0 y M 89 [none, none, none] [.int v19] := by
      intro v19 h; subst ej20
      cases h
      exact g_iret0 C R tb_X12_reckon_0_ok (i := 35) rfl
    obtain ⟨t21, f22⟩ := br_e h
    refine g_icmp_ne C tb_X12_reckon_0_ok (i := 31) 88 rfl rfl (fun c => ?_) (fun c => ?_)
    · have h := f22 c
      refine g_iconstv C tb_X12_reckon_0_ok (i := 34) 0 rfl k_iconstv_0 ?_
      exact g_less (L' := [none, none, none]) trivial (J89 (0 : Int32) h)
    · have h := t21 c
      refine g_iconstv C tb_X12_reckon_0_ok (i := 32) 1 rfl k_iconstv_1 ?_
      refine g_goto C tb_X12_reckon_0_ok (i := 33) 89 rfl rfl ?_
      exact g_less (L' := [none, none, none]) trivial (J89 (1 : Int32) h)
  have h := f24 hs975
  obtain ⟨t29, f30⟩ := br_e h
  by_cases hs976 : a0 = ((-24) : Int32)
  · have h := t29 hs976
    refine g_tableIn C tb_X12_reckon_0_ok (i := 1) (-24) 68 67 rfl hs976 (by decide) rfl ?_
    refine g_iload_n C tb_X12_reckon_0_ok (i := 22) rfl rfl ?_
    refine g_iload_n C tb_X12_reckon_0_ok (i := 23) rfl rfl ?_
    obtain ⟨j26, ej26, h⟩ := jn_e h
    have J78 : ∀ (v25 : Int32), j26 v25 = some out → GG g x 3 Q 0 0 y M 78 [none, none, none] [.int v25] := by
      intro v25 h; subst ej26
      cases h
      exact g_iret0 C R tb_X12_reckon_0_ok (i := 28) rfl
    obtain ⟨t27, f28⟩ := br_e h
    refine g_icmp_ge C tb_X12_reckon_0_ok (i := 24) 77 rfl rfl (fun c => ?_) (fun c => ?_)
    · have h := t27 c
      refine g_iconstv C tb_X12_reckon_0_ok (i := 27) 0 rfl k_iconstv_0 ?_
      exact g_less (L' := [none, none, none]) trivial (J78 (0 : Int32) h)
    · have h := f28 c
      refine g_iconstv C tb_X12_reckon_0_ok (i := 25) 1 rfl k_iconstv_1 ?_
      refine g_goto C tb_X12_reckon_0_ok (i := 26) 78 rfl rfl ?_
      exact g_less (L' := [none, none, none]) trivial (J78 (1 : Int32) h)
  have h := f30 hs976
  obtain ⟨t36, f37⟩ := br_e h
  by_cases hs977 : a0 = ((-23) : Int32)
  · have h := t36 hs977
    refine g_tableIn C tb_X12_reckon_0_ok (i := 1) (-23) 56 55 rfl hs977 (by decide) rfl ?_
    refine g_iload_n C tb_X12_reckon_0_ok (i := 14) rfl rfl ?_
    obtain ⟨j32, ej32, h⟩ := jn_e h
    have J67 : ∀ (v31 : Int32), j32 v31 = some out → GG g x 3 Q 0 0 y M 67 [none, none, none] [.int v31] := by
      intro v31 h; subst ej32
      cases h
      exact g_iret0 C R tb_X12_reckon_0_ok (i := 21) rfl
    obtain ⟨t33, f34⟩ := br_e h
    refine g_if_ne C tb_X12_reckon_0_ok (i := 15) 64 rfl rfl (fun c => ?_) (fun c => ?_)
    · have h := f34 c
      refine g_iload_n C tb_X12_reckon_0_ok (i := 18) rfl rfl ?_
      refine g_iload_n C tb_X12_reckon_0_ok (i := 19) rfl rfl ?_
      obtain ⟨n35, h⟩ := gd_e h
      refine g_idiv C tb_X12_reckon_0_ok (i := 20) rfl n35 ?_
      exact g_less (L' := [none, none, none]) trivial (J67 (a1 / a2) h)
    · have h := t33 c
      refine g_iconstv C tb_X12_reckon_0_ok (i := 16) 0 rfl k_iconstv_0 ?_
      refine g_goto C tb_X12_reckon_0_ok (i := 17) 67 rfl rfl ?_
      exact g_less (L' := [none, none, none]) trivial (J67 (0 : Int32) h)
  have h := f37 hs977
  obtain ⟨t38, f39⟩ := br_e h
  by_cases hs978 : a0 = ((-22) : Int32)
  · have h := t38 hs978
    refine g_tableIn C tb_X12_reckon_0_ok (i := 1) (-22) 52 51 rfl hs978 (by decide) rfl ?_
    refine g_iload_n C tb_X12_reckon_0_ok (i := 10) rfl rfl ?_
    refine g_iload_n C tb_X12_reckon_0_ok (i := 11) rfl rfl ?_
    refine g_imul C tb_X12_reckon_0_ok (i := 12) rfl ?_
    cases h
    exact g_iret0 C R tb_X12_reckon_0_ok (i := 13) rfl
  have h := f39 hs978
  obtain ⟨t40, f41⟩ := br_e h
  by_cases hs979 : a0 = ((-21) : Int32)
  · have h := t40 hs979
    refine g_tableIn C tb_X12_reckon_0_ok (i := 1) (-21) 48 47 rfl hs979 (by decide) rfl ?_
    refine g_iload_n C tb_X12_reckon_0_ok (i := 6) rfl rfl ?_
    refine g_iload_n C tb_X12_reckon_0_ok (i := 7) rfl rfl ?_
    refine g_isub C tb_X12_reckon_0_ok (i := 8) rfl ?_
    cases h
    exact g_iret0 C R tb_X12_reckon_0_ok (i := 9) rfl
  have h := f41 hs979
  have hlast : a0 = ((-20) : Int32) := i32_sw (l := [((-26) : Int32), ((-25) : Int32), ((-24) : Int32), ((-23) : Int32), ((-22) : Int32), ((-21) : Int32)]) (n := 6) hsw (by decide +kernel) (i32_ne [((-26) : Int32), ((-25) : Int32), ((-24) : Int32), ((-23) : Int32), ((-22) : Int32), ((-21) : Int32)] rfl (by intro c hc; simp only [List.mem_cons, List.not_mem_nil, or_false] at hc; rcases hc with rfl | rfl | rfl | rfl | rfl | rfl <;> assumption))
  refine g_tableIn C tb_X12_reckon_0_ok (i := 1) (-20) 44 43 rfl hlast (by decide) rfl ?_
  refine g_iload_n C tb_X12_reckon_0_ok (i := 2) rfl rfl ?_
  refine g_iload_n C tb_X12_reckon_0_ok (i := 3) rfl rfl ?_
  refine g_iadd C tb_X12_reckon_0_ok (i := 4) rfl ?_
  cases h
  exact g_iret0 C R tb_X12_reckon_0_ok (i := 5) rfl
def f_X12_valueNow (y : Lay) (a0 : Nat) (a1 : Nat) (a2 : Int32) (M : Mem) : Option (Int32 × Mem) := fixN (fun _ _ _ => none) (fun (s4 : Int32 → Int32 → Mem → Option (Int32 × Mem)) (v1 : Int32) (v2 : Int32) (M3 : Mem) => br (a2 ≤ v2) (gK y a0 (0, 12) (gN (y.2.1 a0 39) (gA y (y.2.1 a0 39) 1 (0 : Int32) (some ((M3.1 (y.2.1 a0 39) (0 : Int32).toNatClampNeg), M3))))) (gA y a1 1 v2 (lt (M3.1 a1 v2.toNatClampNeg) fun (v12 : Int32) => jn (fun (v13 : Int32) (M14 : Mem) => lt (v2 + (1 : Int32)) fun (v16 : Int32) => s4 v13 v16 M14) fun j15 => br (v12 ≤ ((-20) : Int32)) (br (v12 = ((-28) : Int32)) (gK y a0 (0, 12) (gN (y.2.1 a0 39) (gA y (y.2.1 a0 39) 1 (v1 - (1 : Int32)) (jn (fun (v32 : Int32) => gA y (y.2.1 a0 39) 1 (v1 - (1 : Int32)) (lt (wI M3 (y.2.1 a0 39) (v1 - (1 : Int32)).toNatClampNeg v32) fun (M35 : Mem) => j15 v1 M35)) fun j33 => br ((M3.1 (y.2.1 a0 39) (v1 - (1 : Int32)).toNatClampNeg) = 0) (j33 (1 : Int32)) (j33 (0 : Int32)))))) (lt (v1 + ((-1) : Int32)) fun (v21 : Int32) => gK y a0 (0, 12) (gN (y.2.1 a0 39) (gA y (y.2.1 a0 39) 1 (v21 - (1 : Int32)) (gA y (y.2.1 a0 39) 1 v21 (cp (f_X12_reckon y v12 (M3.1 (y.2.1 a0 39) (v21 - (1 : Int32)).toNatClampNeg) (M3.1 (y.2.1 a0 39) v21.toNatClampNeg) M3) fun (r26 : Int32) => gA y (y.2.1 a0 39) 1 (v21 - (1 : Int32)) (lt (wI M3 (y.2.1 a0 39) (v21 - (1 : Int32)).toNatClampNeg r26) fun (M28 : Mem) => j15 v21 M28))))))) (gK y a0 (0, 12) (gN (y.2.1 a0 39) (jn (fun (v40 : Int32) => gA y (y.2.1 a0 39) 1 v1 (lt (wI M3 (y.2.1 a0 39) v1.toNatClampNeg v40) fun (M43 : Mem) => lt (v1 + (1 : Int32)) fun (v44 : Int32) => j15 v44 M43)) fun j41 => br (v12 < 0) (gN (y.2.1 a0 38) (gA y (y.2.1 a0 38) 1 (((-1) : Int32) - v12) (j41 (M3.1 (y.2.1 a0 38) (((-1) : Int32) - v12).toNatClampNeg)))) (j41 v12))))))) FUEL (0 : Int32) (0 : Int32) M
theorem w_X12_valueNow {g : GX} {l : Launch} (hG : GF g l) (y : Lay) (a0 : Nat) (a1 : Nat) (a2 : Int32) (M : Mem) : C0 g l yX12_valueNow cX12_valueNow 6 (some .int) 1 y [.ref a0, .ref a1, .int a2] M (f_X12_valueNow y a0 a1 a2 M) := by
  refine C0_of hG (by decide) [some (.ref a0), some (.ref a1), some (.int a2), none, none, none] rfl rfl (fun out h x Q C R => ?_)
  unfold f_X12_valueNow at h
  refine g_iconstv C tb_X12_valueNow_0_ok (i := 0) 0 rfl k_iconstv_0 ?_
  refine g_istore_n C tb_X12_valueNow_0_ok (i := 1) rfl rfl rfl ?_
  refine g_iconstv C tb_X12_valueNow_0_ok (i := 2) 0 rfl k_iconstv_0 ?_
  refine g_istore C tb_X12_valueNow_0_ok (i := 3) rfl rfl rfl ?_
  refine g_less (L' := [some (.ref a0), some (.ref a1), some (.int a2), some (.int (0 : Int32)), some (.int (0 : Int32)), none]) ⟨rfl, ⟨rfl, ⟨rfl, ⟨rfl, ⟨rfl, trivial⟩⟩⟩⟩⟩ ?_
  refine fix_i (P := fun (f : Int32 → Int32 → Mem → Option (Int32 × Mem)) => ∀ (v1 : Int32) (v2 : Int32) (M3 : Mem), f v1 v2 M3 = some out → GG g x 6 Q 0 0 y M3 5 [some (.ref a0), some (.ref a1), some (.int a2), some (.int v1), some (.int v2), none] []) ?_ ?_ _ (0 : Int32) (0 : Int32) M h
  · intro v1 v2 M3 h; exact (nn_e h).elim
  · intro s4 ih5 v1 v2 M3 h
    refine g_iload C tb_X12_valueNow_0_ok (i := 4) rfl rfl ?_
    refine g_iload_n C tb_X12_valueNow_0_ok (i := 5) rfl rfl ?_
    obtain ⟨t6, f7⟩ := br_e h
    refine g_icmp_ge C tb_X12_valueNow_0_ok (i := 6) 125 rfl rfl (fun c => ?_) (fun c => ?_)
    · have h := t6 c
      refine g_aload_n C tb_X12_valueNow_1_ok (i := 31) rfl rfl ?_
      obtain ⟨k8, h⟩ := gK_e h
      obtain ⟨n9, h⟩ := gN_e h
      refine g_getR C tb_X12_valueNow_1_ok (i := 32) rfl fl_X12_86 rfl k8 n9 ?_
      refine g_iconstv C tb_X12_valueNow_1_ok (i := 33) 0 rfl k_iconstv_0 ?_
      obtain ⟨b10, h⟩ := gA_e h
      refine g_iald C tb_X12_valueNow_1_ok (i := 34) rfl b10 ?_
      cases h
      exact g_iret0 C R tb_X12_valueNow_1_ok (i := 35) rfl
    · have h := f7 c
      refine g_aload_n C tb_X12_valueNow_0_ok (i := 7) rfl rfl ?_
      refine g_iload C tb_X12_valueNow_0_ok (i := 8) rfl rfl ?_
      obtain ⟨b11, h⟩ := gA_e h
      refine g_iald C tb_X12_valueNow_0_ok (i := 9) rfl b11 ?_
      refine g_topi (fun v12 ev12 => ?_)
      have h := lt_e ev12 h
      refine g_istore C tb_X12_valueNow_0_ok (i := 10) rfl rfl rfl ?_
      refine g_iload C tb_X12_valueNow_0_ok (i := 11) rfl rfl ?_
      refine g_bipushv C tb_X12_valueNow_0_ok (i := 12) (-20) rfl k_bipushv_m20 ?_
      obtain ⟨j15, ej15, h⟩ := jn_e h
      have J119 : ∀ (v13 : Int32) (M14 : Mem), j15 v13 M14 = some out → GG g x 6 Q 0 0 y M14 119 [some (.ref a0), some (.ref a1), some (.int a2), some (.int v13), some (.int v2), none] [] := by
        intro v13 M14 h; subst ej15
        obtain ⟨v16, ev16⟩ : ∃ w : Int32, w = v2 + (1 : Int32) := ⟨_, rfl⟩
        have h := lt_e ev16 h
        refine g_iincv C tb_X12_valueNow_1_ok (i := 29) (1 : Int32) ev16 rfl rfl k_iconstv_1 rfl rfl ?_
        refine g_goto C tb_X12_valueNow_1_ok (i := 30) 5 rfl rfl ?_
        exact g_less (L' := [some (.ref a0), some (.ref a1), some (.int a2), some (.int v13), some (.int v16), none]) ⟨rfl, ⟨rfl, ⟨rfl, ⟨rfl, ⟨rfl, trivial⟩⟩⟩⟩⟩ (ih5 v13 v16 M14 h)
      obtain ⟨t17, f18⟩ := br_e h
      refine g_icmp_le C tb_X12_valueNow_0_ok (i := 13) 55 rfl rfl (fun c => ?_) (fun c => ?_)
      · have h := t17 c
        refine g_iload C tb_X12_valueNow_0_ok (i := 30) rfl rfl ?_
        refine g_bipushv C tb_X12_valueNow_0_ok (i := 31) (-28) rfl k_bipushv_m28 ?_
        obtain ⟨t19, f20⟩ := br_e h
        refine g_icmp_ne C tb_X12_valueNow_0_ok (i := 32) 89 rfl rfl (fun c => ?_) (fun c => ?_)
        · have h := f20 c
          obtain ⟨v21, ev21⟩ : ∃ w : Int32, w = v1 + ((-1) : Int32) := ⟨_, rfl⟩
          have h := lt_e ev21 h
          refine g_iincv C tb_X12_valueNow_1_ok (i := 10) ((-1) : Int32) ev21 rfl rfl k_iconstv_m1 rfl rfl ?_
          refine g_aload_n C tb_X12_valueNow_1_ok (i := 11) rfl rfl ?_
          obtain ⟨k22, h⟩ := gK_e h
          obtain ⟨n23, h⟩ := gN_e h
          refine g_getR C tb_X12_valueNow_1_ok (i := 12) rfl fl_X12_86 rfl k22 n23 ?_
          refine g_iload_n C tb_X12_valueNow_1_ok (i := 13) rfl rfl ?_
          refine g_iconstv C tb_X12_valueNow_1_ok (i := 14) 1 rfl k_iconstv_1 ?_
          refine g_isub C tb_X12_valueNow_1_ok (i := 15) rfl ?_
          refine g_iload C tb_X12_valueNow_1_ok (i := 16) rfl rfl ?_
          refine g_aload_n C tb_X12_valueNow_1_ok (i := 17) rfl rfl ?_
          refine g_getR C tb_X12_valueNow_1_ok (i := 18) rfl fl_X12_86 rfl k22 n23 ?_
          refine g_iload_n C tb_X12_valueNow_1_ok (i := 19) rfl rfl ?_
          refine g_iconstv C tb_X12_valueNow_1_ok (i := 20) 1 rfl k_iconstv_1 ?_
          refine g_isub C tb_X12_valueNow_1_ok (i := 21) rfl ?_
          obtain ⟨b24, h⟩ := gA_e h
          refine g_iald C tb_X12_valueNow_1_ok (i := 22) rfl b24 ?_
          refine g_aload_n C tb_X12_valueNow_1_ok (i := 23) rfl rfl ?_
          refine g_getR C tb_X12_valueNow_1_ok (i := 24) rfl fl_X12_86 rfl k22 n23 ?_
          refine g_iload_n C tb_X12_valueNow_1_ok (i := 25) rfl rfl ?_
          obtain ⟨b25, h⟩ := gA_e h
          refine g_iald C tb_X12_valueNow_1_ok (i := 26) rfl b25 ?_
          obtain ⟨r26, er26, h⟩ := cp_e h
          refine g_callS0 C tb_X12_valueNow_1_ok (i := 27) [.int v12, .int (M3.1 (y.2.1 a0 39) (v21 - (1 : Int32)).toNatClampNeg), .int (M3.1 (y.2.1 a0 39) v21.toNatClampNeg)] rfl mw_X12_reckon mst_X12_reckon ml_X12_366 rfl rfl rfl rfl (w_X12_reckon C.G y v12 (M3.1 (y.2.1 a0 39) (v21 - (1 : Int32)).toNatClampNeg) (M3.1 (y.2.1 a0 39) v21.toNatClampNeg) M3) (pm_s er26) rfl rfl rfl ?_
          obtain ⟨b27, h⟩ := gA_e h
          refine g_iast C tb_X12_valueNow_1_ok (i := 28) rfl b27 ?_
          refine g_mem (fun M28 eM28 => ?_)
          have h := lt_e eM28 h
          exact g_less (L' := [some (.ref a0), some (.ref a1), some (.int a2), some (.int v21), some (.int v2), none]) ⟨rfl, ⟨rfl, ⟨rfl, ⟨rfl, ⟨rfl, trivial⟩⟩⟩⟩⟩ (J119 v21 M28 h)
        · have h := t19 c
          refine g_aload_n C tb_X12_valueNow_0_ok (i := 33) rfl rfl ?_
          obtain ⟨k29, h⟩ := gK_e h
          obtain ⟨n30, h⟩ := gN_e h
          refine g_getR C tb_X12_valueNow_0_ok (i := 34) rfl fl_X12_86 rfl k29 n30 ?_
          refine g_iload_n C tb_X12_valueNow_0_ok (i := 35) rfl rfl ?_
          refine g_iconstv C tb_X12_valueNow_0_ok (i := 36) 1 rfl k_iconstv_1 ?_
          refine g_isub C tb_X12_valueNow_0_ok (i := 37) rfl ?_
          refine g_aload_n C tb_X12_valueNow_0_ok (i := 38) rfl rfl ?_
          refine g_getR C tb_X12_valueNow_0_ok (i := 39) rfl fl_X12_86 rfl k29 n30 ?_
          refine g_iload_n C tb_X12_valueNow_1_ok (i := 0) rfl rfl ?_
          refine g_iconstv C tb_X12_valueNow_1_ok (i := 1) 1 rfl k_iconstv_1 ?_
          refine g_isub C tb_X12_valueNow_1_ok (i := 2) rfl ?_
          obtain ⟨b31, h⟩ := gA_e h
          refine g_iald C tb_X12_valueNow_1_ok (i := 3) rfl b31 ?_
          obtain ⟨j33, ej33, h⟩ := jn_e h
          have J85 : ∀ (v32 : Int32), j33 v32 = some out → GG g x 6 Q 0 0 y M3 85 [some (.ref a0), some (.ref a1), some (.int a2), some (.int v1), some (.int v2), none] [.int v32, .int (v1 - (1 : Int32)), .ref (y.2.1 a0 39)] := by
            intro v32 h; subst ej33
            obtain ⟨b34, h⟩ := gA_e h
            refine g_iast C tb_X12_valueNow_1_ok (i := 8) rfl b34 ?_
            refine g_mem (fun M35 eM35 => ?_)
            have h := lt_e eM35 h
            refine g_goto C tb_X12_valueNow_1_ok (i := 9) 119 rfl rfl ?_
            exact g_less (L' := [some (.ref a0), some (.ref a1), some (.int a2), some (.int v1), some (.int v2), none]) ⟨rfl, ⟨rfl, ⟨rfl, ⟨rfl, ⟨rfl, trivial⟩⟩⟩⟩⟩ (J119 v1 M35 h)
          obtain ⟨t36, f37⟩ := br_e h
          refine g_if_eq C tb_X12_valueNow_1_ok (i := 4) 84 rfl rfl (fun c => ?_) (fun c => ?_)
          · have h := t36 c
            refine g_iconstv C tb_X12_valueNow_1_ok (i := 7) 1 rfl k_iconstv_1 ?_
            exact g_less (L' := [some (.ref a0), some (.ref a1), some (.int a2), some (.int v1), some (.int v2), none]) ⟨rfl, ⟨rfl, ⟨rfl, ⟨rfl, ⟨rfl, trivial⟩⟩⟩⟩⟩ (J85 (1 : Int32) h)
          · have h := f37 c
            refine g_iconstv C tb_X12_valueNow_1_ok (i := 5) 0 rfl k_iconstv_0 ?_
            refine g_goto C tb_X12_valueNow_1_ok (i := 6) 85 rfl rfl ?_
            exact g_less (L' := [some (.ref a0), some (.ref a1), some (.int a2), some (.int v1), some (.int v2), none]) ⟨rfl, ⟨rfl, ⟨rfl, ⟨rfl, ⟨rfl, trivial⟩⟩⟩⟩⟩ (J85 (0 : Int32) h)
      · have h := f18 c
        refine g_aload_n C tb_X12_valueNow_0_ok (i := 14) rfl rfl ?_
        obtain ⟨k38, h⟩ := gK_e h
        obtain ⟨n39, h⟩ := gN_e h
        refine g_getR C tb_X12_valueNow_0_ok (i := 15) rfl fl_X12_86 rfl k38 n39 ?_
        refine g_iload_n C tb_X12_valueNow_0_ok (i := 16) rfl rfl ?_
        refine g_iload C tb_X12_valueNow_0_ok (i := 17) rfl rfl ?_
        obtain ⟨j41, ej41, h⟩ := jn_e h
        have J48 : ∀ (v40 : Int32), j41 v40 = some out → GG g x 6 Q 0 0 y M3 48 [some (.ref a0), some (.ref a1), some (.int a2), some (.int v1), some (.int v2), none] [.int v40, .int v1, .ref (y.2.1 a0 39)] := by
          intro v40 h; subst ej41
          obtain ⟨b42, h⟩ := gA_e h
          refine g_iast C tb_X12_valueNow_0_ok (i := 27) rfl b42 ?_
          refine g_mem (fun M43 eM43 => ?_)
          have h := lt_e eM43 h
          obtain ⟨v44, ev44⟩ : ∃ w : Int32, w = v1 + (1 : Int32) := ⟨_, rfl⟩
          have h := lt_e ev44 h
          refine g_iincv C tb_X12_valueNow_0_ok (i := 28) (1 : Int32) ev44 rfl rfl k_iconstv_1 rfl rfl ?_
          refine g_goto C tb_X12_valueNow_0_ok (i := 29) 119 rfl rfl ?_
          exact g_less (L' := [some (.ref a0), some (.ref a1), some (.int a2), some (.int v44), some (.int v2), none]) ⟨rfl, ⟨rfl, ⟨rfl, ⟨rfl, ⟨rfl, trivial⟩⟩⟩⟩⟩ (J119 v44 M43 h)
        obtain ⟨t45, f46⟩ := br_e h
        refine g_if_lt C tb_X12_valueNow_0_ok (i := 18) 39 rfl rfl (fun c => ?_) (fun c => ?_)
        · have h := t45 c
          refine g_aload_n C tb_X12_valueNow_0_ok (i := 21) rfl rfl ?_
          obtain ⟨n47, h⟩ := gN_e h
          refine g_getR C tb_X12_valueNow_0_ok (i := 22) rfl fl_X12_83 rfl k38 n47 ?_
          refine g_iconstv C tb_X12_valueNow_0_ok (i := 23) (-1) rfl k_iconstv_m1 ?_
          refine g_iload C tb_X12_valueNow_0_ok (i := 24) rfl rfl ?_
          refine g_isub C tb_X12_valueNow_0_ok (i := 25) rfl ?_
          obtain ⟨b48, h⟩ := gA_e h
          refine g_iald C tb_X12_valueNow_0_ok (i := 26) rfl b48 ?_
          exact g_less (L' := [some (.ref a0), some (.ref a1), some (.int a2), some (.int v1), some (.int v2), none]) ⟨rfl, ⟨rfl, ⟨rfl, ⟨rfl, ⟨rfl, trivial⟩⟩⟩⟩⟩ (J48 (M3.1 (y.2.1 a0 38) (((-1) : Int32) - v12).toNatClampNeg) h)
        · have h := f46 c
          refine g_iload C tb_X12_valueNow_0_ok (i := 19) rfl rfl ?_
          refine g_goto C tb_X12_valueNow_0_ok (i := 20) 48 rfl rfl ?_
          exact g_less (L' := [some (.ref a0), some (.ref a1), some (.int a2), some (.int v1), some (.int v2), none]) ⟨rfl, ⟨rfl, ⟨rfl, ⟨rfl, ⟨rfl, trivial⟩⟩⟩⟩⟩ (J48 v12 h)
def f_X12_dyesOf (y : Lay) (a0 : Nat) (a1 : Int32) (a2 : Int32) (M : Mem) : Option (Int32 × Mem) := gK y a0 (0, 12) (gN (y.2.1 a0 13) (gA y (y.2.1 a0 13) 1 a1 (lt (((2 : Int32) * (M.1 (y.2.1 a0 13) a1.toNatClampNeg)) + (3 : Int32)) fun (v4 : Int32) => gN (y.2.1 a0 5) (gA y (y.2.1 a0 5) 1 (6 : Int32) (jn (fun (v7 : Int32) (M8 : Mem) => some ((jmax (0 : Int32) (jmin (30 : Int32) v7)), M8)) fun j9 => br ((M.1 (y.2.1 a0 5) (6 : Int32).toNatClampNeg) ≤ 0) (j9 v4 M) (gN (y.2.1 a0 29) (gA y (y.2.1 a0 29) 1 a1 (c0 (f_X12_ask y a0 (M.1 (y.2.1 a0 29) a1.toNatClampNeg) M) fun (r14 : Int32) (M15 : Mem) => gN (y.2.1 a0 38) (gA y (y.2.1 a0 13) 1 a1 (gA y (y.2.1 a0 38) 1 (4 : Int32) (lt (wI M15 (y.2.1 a0 38) (4 : Int32).toNatClampNeg (M15.1 (y.2.1 a0 13) a1.toNatClampNeg)) fun (M19 : Mem) => gA y (y.2.1 a0 38) 1 (5 : Int32) (lt (wI M19 (y.2.1 a0 38) (5 : Int32).toNatClampNeg a2) fun (M21 : Mem) => gN (y.2.1 a0 10) (gA y (y.2.1 a0 5) 1 (6 : Int32) (c0 (f_X12_valueNow y a0 (y.2.1 a0 10) (M21.1 (y.2.1 a0 5) (6 : Int32).toNatClampNeg) M21) fun (r24 : Int32) (M25 : Mem) => j9 r24 M25))))))))))))))
theorem w_X12_dyesOf {g : GX} {l : Launch} (hG : GF g l) (y : Lay) (a0 : Nat) (a1 : Int32) (a2 : Int32) (M : Mem) : C0 g l yX12_dyesOf cX12_dyesOf 4 (some .int) 5 y [.ref a0, .int a1, .int a2] M (f_X12_dyesOf y a0 a1 a2 M) := by
  refine C0_of hG (by decide) [some (.ref a0), some (.int a1), some (.int a2), none] rfl rfl (fun out h x Q C R => ?_)
  unfold f_X12_dyesOf at h
  refine g_iconstv C tb_X12_dyesOf_0_ok (i := 0) 2 rfl k_iconstv_2 ?_
  refine g_aload_n C tb_X12_dyesOf_0_ok (i := 1) rfl rfl ?_
  obtain ⟨k1, h⟩ := gK_e h
  obtain ⟨n2, h⟩ := gN_e h
  refine g_getR C tb_X12_dyesOf_0_ok (i := 2) rfl fl_X12_65 rfl k1 n2 ?_
  refine g_iload_n C tb_X12_dyesOf_0_ok (i := 3) rfl rfl ?_
  obtain ⟨b3, h⟩ := gA_e h
  refine g_iald C tb_X12_dyesOf_0_ok (i := 4) rfl b3 ?_
  refine g_imul C tb_X12_dyesOf_0_ok (i := 5) rfl ?_
  refine g_iconstv C tb_X12_dyesOf_0_ok (i := 6) 3 rfl k_iconstv_3 ?_
  refine g_iadd C tb_X12_dyesOf_0_ok (i := 7) rfl ?_
  refine g_topi (fun v4 ev4 => ?_)
  have h := lt_e ev4 h
  refine g_istore_n C tb_X12_dyesOf_0_ok (i := 8) rfl rfl rfl ?_
  refine g_aload_n C tb_X12_dyesOf_0_ok (i := 9) rfl rfl ?_
  obtain ⟨n5, h⟩ := gN_e h
  refine g_getR C tb_X12_dyesOf_0_ok (i := 10) rfl fl_X12_40 rfl k1 n5 ?_
  refine g_bipushv C tb_X12_dyesOf_0_ok (i := 11) 6 rfl k_bipushv_6 ?_
  obtain ⟨b6, h⟩ := gA_e h
  refine g_iald C tb_X12_dyesOf_0_ok (i := 12) rfl b6 ?_
  obtain ⟨j9, ej9, h⟩ := jn_e h
  have J66 : ∀ (v7 : Int32) (M8 : Mem), j9 v7 M8 = some out → GG g x 4 Q 0 0 y M8 66 [none, none, none, some (.int v7)] [] := by
    intro v7 M8 h; subst ej9
    refine g_iconstv C tb_X12_dyesOf_1_ok (i := 2) 0 rfl k_iconstv_0 ?_
    refine g_bipushv C tb_X12_dyesOf_1_ok (i := 3) 30 rfl k_bipushv_30 ?_
    refine g_iload_n C tb_X12_dyesOf_1_ok (i := 4) rfl rfl ?_
    refine g_min C tb_X12_dyesOf_1_ok (i := 5) rfl mt_X12_191 rfl rfl rfl ?_
    refine g_max C tb_X12_dyesOf_1_ok (i := 6) rfl mt_X12_380 rfl rfl rfl ?_
    cases h
    exact g_iret0 C R tb_X12_dyesOf_1_ok (i := 7) rfl
  obtain ⟨t10, f11⟩ := br_e h
  refine g_if_le C tb_X12_dyesOf_0_ok (i := 13) 66 rfl rfl (fun c => ?_) (fun c => ?_)
  · have h := t10 c
    exact g_less (L' := [none, none, none, some (.int v4)]) ⟨rfl, trivial⟩ (J66 v4 M h)
  · have h := f11 c
    refine g_aload_n C tb_X12_dyesOf_0_ok (i := 14) rfl rfl ?_
    refine g_aload_n C tb_X12_dyesOf_0_ok (i := 15) rfl rfl ?_
    obtain ⟨n12, h⟩ := gN_e h
    refine g_getR C tb_X12_dyesOf_0_ok (i := 16) rfl fl_X12_77 rfl k1 n12 ?_
    refine g_iload_n C tb_X12_dyesOf_0_ok (i := 17) rfl rfl ?_
    obtain ⟨b13, h⟩ := gA_e h
    refine g_iald C tb_X12_dyesOf_0_ok (i := 18) rfl b13 ?_
    obtain ⟨r14, M15, er14, h⟩ := c0_e h
    refine g_callV0 C tb_X12_dyesOf_0_ok (i := 19) [.int (M.1 (y.2.1 a0 29) a1.toNatClampNeg)] rfl mw_X12_ask mv_X12_ask ml_X12_373 k1 rfl rfl rfl rfl (w_X12_ask C.G y a0 (M.1 (y.2.1 a0 29) a1.toNatClampNeg) M) er14 rfl rfl rfl ?_
    refine g_aload_n C tb_X12_dyesOf_0_ok (i := 20) rfl rfl ?_
    obtain ⟨n16, h⟩ := gN_e h
    refine g_getR C tb_X12_dyesOf_0_ok (i := 21) rfl fl_X12_83 rfl k1 n16 ?_
    refine g_iconstv C tb_X12_dyesOf_0_ok (i := 22) 4 rfl k_iconstv_4 ?_
    refine g_aload_n C tb_X12_dyesOf_0_ok (i := 23) rfl rfl ?_
    refine g_getR C tb_X12_dyesOf_0_ok (i := 24) rfl fl_X12_65 rfl k1 n2 ?_
    refine g_iload_n C tb_X12_dyesOf_0_ok (i := 25) rfl rfl ?_
    obtain ⟨b17, h⟩ := gA_e h
    refine g_iald C tb_X12_dyesOf_0_ok (i := 26) rfl b17 ?_
    obtain ⟨b18, h⟩ := gA_e h
    refine g_iast C tb_X12_dyesOf_0_ok (i := 27) rfl b18 ?_
    refine g_mem (fun M19 eM19 => ?_)
    have h := lt_e eM19 h
    refine g_aload_n C tb_X12_dyesOf_0_ok (i := 28) rfl rfl ?_
    refine g_getR C tb_X12_dyesOf_0_ok (i := 29) rfl fl_X12_83 rfl k1 n16 ?_
    refine g_iconstv C tb_X12_dyesOf_0_ok (i := 30) 5 rfl k_iconstv_5 ?_
    refine g_iload_n C tb_X12_dyesOf_0_ok (i := 31) rfl rfl ?_
    obtain ⟨b20, h⟩ := gA_e h
    refine g_iast C tb_X12_dyesOf_0_ok (i := 32) rfl b20 ?_
    refine g_mem (fun M21 eM21 => ?_)
    have h := lt_e eM21 h
    refine g_aload_n C tb_X12_dyesOf_0_ok (i := 33) rfl rfl ?_
    refine g_aload_n C tb_X12_dyesOf_0_ok (i := 34) rfl rfl ?_
    obtain ⟨n22, h⟩ := gN_e h
    refine g_getR C tb_X12_dyesOf_0_ok (i := 35) rfl fl_X12_56 rfl k1 n22 ?_
    refine g_aload_n C tb_X12_dyesOf_0_ok (i := 36) rfl rfl ?_
    refine g_getR C tb_X12_dyesOf_0_ok (i := 37) rfl fl_X12_40 rfl k1 n5 ?_
    refine g_bipushv C tb_X12_dyesOf_0_ok (i := 38) 6 rfl k_bipushv_6 ?_
    obtain ⟨b23, h⟩ := gA_e h
    refine g_iald C tb_X12_dyesOf_0_ok (i := 39) rfl b23 ?_
    obtain ⟨r24, M25, er24, h⟩ := c0_e h
    refine g_callV0 C tb_X12_dyesOf_1_ok (i := 0) [.ref (y.2.1 a0 10), .int (M21.1 (y.2.1 a0 5) (6 : Int32).toNatClampNeg)] rfl mw_X12_valueNow mv_X12_valueNow ml_X12_376 k1 rfl rfl rfl rfl (w_X12_valueNow C.G y a0 (y.2.1 a0 10) (M21.1 (y.2.1 a0 5) (6 : Int32).toNatClampNeg) M21) er24 rfl rfl rfl ?_
    refine g_istore_n C tb_X12_dyesOf_1_ok (i := 1) rfl rfl rfl ?_
    exact g_less (L' := [none, none, none, some (.int r24)]) ⟨rfl, trivial⟩ (J66 r24 M25 h)
def f_X12_girl (y : Lay) (a0 : Nat) (a1 : Int32) (a2 : Int32) (M : Mem) : Option (Int32 × Mem) := gK y a0 (0, 12) (lt (wI M a0 4 (0 : Int32)) fun (M2 : Mem) => cp (f_X12_isGirl y a0 a1 M2) fun (r3 : Int32) => br (r3 = 0) (c0 (f_X12_fail y a0 (1 : Int32) M2) fun (r24 : Int32) (M25 : Mem) => some (r24, M25)) (br (a2 < (0 : Int32) ∨ (3 : Int32) < a2) (c0 (f_X12_fail y a0 (1 : Int32) M2) fun (r8 : Int32) (M9 : Mem) => some (r8, M9)) (br (a2 = (0 : Int32)) (gN (y.2.1 a0 13) (gA y (y.2.1 a0 13) 1 a1 (some ((M2.1 (y.2.1 a0 13) a1.toNatClampNeg), M2)))) (br (a2 = (1 : Int32)) (gN (y.2.1 a0 29) (gA y (y.2.1 a0 29) 1 a1 (some ((M2.1 (y.2.1 a0 29) a1.toNatClampNeg), M2)))) (br (a2 = (2 : Int32)) (gN (y.2.1 a0 7) (gA y (y.2.1 a0 7) 1 a1 (some ((M2.1 (y.2.1 a0 7) a1.toNatClampNeg), M2)))) (c0 (f_X12_dyesOf y a0 a1 (jmax (0 : Int32) ((M2.1 a0 32) - (1 : Int32))) M2) fun (r22 : Int32) (M23 : Mem) => some (r22, M23)))))))
theorem w_X12_girl {g : GX} {l : Launch} (hG : GF g l) (y : Lay) (a0 : Nat) (a1 : Int32) (a2 : Int32) (M : Mem) : C0 g l yX12_girl cX12_girl 3 (some .int) 6 y [.ref a0, .int a1, .int a2] M (f_X12_girl y a0 a1 a2 M) := by
  refine C0_of hG (by decide) [some (.ref a0), some (.int a1), some (.int a2)] rfl rfl (fun out h x Q C R => ?_)
  unfold f_X12_girl at h
  refine g_aload_n C tb_X12_girl_0_ok (i := 0) rfl rfl ?_
  refine g_iconstv C tb_X12_girl_0_ok (i := 1) 0 rfl k_iconstv_0 ?_
  obtain ⟨k1, h⟩ := gK_e h
  refine g_putI C tb_X12_girl_0_ok (i := 2) rfl fl_X12_150 ft_12_4 rfl k1 ?_
  refine g_mem (fun M2 eM2 => ?_)
  have h := lt_e eM2 h
  refine g_aload_n C tb_X12_girl_0_ok (i := 3) rfl rfl ?_
  refine g_iload_n C tb_X12_girl_0_ok (i := 4) rfl rfl ?_
  obtain ⟨r3, er3, h⟩ := cp_e h
  refine g_callV0 C tb_X12_girl_0_ok (i := 5) [.int a1] rfl mw_X12_isGirl mv_X12_isGirl ml_X12_417 k1 rfl rfl rfl rfl (w_X12_isGirl C.G y a0 a1 M2) (pm_s er3) rfl rfl rfl ?_
  obtain ⟨t4, f5⟩ := br_e h
  refine g_if_ne C tb_X12_girl_0_ok (i := 6) 19 rfl rfl (fun c => ?_) (fun c => ?_)
  · have h := f5 c
    refine g_iload_n C tb_X12_girl_0_ok (i := 11) rfl rfl ?_
    obtain ⟨t6, f7⟩ := br_e h
    by_cases hsw : a2 < (0 : Int32) ∨ (3 : Int32) < a2
    · have h := t6 hsw
      refine g_tableOut C tb_X12_girl_0_ok (i := 12) 0 3 89 rfl hsw (by decide) rfl ?_
      refine g_aload_n C tb_X12_girl_0_ok (i := 38) rfl rfl ?_
      refine g_iconstv C tb_X12_girl_0_ok (i := 39) 1 rfl k_iconstv_1 ?_
      obtain ⟨r8, M9, er8, h⟩ := c0_e h
      refine g_callV0 C tb_X12_girl_1_ok (i := 0) [.int (1 : Int32)] rfl mw_X12_fail mv_X12_fail ml_X12_318 k1 rfl rfl rfl rfl (w_X12_fail C.G y a0 (1 : Int32) M2) er8 rfl rfl rfl ?_
      cases h
      exact g_iret0 C R tb_X12_girl_1_ok (i := 1) rfl
    have h := f7 hsw
    obtain ⟨t12, f13⟩ := br_e h
    by_cases hs1000 : a2 = (0 : Int32)
    · have h := t12 hs1000
      refine g_tableIn C tb_X12_girl_0_ok (i := 12) 0 52 32 rfl hs1000 (by decide) rfl ?_
      refine g_aload_n C tb_X12_girl_0_ok (i := 13) rfl rfl ?_
      obtain ⟨n10, h⟩ := gN_e h
      refine g_getR C tb_X12_girl_0_ok (i := 14) rfl fl_X12_65 rfl k1 n10 ?_
      refine g_iload_n C tb_X12_girl_0_ok (i := 15) rfl rfl ?_
      obtain ⟨b11, h⟩ := gA_e h
      refine g_iald C tb_X12_girl_0_ok (i := 16) rfl b11 ?_
      cases h
      exact g_iret0 C R tb_X12_girl_0_ok (i := 17) rfl
    have h := f13 hs1000
    obtain ⟨t16, f17⟩ := br_e h
    by_cases hs1001 : a2 = (1 : Int32)
    · have h := t16 hs1001
      refine g_tableIn C tb_X12_girl_0_ok (i := 12) 1 59 39 rfl hs1001 (by decide) rfl ?_
      refine g_aload_n C tb_X12_girl_0_ok (i := 18) rfl rfl ?_
      obtain ⟨n14, h⟩ := gN_e h
      refine g_getR C tb_X12_girl_0_ok (i := 19) rfl fl_X12_77 rfl k1 n14 ?_
      refine g_iload_n C tb_X12_girl_0_ok (i := 20) rfl rfl ?_
      obtain ⟨b15, h⟩ := gA_e h
      refine g_iald C tb_X12_girl_0_ok (i := 21) rfl b15 ?_
      cases h
      exact g_iret0 C R tb_X12_girl_0_ok (i := 22) rfl
    have h := f17 hs1001
    obtain ⟨t20, f21⟩ := br_e h
    by_cases hs1002 : a2 = (2 : Int32)
    · have h := t20 hs1002
      refine g_tableIn C tb_X12_girl_0_ok (i := 12) 2 66 46 rfl hs1002 (by decide) rfl ?_
      refine g_aload_n C tb_X12_girl_0_ok (i := 23) rfl rfl ?_
      obtain ⟨n18, h⟩ := gN_e h
      refine g_getR C tb_X12_girl_0_ok (i := 24) rfl fl_X12_47 rfl k1 n18 ?_
      refine g_iload_n C tb_X12_girl_0_ok (i := 25) rfl rfl ?_
      obtain ⟨b19, h⟩ := gA_e h
      refine g_iald C tb_X12_girl_0_ok (i := 26) rfl b19 ?_
      cases h
      exact g_iret0 C R tb_X12_girl_0_ok (i := 27) rfl
    have h := f21 hs1002
    have hlast : a2 = (3 : Int32) := i32_sw (l := [(0 : Int32), (1 : Int32), (2 : Int32)]) (n := 3) hsw (by decide +kernel) (i32_ne [(0 : Int32), (1 : Int32), (2 : Int32)] rfl (by intro c hc; simp only [List.mem_cons, List.not_mem_nil, or_false] at hc; rcases hc with rfl | rfl | rfl <;> assumption))
    refine g_tableIn C tb_X12_girl_0_ok (i := 12) 3 73 53 rfl hlast (by decide) rfl ?_
    refine g_aload_n C tb_X12_girl_0_ok (i := 28) rfl rfl ?_
    refine g_iload_n C tb_X12_girl_0_ok (i := 29) rfl rfl ?_
    refine g_iconstv C tb_X12_girl_0_ok (i := 30) 0 rfl k_iconstv_0 ?_
    refine g_aload_n C tb_X12_girl_0_ok (i := 31) rfl rfl ?_
    refine g_getI C tb_X12_girl_0_ok (i := 32) rfl fl_X12_147 rfl k1 ?_
    refine g_iconstv C tb_X12_girl_0_ok (i := 33) 1 rfl k_iconstv_1 ?_
    refine g_isub C tb_X12_girl_0_ok (i := 34) rfl ?_
    refine g_max C tb_X12_girl_0_ok (i := 35) rfl mt_X12_380 rfl rfl rfl ?_
    obtain ⟨r22, M23, er22, h⟩ := c0_e h
    refine g_callV0 C tb_X12_girl_0_ok (i := 36) [.int a1, .int (jmax (0 : Int32) ((M2.1 a0 32) - (1 : Int32)))] rfl mw_X12_dyesOf mv_X12_dyesOf ml_X12_383 k1 rfl rfl rfl rfl (w_X12_dyesOf C.G y a0 a1 (jmax (0 : Int32) ((M2.1 a0 32) - (1 : Int32))) M2) er22 rfl rfl rfl ?_
    cases h
    exact g_iret0 C R tb_X12_girl_0_ok (i := 37) rfl
  · have h := t4 c
    refine g_aload_n C tb_X12_girl_0_ok (i := 7) rfl rfl ?_
    refine g_iconstv C tb_X12_girl_0_ok (i := 8) 1 rfl k_iconstv_1 ?_
    obtain ⟨r24, M25, er24, h⟩ := c0_e h
    refine g_callV0 C tb_X12_girl_0_ok (i := 9) [.int (1 : Int32)] rfl mw_X12_fail mv_X12_fail ml_X12_318 k1 rfl rfl rfl rfl (w_X12_fail C.G y a0 (1 : Int32) M2) er24 rfl rfl rfl ?_
    cases h
    exact g_iret0 C R tb_X12_girl_0_ok (i := 10) rfl
def f_X12_refuse (y : Lay) (a0 : Nat) (a1 : Int32) (M : Mem) : Option (Int32 × Mem) := gK y a0 (0, 12) (gN (y.2.1 a0 12) (gA y (y.2.1 a0 12) 1 a1 (gA y (y.2.1 a0 12) 1 a1 (lt (wI M (y.2.1 a0 12) a1.toNatClampNeg ((M.1 (y.2.1 a0 12) a1.toNatClampNeg) + (1 : Int32))) fun (M5 : Mem) => some (((-1) : Int32), M5)))))
theorem w_X12_refuse {g : GX} {l : Launch} (hG : GF g l) (y : Lay) (a0 : Nat) (a1 : Int32) (M : Mem) : C0 g l yX12_refuse cX12_refuse 2 (some .int) 0 y [.ref a0, .int a1] M (f_X12_refuse y a0 a1 M) := by
  refine C0_of hG (by decide) [some (.ref a0), some (.int a1)] rfl rfl (fun out h x Q C R => ?_)
  unfold f_X12_refuse at h
  refine g_aload_n C tb_X12_refuse_0_ok (i := 0) rfl rfl ?_
  obtain ⟨k1, h⟩ := gK_e h
  obtain ⟨n2, h⟩ := gN_e h
  refine g_getR C tb_X12_refuse_0_ok (i := 1) rfl fl_X12_62 rfl k1 n2 ?_
  refine g_iload_n C tb_X12_refuse_0_ok (i := 2) rfl rfl ?_
  refine g_dup2 C tb_X12_refuse_0_ok (i := 3) rfl rfl rfl ?_
  obtain ⟨b3, h⟩ := gA_e h
  refine g_iald C tb_X12_refuse_0_ok (i := 4) rfl b3 ?_
  refine g_iconstv C tb_X12_refuse_0_ok (i := 5) 1 rfl k_iconstv_1 ?_
  refine g_iadd C tb_X12_refuse_0_ok (i := 6) rfl ?_
  obtain ⟨b4, h⟩ := gA_e h
  refine g_iast C tb_X12_refuse_0_ok (i := 7) rfl b4 ?_
  refine g_mem (fun M5 eM5 => ?_)
  have h := lt_e eM5 h
  refine g_iconstv C tb_X12_refuse_0_ok (i := 8) (-1) rfl k_iconstv_m1 ?_
  cases h
  exact g_iret0 C R tb_X12_refuse_0_ok (i := 9) rfl
def f_X12_pack (y : Lay) (a0 : Nat) (a1 : Nat) (a2 : Int32) (M : Mem) : Option (Int32 × Mem) := gK y a0 (0, 12) (gA y a1 1 a2 (lt (wI M a1 a2.toNatClampNeg (M.1 a0 31)) fun (M3 : Mem) => gA y a1 1 (a2 + (1 : Int32)) (lt (wI M3 a1 (a2 + (1 : Int32)).toNatClampNeg (M3.1 a0 32)) fun (M5 : Mem) => gA y a1 1 (a2 + (2 : Int32)) (lt (wI M5 a1 (a2 + (2 : Int32)).toNatClampNeg (M5.1 a0 33)) fun (M7 : Mem) => gA y a1 1 (a2 + (3 : Int32)) (lt (wI M7 a1 (a2 + (3 : Int32)).toNatClampNeg (M7.1 a0 34)) fun (M9 : Mem) => gA y a1 1 (a2 + (4 : Int32)) (lt (wI M9 a1 (a2 + (4 : Int32)).toNatClampNeg (M9.1 a0 35)) fun (M11 : Mem) => fixN (fun _ _ => none) (fun (s14 : Int32 → Mem → Option (Int32 × Mem)) (v12 : Int32) (M13 : Mem) => br ((30 : Int32) ≤ v12) (fixN (fun _ _ => none) (fun (s20 : Int32 → Mem → Option (Int32 × Mem)) (v18 : Int32) (M19 : Mem) => br ((6 : Int32) ≤ v18) (some (0, M19)) (gN (y.2.1 a0 29) (gA y (y.2.1 a0 29) 1 v18 (gA y a1 1 (((a2 + (5 : Int32)) + (30 : Int32)) + v18) (lt (wI M19 a1 (((a2 + (5 : Int32)) + (30 : Int32)) + v18).toNatClampNeg (M19.1 (y.2.1 a0 29) v18.toNatClampNeg)) fun (M27 : Mem) => lt (v18 + (1 : Int32)) fun (v28 : Int32) => s20 v28 M27))))) FUEL (0 : Int32) M13) (gN (y.2.1 a0 28) (gA y (y.2.1 a0 28) 1 v12 (gA y a1 1 ((a2 + (5 : Int32)) + v12) (lt (wI M13 a1 ((a2 + (5 : Int32)) + v12).toNatClampNeg (M13.1 (y.2.1 a0 28) v12.toNatClampNeg)) fun (M32 : Mem) => lt (v12 + (1 : Int32)) fun (v33 : Int32) => s14 v33 M32))))) FUEL (0 : Int32) M11))))))
theorem w_X12_pack {g : GX} {l : Launch} (hG : GF g l) (y : Lay) (a0 : Nat) (a1 : Nat) (a2 : Int32) (M : Mem) : C0 g l yX12_pack cX12_pack 4 none 0 y [.ref a0, .ref a1, .int a2] M (f_X12_pack y a0 a1 a2 M) := by
  refine C0_of hG (by decide) [some (.ref a0), some (.ref a1), some (.int a2), none] rfl rfl (fun out h x Q C R => ?_)
  unfold f_X12_pack at h
  refine g_aload_n C tb_X12_pack_0_ok (i := 0) rfl rfl ?_
  refine g_iload_n C tb_X12_pack_0_ok (i := 1) rfl rfl ?_
  refine g_aload_n C tb_X12_pack_0_ok (i := 2) rfl rfl ?_
  obtain ⟨k1, h⟩ := gK_e h
  refine g_getI C tb_X12_pack_0_ok (i := 3) rfl fl_X12_331 rfl k1 ?_
  obtain ⟨b2, h⟩ := gA_e h
  refine g_iast C tb_X12_pack_0_ok (i := 4) rfl b2 ?_
  refine g_mem (fun M3 eM3 => ?_)
  have h := lt_e eM3 h
  refine g_aload_n C tb_X12_pack_0_ok (i := 5) rfl rfl ?_
  refine g_iload_n C tb_X12_pack_0_ok (i := 6) rfl rfl ?_
  refine g_iconstv C tb_X12_pack_0_ok (i := 7) 1 rfl k_iconstv_1 ?_
  refine g_iadd C tb_X12_pack_0_ok (i := 8) rfl ?_
  refine g_aload_n C tb_X12_pack_0_ok (i := 9) rfl rfl ?_
  refine g_getI C tb_X12_pack_0_ok (i := 10) rfl fl_X12_147 rfl k1 ?_
  obtain ⟨b4, h⟩ := gA_e h
  refine g_iast C tb_X12_pack_0_ok (i := 11) rfl b4 ?_
  refine g_mem (fun M5 eM5 => ?_)
  have h := lt_e eM5 h
  refine g_aload_n C tb_X12_pack_0_ok (i := 12) rfl rfl ?_
  refine g_iload_n C tb_X12_pack_0_ok (i := 13) rfl rfl ?_
  refine g_iconstv C tb_X12_pack_0_ok (i := 14) 2 rfl k_iconstv_2 ?_
  refine g_iadd C tb_X12_pack_0_ok (i := 15) rfl ?_
  refine g_aload_n C tb_X12_pack_0_ok (i := 16) rfl rfl ?_
  refine g_getI C tb_X12_pack_0_ok (i := 17) rfl fl_X12_333 rfl k1 ?_
  obtain ⟨b6, h⟩ := gA_e h
  refine g_iast C tb_X12_pack_0_ok (i := 18) rfl b6 ?_
  refine g_mem (fun M7 eM7 => ?_)
  have h := lt_e eM7 h
  refine g_aload_n C tb_X12_pack_0_ok (i := 19) rfl rfl ?_
  refine g_iload_n C tb_X12_pack_0_ok (i := 20) rfl rfl ?_
  refine g_iconstv C tb_X12_pack_0_ok (i := 21) 3 rfl k_iconstv_3 ?_
  refine g_iadd C tb_X12_pack_0_ok (i := 22) rfl ?_
  refine g_aload_n C tb_X12_pack_0_ok (i := 23) rfl rfl ?_
  refine g_getI C tb_X12_pack_0_ok (i := 24) rfl fl_X12_336 rfl k1 ?_
  obtain ⟨b8, h⟩ := gA_e h
  refine g_iast C tb_X12_pack_0_ok (i := 25) rfl b8 ?_
  refine g_mem (fun M9 eM9 => ?_)
  have h := lt_e eM9 h
  refine g_aload_n C tb_X12_pack_0_ok (i := 26) rfl rfl ?_
  refine g_iload_n C tb_X12_pack_0_ok (i := 27) rfl rfl ?_
  refine g_iconstv C tb_X12_pack_0_ok (i := 28) 4 rfl k_iconstv_4 ?_
  refine g_iadd C tb_X12_pack_0_ok (i := 29) rfl ?_
  refine g_aload_n C tb_X12_pack_0_ok (i := 30) rfl rfl ?_
  refine g_getI C tb_X12_pack_0_ok (i := 31) rfl fl_X12_339 rfl k1 ?_
  obtain ⟨b10, h⟩ := gA_e h
  refine g_iast C tb_X12_pack_0_ok (i := 32) rfl b10 ?_
  refine g_mem (fun M11 eM11 => ?_)
  have h := lt_e eM11 h
  refine g_iconstv C tb_X12_pack_0_ok (i := 33) 0 rfl k_iconstv_0 ?_
  refine g_istore_n C tb_X12_pack_0_ok (i := 34) rfl rfl rfl ?_
  refine g_less (L' := [some (.ref a0), some (.ref a1), some (.int a2), some (.int (0 : Int32))]) ⟨rfl, ⟨rfl, ⟨rfl, ⟨rfl, trivial⟩⟩⟩⟩ ?_
  refine fix_i (P := fun (f : Int32 → Mem → Option (Int32 × Mem)) => ∀ (v12 : Int32) (M13 : Mem), f v12 M13 = some out → GG g x 4 Q 0 0 y M13 45 [some (.ref a0), some (.ref a1), some (.int a2), some (.int v12)] []) ?_ ?_ _ (0 : Int32) M11 h
  · intro v12 M13 h; exact (nn_e h).elim
  · intro s14 ih15 v12 M13 h
    refine g_iload_n C tb_X12_pack_0_ok (i := 35) rfl rfl ?_
    refine g_bipushv C tb_X12_pack_0_ok (i := 36) 30 rfl k_bipushv_30 ?_
    obtain ⟨t16, f17⟩ := br_e h
    refine g_icmp_ge C tb_X12_pack_0_ok (i := 37) 70 rfl rfl (fun c => ?_) (fun c => ?_)
    · have h := t16 c
      refine g_iconstv C tb_X12_pack_1_ok (i := 11) 0 rfl k_iconstv_0 ?_
      refine g_istore_n C tb_X12_pack_1_ok (i := 12) rfl rfl rfl ?_
      refine g_less (L' := [some (.ref a0), some (.ref a1), some (.int a2), some (.int (0 : Int32))]) ⟨rfl, ⟨rfl, ⟨rfl, ⟨rfl, trivial⟩⟩⟩⟩ ?_
      refine fix_i (P := fun (f : Int32 → Mem → Option (Int32 × Mem)) => ∀ (v18 : Int32) (M19 : Mem), f v18 M19 = some out → GG g x 4 Q 0 0 y M19 72 [some (.ref a0), some (.ref a1), some (.int a2), some (.int v18)] []) ?_ ?_ _ (0 : Int32) M13 h
      · intro v18 M19 h; exact (nn_e h).elim
      · intro s20 ih21 v18 M19 h
        refine g_iload_n C tb_X12_pack_1_ok (i := 13) rfl rfl ?_
        refine g_bipushv C tb_X12_pack_1_ok (i := 14) 6 rfl k_bipushv_6 ?_
        obtain ⟨t22, f23⟩ := br_e h
        refine g_icmp_ge C tb_X12_pack_1_ok (i := 15) 100 rfl rfl (fun c => ?_) (fun c => ?_)
        · have h := t22 c
          cases h
          exact g_vret0 C R tb_X12_pack_1_ok (i := 31) rfl
        · have h := f23 c
          refine g_aload_n C tb_X12_pack_1_ok (i := 16) rfl rfl ?_
          refine g_iload_n C tb_X12_pack_1_ok (i := 17) rfl rfl ?_
          refine g_iconstv C tb_X12_pack_1_ok (i := 18) 5 rfl k_iconstv_5 ?_
          refine g_iadd C tb_X12_pack_1_ok (i := 19) rfl ?_
          refine g_bipushv C tb_X12_pack_1_ok (i := 20) 30 rfl k_bipushv_30 ?_
          refine g_iadd C tb_X12_pack_1_ok (i := 21) rfl ?_
          refine g_iload_n C tb_X12_pack_1_ok (i := 22) rfl rfl ?_
          refine g_iadd C tb_X12_pack_1_ok (i := 23) rfl ?_
          refine g_aload_n C tb_X12_pack_1_ok (i := 24) rfl rfl ?_
          obtain ⟨n24, h⟩ := gN_e h
          refine g_getR C tb_X12_pack_1_ok (i := 25) rfl fl_X12_77 rfl k1 n24 ?_
          refine g_iload_n C tb_X12_pack_1_ok (i := 26) rfl rfl ?_
          obtain ⟨b25, h⟩ := gA_e h
          refine g_iald C tb_X12_pack_1_ok (i := 27) rfl b25 ?_
          obtain ⟨b26, h⟩ := gA_e h
          refine g_iast C tb_X12_pack_1_ok (i := 28) rfl b26 ?_
          refine g_mem (fun M27 eM27 => ?_)
          have h := lt_e eM27 h
          obtain ⟨v28, ev28⟩ : ∃ w : Int32, w = v18 + (1 : Int32) := ⟨_, rfl⟩
          have h := lt_e ev28 h
          refine g_iincv C tb_X12_pack_1_ok (i := 29) (1 : Int32) ev28 rfl rfl k_iconstv_1 rfl rfl ?_
          refine g_goto C tb_X12_pack_1_ok (i := 30) 72 rfl rfl ?_
          exact g_less (L' := [some (.ref a0), some (.ref a1), some (.int a2), some (.int v28)]) ⟨rfl, ⟨rfl, ⟨rfl, ⟨rfl, trivial⟩⟩⟩⟩ (ih21 v28 M27 h)
    · have h := f17 c
      refine g_aload_n C tb_X12_pack_0_ok (i := 38) rfl rfl ?_
      refine g_iload_n C tb_X12_pack_0_ok (i := 39) rfl rfl ?_
      refine g_iconstv C tb_X12_pack_1_ok (i := 0) 5 rfl k_iconstv_5 ?_
      refine g_iadd C tb_X12_pack_1_ok (i := 1) rfl ?_
      refine g_iload_n C tb_X12_pack_1_ok (i := 2) rfl rfl ?_
      refine g_iadd C tb_X12_pack_1_ok (i := 3) rfl ?_
      refine g_aload_n C tb_X12_pack_1_ok (i := 4) rfl rfl ?_
      obtain ⟨n29, h⟩ := gN_e h
      refine g_getR C tb_X12_pack_1_ok (i := 5) rfl fl_X12_75 rfl k1 n29 ?_
      refine g_iload_n C tb_X12_pack_1_ok (i := 6) rfl rfl ?_
      obtain ⟨b30, h⟩ := gA_e h
      refine g_iald C tb_X12_pack_1_ok (i := 7) rfl b30 ?_
      obtain ⟨b31, h⟩ := gA_e h
      refine g_iast C tb_X12_pack_1_ok (i := 8) rfl b31 ?_
      refine g_mem (fun M32 eM32 => ?_)
      have h := lt_e eM32 h
      obtain ⟨v33, ev33⟩ : ∃ w : Int32, w = v12 + (1 : Int32) := ⟨_, rfl⟩
      have h := lt_e ev33 h
      refine g_iincv C tb_X12_pack_1_ok (i := 9) (1 : Int32) ev33 rfl rfl k_iconstv_1 rfl rfl ?_
      refine g_goto C tb_X12_pack_1_ok (i := 10) 45 rfl rfl ?_
      exact g_less (L' := [some (.ref a0), some (.ref a1), some (.int a2), some (.int v33)]) ⟨rfl, ⟨rfl, ⟨rfl, ⟨rfl, trivial⟩⟩⟩⟩ (ih15 v33 M32 h)
def f_X12_keep (y : Lay) (a0 : Nat) (M : Mem) : Option (Int32 × Mem) := gK y a0 (0, 12) (jn (fun (M2 : Mem) => gN (y.2.1 a0 30) (c0 (f_X12_pack y a0 (y.2.1 a0 30) ((41 : Int32) * (M2.1 a0 36)) M2) fun (r5 : Int32) (M6 : Mem) => lt (wI M6 a0 36 ((M6.1 a0 36) + (1 : Int32))) fun (M7 : Mem) => some (0, M7))) fun j3 => br ((M.1 a0 36) = (40 : Int32)) (fixN (fun _ _ => none) (fun (s12 : Int32 → Mem → Option (Int32 × Mem)) (v10 : Int32) (M11 : Mem) => gN (y.2.1 a0 30) (gT y (y.2.1 a0 30) 1 (br ((Int32.ofNat (kd y (y.2.1 a0 30)).2) ≤ v10) (lt (wI M11 a0 36 ((M11.1 a0 36) - (1 : Int32))) fun (M18 : Mem) => j3 M18) (gA y (y.2.1 a0 30) 1 v10 (gA y (y.2.1 a0 30) 1 (v10 - (41 : Int32)) (lt (wI M11 (y.2.1 a0 30) (v10 - (41 : Int32)).toNatClampNeg (M11.1 (y.2.1 a0 30) v10.toNatClampNeg)) fun (M21 : Mem) => lt (v10 + (1 : Int32)) fun (v22 : Int32) => s12 v22 M21)))))) FUEL (41 : Int32) M) (j3 M))
theorem w_X12_keep {g : GX} {l : Launch} (hG : GF g l) (y : Lay) (a0 : Nat) (M : Mem) : C0 g l yX12_keep cX12_keep 2 none 1 y [.ref a0] M (f_X12_keep y a0 M) := by
  refine C0_of hG (by decide) [some (.ref a0), none] rfl rfl (fun out h x Q C R => ?_)
  unfold f_X12_keep at h
  refine g_aload_n C tb_X12_keep_0_ok (i := 0) rfl rfl ?_
  obtain ⟨k1, h⟩ := gK_e h
  refine g_getI C tb_X12_keep_0_ok (i := 1) rfl fl_X12_342 rfl k1 ?_
  refine g_bipushv C tb_X12_keep_0_ok (i := 2) 40 rfl k_bipushv_40 ?_
  obtain ⟨j3, ej3, h⟩ := jn_e h
  have J52 : ∀ (M2 : Mem), j3 M2 = some out → GG g x 2 Q 0 0 y M2 52 [some (.ref a0), none] [] := by
    intro M2 h; subst ej3
    refine g_aload_n C tb_X12_keep_0_ok (i := 29) rfl rfl ?_
    refine g_aload_n C tb_X12_keep_0_ok (i := 30) rfl rfl ?_
    obtain ⟨n4, h⟩ := gN_e h
    refine g_getR C tb_X12_keep_0_ok (i := 31) rfl fl_X12_80 rfl k1 n4 ?_
    refine g_bipushv C tb_X12_keep_0_ok (i := 32) 41 rfl k_bipushv_41 ?_
    refine g_aload_n C tb_X12_keep_0_ok (i := 33) rfl rfl ?_
    refine g_getI C tb_X12_keep_0_ok (i := 34) rfl fl_X12_342 rfl k1 ?_
    refine g_imul C tb_X12_keep_0_ok (i := 35) rfl ?_
    obtain ⟨r5, M6, er5, h⟩ := c0_e h
    refine g_callV0 C tb_X12_keep_0_ok (i := 36) [.ref (y.2.1 a0 30), .int ((41 : Int32) * (M2.1 a0 36))] rfl mw_X12_pack mv_X12_pack ml_X12_420 k1 rfl rfl rfl rfl (w_X12_pack C.G y a0 (y.2.1 a0 30) ((41 : Int32) * (M2.1 a0 36)) M2) er5 rfl rfl rfl ?_
    refine g_aload_n C tb_X12_keep_0_ok (i := 37) rfl rfl ?_
    refine g_dup C tb_X12_keep_0_ok (i := 38) rfl rfl ?_
    refine g_getI C tb_X12_keep_0_ok (i := 39) rfl fl_X12_342 rfl k1 ?_
    refine g_iconstv C tb_X12_keep_1_ok (i := 0) 1 rfl k_iconstv_1 ?_
    refine g_iadd C tb_X12_keep_1_ok (i := 1) rfl ?_
    refine g_putI C tb_X12_keep_1_ok (i := 2) rfl fl_X12_342 ft_12_36 rfl k1 ?_
    refine g_mem (fun M7 eM7 => ?_)
    have h := lt_e eM7 h
    cases h
    exact g_vret0 C R tb_X12_keep_1_ok (i := 3) rfl
  obtain ⟨t8, f9⟩ := br_e h
  refine g_icmp_ne C tb_X12_keep_0_ok (i := 3) 52 rfl rfl (fun c => ?_) (fun c => ?_)
  · have h := f9 c
    exact g_less (L' := [some (.ref a0), none]) ⟨rfl, trivial⟩ (J52 M h)
  · have h := t8 c
    refine g_bipushv C tb_X12_keep_0_ok (i := 4) 41 rfl k_bipushv_41 ?_
    refine g_istore_n C tb_X12_keep_0_ok (i := 5) rfl rfl rfl ?_
    refine g_less (L' := [some (.ref a0), some (.int (41 : Int32))]) ⟨rfl, ⟨rfl, trivial⟩⟩ ?_
    refine fix_i (P := fun (f : Int32 → Mem → Option (Int32 × Mem)) => ∀ (v10 : Int32) (M11 : Mem), f v10 M11 = some out → GG g x 2 Q 0 0 y M11 12 [some (.ref a0), some (.int v10)] []) ?_ ?_ _ (41 : Int32) M h
    · intro v10 M11 h; exact (nn_e h).elim
    · intro s12 ih13 v10 M11 h
      refine g_iload_n C tb_X12_keep_0_ok (i := 6) rfl rfl ?_
      refine g_aload_n C tb_X12_keep_0_ok (i := 7) rfl rfl ?_
      obtain ⟨n14, h⟩ := gN_e h
      refine g_getR C tb_X12_keep_0_ok (i := 8) rfl fl_X12_80 rfl k1 n14 ?_
      obtain ⟨b15, h⟩ := gT_e h
      refine g_alen C tb_X12_keep_0_ok (i := 9) rfl b15 (by decide) ?_
      obtain ⟨t16, f17⟩ := br_e h
      refine g_icmp_ge C tb_X12_keep_0_ok (i := 10) 42 rfl rfl (fun c => ?_) (fun c => ?_)
      · have h := t16 c
        refine g_aload_n C tb_X12_keep_0_ok (i := 23) rfl rfl ?_
        refine g_dup C tb_X12_keep_0_ok (i := 24) rfl rfl ?_
        refine g_getI C tb_X12_keep_0_ok (i := 25) rfl fl_X12_342 rfl k1 ?_
        refine g_iconstv C tb_X12_keep_0_ok (i := 26) 1 rfl k_iconstv_1 ?_
        refine g_isub C tb_X12_keep_0_ok (i := 27) rfl ?_
        refine g_putI C tb_X12_keep_0_ok (i := 28) rfl fl_X12_342 ft_12_36 rfl k1 ?_
        refine g_mem (fun M18 eM18 => ?_)
        have h := lt_e eM18 h
        exact g_less (L' := [some (.ref a0), none]) ⟨rfl, trivial⟩ (J52 M18 h)
      · have h := f17 c
        refine g_aload_n C tb_X12_keep_0_ok (i := 11) rfl rfl ?_
        refine g_getR C tb_X12_keep_0_ok (i := 12) rfl fl_X12_80 rfl k1 n14 ?_
        refine g_iload_n C tb_X12_keep_0_ok (i := 13) rfl rfl ?_
        refine g_bipushv C tb_X12_keep_0_ok (i := 14) 41 rfl k_bipushv_41 ?_
        refine g_isub C tb_X12_keep_0_ok (i := 15) rfl ?_
        refine g_aload_n C tb_X12_keep_0_ok (i := 16) rfl rfl ?_
        refine g_getR C tb_X12_keep_0_ok (i := 17) rfl fl_X12_80 rfl k1 n14 ?_
        refine g_iload_n C tb_X12_keep_0_ok (i := 18) rfl rfl ?_
        obtain ⟨b19, h⟩ := gA_e h
        refine g_iald C tb_X12_keep_0_ok (i := 19) rfl b19 ?_
        obtain ⟨b20, h⟩ := gA_e h
        refine g_iast C tb_X12_keep_0_ok (i := 20) rfl b20 ?_
        refine g_mem (fun M21 eM21 => ?_)
        have h := lt_e eM21 h
        obtain ⟨v22, ev22⟩ : ∃ w : Int32, w = v10 + (1 : Int32) := ⟨_, rfl⟩
        have h := lt_e ev22 h
        refine g_iincv C tb_X12_keep_0_ok (i := 21) (1 : Int32) ev22 rfl rfl k_iconstv_1 rfl rfl ?_
        refine g_goto C tb_X12_keep_0_ok (i := 22) 12 rfl rfl ?_
        exact g_less (L' := [some (.ref a0), some (.int v22)]) ⟨rfl, ⟨rfl, trivial⟩⟩ (ih13 v22 M21 h)
def f_X12_dye (y : Lay) (a0 : Nat) (a1 : Int32) (a2 : Int32) (M : Mem) : Option (Int32 × Mem) := gK y a0 (0, 12) (gN (y.2.1 a0 28) (cp (f_X12_isOf y (M.1 a0 34) a1 M) fun (r3 : Int32) => jn (fun (v4 : Int32) => gA y (y.2.1 a0 28) 1 a1 (lt (wI M (y.2.1 a0 28) a1.toNatClampNeg v4) fun (M7 : Mem) => some (0, M7))) fun j5 => br (r3 = 0) (gA y (y.2.1 a0 28) 1 a1 (j5 (jmin (99 : Int32) ((M.1 (y.2.1 a0 28) a1.toNatClampNeg) + a2)))) (j5 (0 : Int32))))
theorem w_X12_dye {g : GX} {l : Launch} (hG : GF g l) (y : Lay) (a0 : Nat) (a1 : Int32) (a2 : Int32) (M : Mem) : C0 g l yX12_dye cX12_dye 3 none 1 y [.ref a0, .int a1, .int a2] M (f_X12_dye y a0 a1 a2 M) := by
  refine C0_of hG (by decide) [some (.ref a0), some (.int a1), some (.int a2)] rfl rfl (fun out h x Q C R => ?_)
  unfold f_X12_dye at h
  refine g_aload_n C tb_X12_dye_0_ok (i := 0) rfl rfl ?_
  obtain ⟨k1, h⟩ := gK_e h
  obtain ⟨n2, h⟩ := gN_e h
  refine g_getR C tb_X12_dye_0_ok (i := 1) rfl fl_X12_75 rfl k1 n2 ?_
  refine g_iload_n C tb_X12_dye_0_ok (i := 2) rfl rfl ?_
  refine g_aload_n C tb_X12_dye_0_ok (i := 3) rfl rfl ?_
  refine g_getI C tb_X12_dye_0_ok (i := 4) rfl fl_X12_336 rfl k1 ?_
  refine g_iload_n C tb_X12_dye_0_ok (i := 5) rfl rfl ?_
  obtain ⟨r3, er3, h⟩ := cp_e h
  refine g_callS0 C tb_X12_dye_0_ok (i := 6) [.int (M.1 a0 34), .int a1] rfl mw_X12_isOf mst_X12_isOf ml_X12_232 rfl rfl rfl rfl (w_X12_isOf C.G y (M.1 a0 34) a1 M) (pm_s er3) rfl rfl rfl ?_
  obtain ⟨j5, ej5, h⟩ := jn_e h
  have J33 : ∀ (v4 : Int32), j5 v4 = some out → GG g x 3 Q 0 0 y M 33 [none, none, none] [.int v4, .int a1, .ref (y.2.1 a0 28)] := by
    intro v4 h; subst ej5
    obtain ⟨b6, h⟩ := gA_e h
    refine g_iast C tb_X12_dye_0_ok (i := 18) rfl b6 ?_
    refine g_mem (fun M7 eM7 => ?_)
    have h := lt_e eM7 h
    cases h
    exact g_vret0 C R tb_X12_dye_0_ok (i := 19) rfl
  obtain ⟨t8, f9⟩ := br_e h
  refine g_if_eq C tb_X12_dye_0_ok (i := 7) 20 rfl rfl (fun c => ?_) (fun c => ?_)
  · have h := t8 c
    refine g_bipushv C tb_X12_dye_0_ok (i := 10) 99 rfl k_bipushv_99 ?_
    refine g_aload_n C tb_X12_dye_0_ok (i := 11) rfl rfl ?_
    refine g_getR C tb_X12_dye_0_ok (i := 12) rfl fl_X12_75 rfl k1 n2 ?_
    refine g_iload_n C tb_X12_dye_0_ok (i := 13) rfl rfl ?_
    obtain ⟨b10, h⟩ := gA_e h
    refine g_iald C tb_X12_dye_0_ok (i := 14) rfl b10 ?_
    refine g_iload_n C tb_X12_dye_0_ok (i := 15) rfl rfl ?_
    refine g_iadd C tb_X12_dye_0_ok (i := 16) rfl ?_
    refine g_min C tb_X12_dye_0_ok (i := 17) rfl mt_X12_191 rfl rfl rfl ?_
    exact g_less (L' := [none, none, none]) trivial (J33 (jmin (99 : Int32) ((M.1 (y.2.1 a0 28) a1.toNatClampNeg) + a2)) h)
  · have h := f9 c
    refine g_iconstv C tb_X12_dye_0_ok (i := 8) 0 rfl k_iconstv_0 ?_
    refine g_goto C tb_X12_dye_0_ok (i := 9) 33 rfl rfl ?_
    exact g_less (L' := [none, none, none]) trivial (J33 (0 : Int32) h)
def f_X12_swish (y : Lay) (a0 : Nat) (a1 : Int32) (a2 : Int32) (M : Mem) : Option (Int32 × Mem) := gK y a0 (0, 12) (c0 (f_X12_dyesOf y a0 a1 a2 M) fun (r2 : Int32) (M3 : Mem) => gN (y.2.1 a0 29) (gA y (y.2.1 a0 29) 1 a1 (lt (M3.1 (y.2.1 a0 29) a1.toNatClampNeg) fun (v6 : Int32) => c0 (f_X12_dye y a0 v6 r2 M3) fun (r7 : Int32) (M8 : Mem) => gN (y.2.1 a0 7) (gA y (y.2.1 a0 7) 1 a1 (jn (fun (M11 : Mem) => some (0, M11)) fun j12 => br ((M8.1 (y.2.1 a0 7) a1.toNatClampNeg) = (1 : Int32)) (gd (¬ (2 : Int32) = 0) (lt (r2 / (2 : Int32)) fun (v33 : Int32) => gN (y.2.1 a0 5) (gA y (y.2.1 a0 5) 1 (0 : Int32) (lt (v6 + (M8.1 (y.2.1 a0 5) (0 : Int32).toNatClampNeg)) fun (v36 : Int32) => fixN (fun _ _ _ => none) (fun (s40 : Int32 → Int32 → Mem → Option (Int32 × Mem)) (v37 : Int32) (v38 : Int32) (M39 : Mem) => cp (f_X12_cells y a0 M39) fun (r42 : Int32) => br (r42 ≤ v38) (j12 M39) (c0 (f_X12_dye y a0 v38 v37 M39) fun (r45 : Int32) (M46 : Mem) => gd (¬ (2 : Int32) = 0) (lt (v37 / (2 : Int32)) fun (v48 : Int32) => gA y (y.2.1 a0 5) 1 (0 : Int32) (lt (v38 + (M46.1 (y.2.1 a0 5) (0 : Int32).toNatClampNeg)) fun (v50 : Int32) => s40 v48 v50 M46)))) FUEL v33 v36 M8)))) (cp (f_X12_besideOf y a0 v6 M8) fun (r15 : Int32) => fixN (fun _ _ => none) (fun (s18 : Int32 → Mem → Option (Int32 × Mem)) (v16 : Int32) (M17 : Mem) => cp (f_X12_cells y a0 M17) fun (r20 : Int32) => br (r20 ≤ v16) (j12 M17) (cp (f_X12_isOf y r15 v16 M17) fun (r23 : Int32) => jn (fun (M24 : Mem) => lt (v16 + (1 : Int32)) fun (v26 : Int32) => s18 v26 M24) fun j25 => br (r23 = 0) (j25 M17) (gd (¬ (2 : Int32) = 0) (c0 (f_X12_dye y a0 v16 (r2 / (2 : Int32)) M17) fun (r30 : Int32) (M31 : Mem) => j25 M31)))) FUEL (0 : Int32) M8))))))
theorem w_X12_swish {g : GX} {l : Launch} (hG : GF g l) (y : Lay) (a0 : Nat) (a1 : Int32) (a2 : Int32) (M : Mem) : C0 g l yX12_swish cX12_swish 7 none 6 y [.ref a0, .int a1, .int a2] M (f_X12_swish y a0 a1 a2 M) := by
  refine C0_of hG (by decide) [some (.ref a0), some (.int a1), some (.int a2), none, none, none, none] rfl rfl (fun out h x Q C R => ?_)
  unfold f_X12_swish at h
  refine g_aload_n C tb_X12_swish_0_ok (i := 0) rfl rfl ?_
  refine g_iload_n C tb_X12_swish_0_ok (i := 1) rfl rfl ?_
  refine g_iload_n C tb_X12_swish_0_ok (i := 2) rfl rfl ?_
  obtain ⟨k1, h⟩ := gK_e h
  obtain ⟨r2, M3, er2, h⟩ := c0_e h
  refine g_callV0 C tb_X12_swish_0_ok (i := 3) [.int a1, .int a2] rfl mw_X12_dyesOf mv_X12_dyesOf ml_X12_383 k1 rfl rfl rfl rfl (w_X12_dyesOf C.G y a0 a1 a2 M) er2 rfl rfl rfl ?_
  refine g_istore_n C tb_X12_swish_0_ok (i := 4) rfl rfl rfl ?_
  refine g_aload_n C tb_X12_swish_0_ok (i := 5) rfl rfl ?_
  obtain ⟨n4, h⟩ := gN_e h
  refine g_getR C tb_X12_swish_0_ok (i := 6) rfl fl_X12_77 rfl k1 n4 ?_
  refine g_iload_n C tb_X12_swish_0_ok (i := 7) rfl rfl ?_
  obtain ⟨b5, h⟩ := gA_e h
  refine g_iald C tb_X12_swish_0_ok (i := 8) rfl b5 ?_
  refine g_topi (fun v6 ev6 => ?_)
  have h := lt_e ev6 h
  refine g_istore C tb_X12_swish_0_ok (i := 9) rfl rfl rfl ?_
  refine g_aload_n C tb_X12_swish_0_ok (i := 10) rfl rfl ?_
  refine g_iload C tb_X12_swish_0_ok (i := 11) rfl rfl ?_
  refine g_iload_n C tb_X12_swish_0_ok (i := 12) rfl rfl ?_
  obtain ⟨r7, M8, er7, h⟩ := c0_e h
  refine g_callV0 C tb_X12_swish_0_ok (i := 13) [.int v6, .int r2] rfl mw_X12_dye mv_X12_dye ml_X12_386 k1 rfl rfl rfl rfl (w_X12_dye C.G y a0 v6 r2 M3) er7 rfl rfl rfl ?_
  refine g_aload_n C tb_X12_swish_0_ok (i := 14) rfl rfl ?_
  obtain ⟨n9, h⟩ := gN_e h
  refine g_getR C tb_X12_swish_0_ok (i := 15) rfl fl_X12_47 rfl k1 n9 ?_
  refine g_iload_n C tb_X12_swish_0_ok (i := 16) rfl rfl ?_
  obtain ⟨b10, h⟩ := gA_e h
  refine g_iald C tb_X12_swish_0_ok (i := 17) rfl b10 ?_
  refine g_iconstv C tb_X12_swish_0_ok (i := 18) 1 rfl k_iconstv_1 ?_
  obtain ⟨j12, ej12, h⟩ := jn_e h
  have J133 : ∀ (M11 : Mem), j12 M11 = some out → GG g x 7 Q 0 0 y M11 133 [none, none, none, none, none, none, none] [] := by
    intro M11 h; subst ej12
    cases h
    exact g_vret0 C R tb_X12_swish_1_ok (i := 34) rfl
  obtain ⟨t13, f14⟩ := br_e h
  refine g_icmp_ne C tb_X12_swish_0_ok (i := 19) 88 rfl rfl (fun c => ?_) (fun c => ?_)
  · have h := f14 c
    refine g_aload_n C tb_X12_swish_1_ok (i := 12) rfl rfl ?_
    refine g_iload C tb_X12_swish_1_ok (i := 13) rfl rfl ?_
    obtain ⟨r15, er15, h⟩ := cp_e h
    refine g_callV0 C tb_X12_swish_1_ok (i := 14) [.int v6] rfl mw_X12_besideOf mv_X12_besideOf ml_X12_363 k1 rfl rfl rfl rfl (w_X12_besideOf C.G y a0 v6 M8) (pm_s er15) rfl rfl rfl ?_
    refine g_istore C tb_X12_swish_1_ok (i := 15) rfl rfl rfl ?_
    refine g_iconstv C tb_X12_swish_1_ok (i := 16) 0 rfl k_iconstv_0 ?_
    refine g_istore C tb_X12_swish_1_ok (i := 17) rfl rfl rfl ?_
    refine g_less (L' := [some (.ref a0), none, none, some (.int r2), none, some (.int r15), some (.int (0 : Int32))]) ⟨rfl, ⟨rfl, ⟨rfl, ⟨rfl, trivial⟩⟩⟩⟩ ?_
    refine fix_i (P := fun (f : Int32 → Mem → Option (Int32 × Mem)) => ∀ (v16 : Int32) (M17 : Mem), f v16 M17 = some out → GG g x 7 Q 0 0 y M17 99 [some (.ref a0), none, none, some (.int r2), none, some (.int r15), some (.int v16)] []) ?_ ?_ _ (0 : Int32) M8 h
    · intro v16 M17 h; exact (nn_e h).elim
    · intro s18 ih19 v16 M17 h
      refine g_iload C tb_X12_swish_1_ok (i := 18) rfl rfl ?_
      refine g_aload_n C tb_X12_swish_1_ok (i := 19) rfl rfl ?_
      obtain ⟨r20, er20, h⟩ := cp_e h
      refine g_callV0 C tb_X12_swish_1_ok (i := 20) [] rfl mw_X12_cells mv_X12_cells ml_X12_153 k1 rfl rfl rfl rfl (w_X12_cells C.G y a0 M17) (pm_s er20) rfl rfl rfl ?_
      obtain ⟨t21, f22⟩ := br_e h
      refine g_icmp_ge C tb_X12_swish_1_ok (i := 21) 133 rfl rfl (fun c => ?_) (fun c => ?_)
      · have h := t21 c
        exact g_less (L' := [none, none, none, none, none, none, none]) trivial (J133 M17 h)
      · have h := f22 c
        refine g_iload C tb_X12_swish_1_ok (i := 22) rfl rfl ?_
        refine g_iload C tb_X12_swish_1_ok (i := 23) rfl rfl ?_
        obtain ⟨r23, er23, h⟩ := cp_e h
        refine g_callS0 C tb_X12_swish_1_ok (i := 24) [.int r15, .int v16] rfl mw_X12_isOf mst_X12_isOf ml_X12_232 rfl rfl rfl rfl (w_X12_isOf C.G y r15 v16 M17) (pm_s er23) rfl rfl rfl ?_
        obtain ⟨j25, ej25, h⟩ := jn_e h
        have J127 : ∀ (M24 : Mem), j25 M24 = some out → GG g x 7 Q 0 0 y M24 127 [some (.ref a0), none, none, some (.int r2), none, some (.int r15), some (.int v16)] [] := by
          intro M24 h; subst ej25
          obtain ⟨v26, ev26⟩ : ∃ w : Int32, w = v16 + (1 : Int32) := ⟨_, rfl⟩
          have h := lt_e ev26 h
          refine g_iincv C tb_X12_swish_1_ok (i := 32) (1 : Int32) ev26 rfl rfl k_iconstv_1 rfl rfl ?_
          refine g_goto C tb_X12_swish_1_ok (i := 33) 99 rfl rfl ?_
          exact g_less (L' := [some (.ref a0), none, none, some (.int r2), none, some (.int r15), some (.int v26)]) ⟨rfl, ⟨rfl, ⟨rfl, ⟨rfl, trivial⟩⟩⟩⟩ (ih19 v26 M24 h)
        obtain ⟨t27, f28⟩ := br_e h
        refine g_if_eq C tb_X12_swish_1_ok (i := 25) 127 rfl rfl (fun c => ?_) (fun c => ?_)
        · have h := t27 c
          exact g_less (L' := [some (.ref a0), none, none, some (.int r2), none, some (.int r15), some (.int v16)]) ⟨rfl, ⟨rfl, ⟨rfl, ⟨rfl, trivial⟩⟩⟩⟩ (J127 M17 h)
        · have h := f28 c
          refine g_aload_n C tb_X12_swish_1_ok (i := 26) rfl rfl ?_
          refine g_iload C tb_X12_swish_1_ok (i := 27) rfl rfl ?_
          refine g_iload_n C tb_X12_swish_1_ok (i := 28) rfl rfl ?_
          refine g_iconstv C tb_X12_swish_1_ok (i := 29) 2 rfl k_iconstv_2 ?_
          obtain ⟨n29, h⟩ := gd_e h
          refine g_idiv C tb_X12_swish_1_ok (i := 30) rfl n29 ?_
          obtain ⟨r30, M31, er30, h⟩ := c0_e h
          refine g_callV0 C tb_X12_swish_1_ok (i := 31) [.int v16, .int (r2 / (2 : Int32))] rfl mw_X12_dye mv_X12_dye ml_X12_386 k1 rfl rfl rfl rfl (w_X12_dye C.G y a0 v16 (r2 / (2 : Int32)) M17) er30 rfl rfl rfl ?_
          exact g_less (L' := [some (.ref a0), none, none, some (.int r2), none, some (.int r15), some (.int v16)]) ⟨rfl, ⟨rfl, ⟨rfl, ⟨rfl, trivial⟩⟩⟩⟩ (J127 M31 h)
  · have h := t13 c
    refine g_iload_n C tb_X12_swish_0_ok (i := 20) rfl rfl ?_
    refine g_iconstv C tb_X12_swish_0_ok (i := 21) 2 rfl k_iconstv_2 ?_
    obtain ⟨n32, h⟩ := gd_e h
    refine g_idiv C tb_X12_swish_0_ok (i := 22) rfl n32 ?_
    refine g_topi (fun v33 ev33 => ?_)
    have h := lt_e ev33 h
    refine g_istore C tb_X12_swish_0_ok (i := 23) rfl rfl rfl ?_
    refine g_iload C tb_X12_swish_0_ok (i := 24) rfl rfl ?_
    refine g_aload_n C tb_X12_swish_0_ok (i := 25) rfl rfl ?_
    obtain ⟨n34, h⟩ := gN_e h
    refine g_getR C tb_X12_swish_0_ok (i := 26) rfl fl_X12_40 rfl k1 n34 ?_
    refine g_iconstv C tb_X12_swish_0_ok (i := 27) 0 rfl k_iconstv_0 ?_
    obtain ⟨b35, h⟩ := gA_e h
    refine g_iald C tb_X12_swish_0_ok (i := 28) rfl b35 ?_
    refine g_iadd C tb_X12_swish_0_ok (i := 29) rfl ?_
    refine g_topi (fun v36 ev36 => ?_)
    have h := lt_e ev36 h
    refine g_istore C tb_X12_swish_0_ok (i := 30) rfl rfl rfl ?_
    refine g_less (L' := [some (.ref a0), none, none, none, none, some (.int v33), some (.int v36)]) ⟨rfl, ⟨rfl, ⟨rfl, trivial⟩⟩⟩ ?_
    refine fix_i (P := fun (f : Int32 → Int32 → Mem → Option (Int32 × Mem)) => ∀ (v37 : Int32) (v38 : Int32) (M39 : Mem), f v37 v38 M39 = some out → GG g x 7 Q 0 0 y M39 48 [some (.ref a0), none, none, none, none, some (.int v37), some (.int v38)] []) ?_ ?_ _ v33 v36 M8 h
    · intro v37 v38 M39 h; exact (nn_e h).elim
    · intro s40 ih41 v37 v38 M39 h
      refine g_iload C tb_X12_swish_0_ok (i := 31) rfl rfl ?_
      refine g_aload_n C tb_X12_swish_0_ok (i := 32) rfl rfl ?_
      obtain ⟨r42, er42, h⟩ := cp_e h
      refine g_callV0 C tb_X12_swish_0_ok (i := 33) [] rfl mw_X12_cells mv_X12_cells ml_X12_153 k1 rfl rfl rfl rfl (w_X12_cells C.G y a0 M39) (pm_s er42) rfl rfl rfl ?_
      obtain ⟨t43, f44⟩ := br_e h
      refine g_icmp_ge C tb_X12_swish_0_ok (i := 34) 85 rfl rfl (fun c => ?_) (fun c => ?_)
      · have h := t43 c
        refine g_goto C tb_X12_swish_1_ok (i := 11) 133 rfl rfl ?_
        exact g_less (L' := [none, none, none, none, none, none, none]) trivial (J133 M39 h)
      · have h := f44 c
        refine g_aload_n C tb_X12_swish_0_ok (i := 35) rfl rfl ?_
        refine g_iload C tb_X12_swish_0_ok (i := 36) rfl rfl ?_
        refine g_iload C tb_X12_swish_0_ok (i := 37) rfl rfl ?_
        obtain ⟨r45, M46, er45, h⟩ := c0_e h
        refine g_callV0 C tb_X12_swish_0_ok (i := 38) [.int v38, .int v37] rfl mw_X12_dye mv_X12_dye ml_X12_386 k1 rfl rfl rfl rfl (w_X12_dye C.G y a0 v38 v37 M39) er45 rfl rfl rfl ?_
        refine g_iload C tb_X12_swish_0_ok (i := 39) rfl rfl ?_
        refine g_iconstv C tb_X12_swish_1_ok (i := 0) 2 rfl k_iconstv_2 ?_
        obtain ⟨n47, h⟩ := gd_e h
        refine g_idiv C tb_X12_swish_1_ok (i := 1) rfl n47 ?_
        refine g_topi (fun v48 ev48 => ?_)
        have h := lt_e ev48 h
        refine g_istore C tb_X12_swish_1_ok (i := 2) rfl rfl rfl ?_
        refine g_iload C tb_X12_swish_1_ok (i := 3) rfl rfl ?_
        refine g_aload_n C tb_X12_swish_1_ok (i := 4) rfl rfl ?_
        refine g_getR C tb_X12_swish_1_ok (i := 5) rfl fl_X12_40 rfl k1 n34 ?_
        refine g_iconstv C tb_X12_swish_1_ok (i := 6) 0 rfl k_iconstv_0 ?_
        obtain ⟨b49, h⟩ := gA_e h
        refine g_iald C tb_X12_swish_1_ok (i := 7) rfl b49 ?_
        refine g_iadd C tb_X12_swish_1_ok (i := 8) rfl ?_
        refine g_topi (fun v50 ev50 => ?_)
        have h := lt_e ev50 h
        refine g_istore C tb_X12_swish_1_ok (i := 9) rfl rfl rfl ?_
        refine g_goto C tb_X12_swish_1_ok (i := 10) 48 rfl rfl ?_
        exact g_less (L' := [some (.ref a0), none, none, none, none, some (.int v48), some (.int v50)]) ⟨rfl, ⟨rfl, ⟨rfl, trivial⟩⟩⟩ (ih41 v48 v50 M46 h)
def f_X12_bitsOf (y : Lay) (a0 : Int32) (M : Mem) : Option Int32 := fixN (fun _ _ => none) (fun (s3 : Int32 → Int32 → Option Int32) (v1 : Int32) (v2 : Int32) => br (v2 = 0) (some v1) (lt (v1 + (1 : Int32)) fun (v7 : Int32) => lt (v2 &&& (v2 - (1 : Int32))) fun (v8 : Int32) => s3 v7 v8)) FUEL (0 : Int32) a0
theorem w_X12_bitsOf {g : GX} {l : Launch} (hG : GF g l) (y : Lay) (a0 : Int32) (M : Mem) : C0 g l yX12_bitsOf cX12_bitsOf 3 (some .int) 0 y [.int a0] M (pm M (f_X12_bitsOf y a0 M)) := by
  refine CP_of hG (by decide) [some (.int a0), none, none] rfl rfl (fun out h x Q C R => ?_)
  unfold f_X12_bitsOf at h
  refine g_iconstv C tb_X12_bitsOf_0_ok (i := 0) 0 rfl k_iconstv_0 ?_
  refine g_istore_n C tb_X12_bitsOf_0_ok (i := 1) rfl rfl rfl ?_
  refine g_iload_n C tb_X12_bitsOf_0_ok (i := 2) rfl rfl ?_
  refine g_istore_n C tb_X12_bitsOf_0_ok (i := 3) rfl rfl rfl ?_
  refine g_less (L' := [none, some (.int (0 : Int32)), some (.int a0)]) ⟨rfl, ⟨rfl, trivial⟩⟩ ?_
  refine fix_i (P := fun (f : Int32 → Int32 → Option Int32) => ∀ (v1 : Int32) (v2 : Int32), f v1 v2 = some out → GG g x 3 Q 0 0 y M 4 [none, some (.int v1), some (.int v2)] []) ?_ ?_ _ (0 : Int32) a0 h
  · intro v1 v2 h; exact (nn_e h).elim
  · intro s3 ih4 v1 v2 h
    refine g_iload_n C tb_X12_bitsOf_0_ok (i := 4) rfl rfl ?_
    obtain ⟨t5, f6⟩ := br_e h
    refine g_if_eq C tb_X12_bitsOf_0_ok (i := 5) 20 rfl rfl (fun c => ?_) (fun c => ?_)
    · have h := t5 c
      refine g_iload_n C tb_X12_bitsOf_0_ok (i := 14) rfl rfl ?_
      cases h
      exact g_iret0 C R tb_X12_bitsOf_0_ok (i := 15) rfl
    · have h := f6 c
      obtain ⟨v7, ev7⟩ : ∃ w : Int32, w = v1 + (1 : Int32) := ⟨_, rfl⟩
      have h := lt_e ev7 h
      refine g_iincv C tb_X12_bitsOf_0_ok (i := 6) (1 : Int32) ev7 rfl rfl k_iconstv_1 rfl rfl ?_
      refine g_iload_n C tb_X12_bitsOf_0_ok (i := 7) rfl rfl ?_
      refine g_iload_n C tb_X12_bitsOf_0_ok (i := 8) rfl rfl ?_
      refine g_iconstv C tb_X12_bitsOf_0_ok (i := 9) 1 rfl k_iconstv_1 ?_
      refine g_isub C tb_X12_bitsOf_0_ok (i := 10) rfl ?_
      refine g_iand C tb_X12_bitsOf_0_ok (i := 11) rfl ?_
      refine g_topi (fun v8 ev8 => ?_)
      have h := lt_e ev8 h
      refine g_istore_n C tb_X12_bitsOf_0_ok (i := 12) rfl rfl rfl ?_
      refine g_goto C tb_X12_bitsOf_0_ok (i := 13) 4 rfl rfl ?_
      exact g_less (L' := [none, some (.int v7), some (.int v8)]) ⟨rfl, ⟨rfl, trivial⟩⟩ (ih4 v7 v8 h)
def f_X12_fadesOf (y : Lay) (a0 : Nat) (a1 : Int32) (M : Mem) : Option (Int32 × Mem) := gK y a0 (0, 12) (gN (y.2.1 a0 28) (gA y (y.2.1 a0 28) 1 a1 (gd (¬ (5 : Int32) = 0) (lt ((M.1 (y.2.1 a0 28) a1.toNatClampNeg) / (5 : Int32)) fun (v5 : Int32) => gN (y.2.1 a0 5) (gA y (y.2.1 a0 5) 1 (7 : Int32) (jn (fun (v8 : Int32) (M9 : Mem) => gA y (y.2.1 a0 28) 1 a1 (some ((jmax (0 : Int32) (jmin (M9.1 (y.2.1 a0 28) a1.toNatClampNeg) v8)), M9))) fun j10 => br ((M.1 (y.2.1 a0 5) (7 : Int32).toNatClampNeg) ≤ 0) (j10 v5 M) (c0 (f_X12_ask y a0 a1 M) fun (r14 : Int32) (M15 : Mem) => gN (y.2.1 a0 11) (gA y (y.2.1 a0 5) 1 (7 : Int32) (c0 (f_X12_valueNow y a0 (y.2.1 a0 11) (M15.1 (y.2.1 a0 5) (7 : Int32).toNatClampNeg) M15) fun (r18 : Int32) (M19 : Mem) => j10 r18 M19)))))))))
theorem w_X12_fadesOf {g : GX} {l : Launch} (hG : GF g l) (y : Lay) (a0 : Nat) (a1 : Int32) (M : Mem) : C0 g l yX12_fadesOf cX12_fadesOf 3 (some .int) 5 y [.ref a0, .int a1] M (f_X12_fadesOf y a0 a1 M) := by
  refine C0_of hG (by decide) [some (.ref a0), some (.int a1), none] rfl rfl (fun out h x Q C R => ?_)
  unfold f_X12_fadesOf at h
  refine g_aload_n C tb_X12_fadesOf_0_ok (i := 0) rfl rfl ?_
  obtain ⟨k1, h⟩ := gK_e h
  obtain ⟨n2, h⟩ := gN_e h
  refine g_getR C tb_X12_fadesOf_0_ok (i := 1) rfl fl_X12_75 rfl k1 n2 ?_
  refine g_iload_n C tb_X12_fadesOf_0_ok (i := 2) rfl rfl ?_
  obtain ⟨b3, h⟩ := gA_e h
  refine g_iald C tb_X12_fadesOf_0_ok (i := 3) rfl b3 ?_
  refine g_iconstv C tb_X12_fadesOf_0_ok (i := 4) 5 rfl k_iconstv_5 ?_
  obtain ⟨n4, h⟩ := gd_e h
  refine g_idiv C tb_X12_fadesOf_0_ok (i := 5) rfl n4 ?_
  refine g_topi (fun v5 ev5 => ?_)
  have h := lt_e ev5 h
  refine g_istore_n C tb_X12_fadesOf_0_ok (i := 6) rfl rfl rfl ?_
  refine g_aload_n C tb_X12_fadesOf_0_ok (i := 7) rfl rfl ?_
  obtain ⟨n6, h⟩ := gN_e h
  refine g_getR C tb_X12_fadesOf_0_ok (i := 8) rfl fl_X12_40 rfl k1 n6 ?_
  refine g_bipushv C tb_X12_fadesOf_0_ok (i := 9) 7 rfl k_bipushv_7 ?_
  obtain ⟨b7, h⟩ := gA_e h
  refine g_iald C tb_X12_fadesOf_0_ok (i := 10) rfl b7 ?_
  obtain ⟨j10, ej10, h⟩ := jn_e h
  have J40 : ∀ (v8 : Int32) (M9 : Mem), j10 v8 M9 = some out → GG g x 3 Q 0 0 y M9 40 [some (.ref a0), some (.int a1), some (.int v8)] [] := by
    intro v8 M9 h; subst ej10
    refine g_iconstv C tb_X12_fadesOf_0_ok (i := 24) 0 rfl k_iconstv_0 ?_
    refine g_aload_n C tb_X12_fadesOf_0_ok (i := 25) rfl rfl ?_
    refine g_getR C tb_X12_fadesOf_0_ok (i := 26) rfl fl_X12_75 rfl k1 n2 ?_
    refine g_iload_n C tb_X12_fadesOf_0_ok (i := 27) rfl rfl ?_
    obtain ⟨b11, h⟩ := gA_e h
    refine g_iald C tb_X12_fadesOf_0_ok (i := 28) rfl b11 ?_
    refine g_iload_n C tb_X12_fadesOf_0_ok (i := 29) rfl rfl ?_
    refine g_min C tb_X12_fadesOf_0_ok (i := 30) rfl mt_X12_191 rfl rfl rfl ?_
    refine g_max C tb_X12_fadesOf_0_ok (i := 31) rfl mt_X12_380 rfl rfl rfl ?_
    cases h
    exact g_iret0 C R tb_X12_fadesOf_0_ok (i := 32) rfl
  obtain ⟨t12, f13⟩ := br_e h
  refine g_if_le C tb_X12_fadesOf_0_ok (i := 11) 40 rfl rfl (fun c => ?_) (fun c => ?_)
  · have h := t12 c
    exact g_less (L' := [some (.ref a0), some (.int a1), some (.int v5)]) ⟨rfl, ⟨rfl, ⟨rfl, trivial⟩⟩⟩ (J40 v5 M h)
  · have h := f13 c
    refine g_aload_n C tb_X12_fadesOf_0_ok (i := 12) rfl rfl ?_
    refine g_iload_n C tb_X12_fadesOf_0_ok (i := 13) rfl rfl ?_
    obtain ⟨r14, M15, er14, h⟩ := c0_e h
    refine g_callV0 C tb_X12_fadesOf_0_ok (i := 14) [.int a1] rfl mw_X12_ask mv_X12_ask ml_X12_373 k1 rfl rfl rfl rfl (w_X12_ask C.G y a0 a1 M) er14 rfl rfl rfl ?_
    refine g_aload_n C tb_X12_fadesOf_0_ok (i := 15) rfl rfl ?_
    refine g_aload_n C tb_X12_fadesOf_0_ok (i := 16) rfl rfl ?_
    obtain ⟨n16, h⟩ := gN_e h
    refine g_getR C tb_X12_fadesOf_0_ok (i := 17) rfl fl_X12_59 rfl k1 n16 ?_
    refine g_aload_n C tb_X12_fadesOf_0_ok (i := 18) rfl rfl ?_
    refine g_getR C tb_X12_fadesOf_0_ok (i := 19) rfl fl_X12_40 rfl k1 n6 ?_
    refine g_bipushv C tb_X12_fadesOf_0_ok (i := 20) 7 rfl k_bipushv_7 ?_
    obtain ⟨b17, h⟩ := gA_e h
    refine g_iald C tb_X12_fadesOf_0_ok (i := 21) rfl b17 ?_
    obtain ⟨r18, M19, er18, h⟩ := c0_e h
    refine g_callV0 C tb_X12_fadesOf_0_ok (i := 22) [.ref (y.2.1 a0 11), .int (M15.1 (y.2.1 a0 5) (7 : Int32).toNatClampNeg)] rfl mw_X12_valueNow mv_X12_valueNow ml_X12_376 k1 rfl rfl rfl rfl (w_X12_valueNow C.G y a0 (y.2.1 a0 11) (M15.1 (y.2.1 a0 5) (7 : Int32).toNatClampNeg) M15) er18 rfl rfl rfl ?_
    refine g_istore_n C tb_X12_fadesOf_0_ok (i := 23) rfl rfl rfl ?_
    exact g_less (L' := [some (.ref a0), some (.int a1), some (.int r18)]) ⟨rfl, ⟨rfl, ⟨rfl, trivial⟩⟩⟩ (J40 r18 M19 h)
def f_X12_aDay (y : Lay) (a0 : Nat) (M : Mem) : Option (Int32 × Mem) := fixN (fun _ _ => none) (fun (s3 : Int32 → Mem → Option (Int32 × Mem)) (v1 : Int32) (M2 : Mem) => gK y a0 (0, 12) (gN (y.2.1 a0 5) (gA y (y.2.1 a0 5) 1 (2 : Int32) (br ((M2.1 (y.2.1 a0 5) (2 : Int32).toNatClampNeg) ≤ v1) (lt (wI M2 a0 41 (0 : Int32)) fun (M10 : Mem) => fixN (fun _ _ => none) (fun (s13 : Int32 → Mem → Option (Int32 × Mem)) (v11 : Int32) (M12 : Mem) => cp (f_X12_cells y a0 M12) fun (r15 : Int32) => br (r15 ≤ v11) (cp (f_X12_bitsOf y (M12.1 a0 41) M12) fun (r18 : Int32) => lt (wI M12 a0 33 (jmin (9999 : Int32) ((M12.1 a0 33) + r18))) fun (M19 : Mem) => fixN (fun _ _ => none) (fun (s22 : Int32 → Mem → Option (Int32 × Mem)) (v20 : Int32) (M21 : Mem) => cp (f_X12_cells y a0 M21) fun (r24 : Int32) => br (r24 ≤ v20) (fixN (fun _ _ => none) (fun (s29 : Int32 → Mem → Option (Int32 × Mem)) (v27 : Int32) (M28 : Mem) => cp (f_X12_cells y a0 M28) fun (r31 : Int32) => br (r31 ≤ v27) (fixN (fun _ _ => none) (fun (s36 : Int32 → Mem → Option (Int32 × Mem)) (v34 : Int32) (M35 : Mem) => cp (f_X12_cells y a0 M35) fun (r38 : Int32) => br (r38 ≤ v34) (lt (wI M35 a0 31 ((M35.1 a0 31) + (1 : Int32))) fun (M41 : Mem) => some (0, M41)) (gN (y.2.1 a0 28) (gA y (y.2.1 a0 28) 1 v34 (gN (y.2.1 a0 40) (gA y (y.2.1 a0 40) 1 v34 (gA y (y.2.1 a0 28) 1 v34 (lt (wI M35 (y.2.1 a0 28) v34.toNatClampNeg ((M35.1 (y.2.1 a0 28) v34.toNatClampNeg) - (M35.1 (y.2.1 a0 40) v34.toNatClampNeg))) fun (M47 : Mem) => lt (v34 + (1 : Int32)) fun (v48 : Int32) => s36 v48 M47))))))) FUEL (0 : Int32) M28) (gN (y.2.1 a0 40) (c0 (f_X12_fadesOf y a0 v27 M28) fun (r50 : Int32) (M51 : Mem) => gA y (y.2.1 a0 40) 1 v27 (lt (wI M51 (y.2.1 a0 40) v27.toNatClampNeg r50) fun (M53 : Mem) => lt (v27 + (1 : Int32)) fun (v54 : Int32) => s29 v54 M53)))) FUEL (0 : Int32) M21) (gN (y.2.1 a0 28) (gA y (y.2.1 a0 28) 1 v20 (gA y (y.2.1 a0 5) 1 (4 : Int32) (gA y (y.2.1 a0 28) 1 v20 (lt (wI M21 (y.2.1 a0 28) v20.toNatClampNeg (jmax (0 : Int32) ((M21.1 (y.2.1 a0 28) v20.toNatClampNeg) - (M21.1 (y.2.1 a0 5) (4 : Int32).toNatClampNeg)))) fun (M59 : Mem) => lt (v20 + (1 : Int32)) fun (v60 : Int32) => s22 v60 M59)))))) FUEL (0 : Int32) M19) (gN (y.2.1 a0 28) (gA y (y.2.1 a0 28) 1 v11 (gA y (y.2.1 a0 5) 1 (5 : Int32) (jn (fun (v64 : Int32) => lt (wI M12 a0 41 ((M12.1 a0 41) ||| v64)) fun (M66 : Mem) => lt (v11 + (1 : Int32)) fun (v67 : Int32) => s13 v67 M66) fun j65 => br ((M12.1 (y.2.1 a0 28) v11.toNatClampNeg) ≤ (M12.1 (y.2.1 a0 5) (5 : Int32).toNatClampNeg)) (j65 (0 : Int32)) (j65 ((1 : Int32) <<< (v11 &&& 31)))))))) FUEL (0 : Int32) M10) (cp (f_X12_isOf y (M2.1 a0 35) v1 M2) fun (r70 : Int32) => jn (fun (M71 : Mem) => lt (v1 + (1 : Int32)) fun (v73 : Int32) => s3 v73 M71) fun j72 => br (r70 = 0) (br ((M2.1 a0 32) = 0) (j72 M2) (lt (wI M2 a0 32 ((M2.1 a0 32) - (1 : Int32))) fun (M78 : Mem) => c0 (f_X12_swish y a0 v1 (M78.1 a0 32) M78) fun (r79 : Int32) (M80 : Mem) => j72 M80)) (j72 M2)))))) FUEL (0 : Int32) M
theorem w_X12_aDay {g : GX} {l : Launch} (hG : GF g l) (y : Lay) (a0 : Nat) (M : Mem) : C0 g l yX12_aDay cX12_aDay 2 none 7 y [.ref a0] M (f_X12_aDay y a0 M) := by
  refine C0_of hG (by decide) [some (.ref a0), none] rfl rfl (fun out h x Q C R => ?_)
  unfold f_X12_aDay at h
  refine g_iconstv C tb_X12_aDay_0_ok (i := 0) 0 rfl k_iconstv_0 ?_
  refine g_istore_n C tb_X12_aDay_0_ok (i := 1) rfl rfl rfl ?_
  refine g_less (L' := [some (.ref a0), some (.int (0 : Int32))]) ⟨rfl, ⟨rfl, trivial⟩⟩ ?_
  refine fix_i (P := fun (f : Int32 → Mem → Option (Int32 × Mem)) => ∀ (v1 : Int32) (M2 : Mem), f v1 M2 = some out → GG g x 2 Q 0 0 y M2 2 [some (.ref a0), some (.int v1)] []) ?_ ?_ _ (0 : Int32) M h
  · intro v1 M2 h; exact (nn_e h).elim
  · intro s3 ih4 v1 M2 h
    refine g_iload_n C tb_X12_aDay_0_ok (i := 2) rfl rfl ?_
    refine g_aload_n C tb_X12_aDay_0_ok (i := 3) rfl rfl ?_
    obtain ⟨k5, h⟩ := gK_e h
    obtain ⟨n6, h⟩ := gN_e h
    refine g_getR C tb_X12_aDay_0_ok (i := 4) rfl fl_X12_40 rfl k5 n6 ?_
    refine g_iconstv C tb_X12_aDay_0_ok (i := 5) 2 rfl k_iconstv_2 ?_
    obtain ⟨b7, h⟩ := gA_e h
    refine g_iald C tb_X12_aDay_0_ok (i := 6) rfl b7 ?_
    obtain ⟨t8, f9⟩ := br_e h
    refine g_icmp_ge C tb_X12_aDay_0_ok (i := 7) 58 rfl rfl (fun c => ?_) (fun c => ?_)
    · have h := t8 c
      refine g_aload_n C tb_X12_aDay_0_ok (i := 30) rfl rfl ?_
      refine g_iconstv C tb_X12_aDay_0_ok (i := 31) 0 rfl k_iconstv_0 ?_
      refine g_putI C tb_X12_aDay_0_ok (i := 32) rfl fl_X12_393 ft_12_41 rfl k5 ?_
      refine g_mem (fun M10 eM10 => ?_)
      have h := lt_e eM10 h
      refine g_iconstv C tb_X12_aDay_0_ok (i := 33) 0 rfl k_iconstv_0 ?_
      refine g_istore_n C tb_X12_aDay_0_ok (i := 34) rfl rfl rfl ?_
      refine g_less (L' := [some (.ref a0), some (.int (0 : Int32))]) ⟨rfl, ⟨rfl, trivial⟩⟩ ?_
      refine fix_i (P := fun (f : Int32 → Mem → Option (Int32 × Mem)) => ∀ (v11 : Int32) (M12 : Mem), f v11 M12 = some out → GG g x 2 Q 0 0 y M12 65 [some (.ref a0), some (.int v11)] []) ?_ ?_ _ (0 : Int32) M10 h
      · intro v11 M12 h; exact (nn_e h).elim
      · intro s13 ih14 v11 M12 h
        refine g_iload_n C tb_X12_aDay_0_ok (i := 35) rfl rfl ?_
        refine g_aload_n C tb_X12_aDay_0_ok (i := 36) rfl rfl ?_
        obtain ⟨r15, er15, h⟩ := cp_e h
        refine g_callV0 C tb_X12_aDay_0_ok (i := 37) [] rfl mw_X12_cells mv_X12_cells ml_X12_153 k5 rfl rfl rfl rfl (w_X12_cells C.G y a0 M12) (pm_s er15) rfl rfl rfl ?_
        obtain ⟨t16, f17⟩ := br_e h
        refine g_icmp_ge C tb_X12_aDay_0_ok (i := 38) 110 rfl rfl (fun c => ?_) (fun c => ?_)
        · have h := t16 c
          refine g_aload_n C tb_X12_aDay_1_ok (i := 20) rfl rfl ?_
          refine g_sipushv C tb_X12_aDay_1_ok (i := 21) 9999 rfl k_sipushv_9999 ?_
          refine g_aload_n C tb_X12_aDay_1_ok (i := 22) rfl rfl ?_
          refine g_getI C tb_X12_aDay_1_ok (i := 23) rfl fl_X12_333 rfl k5 ?_
          refine g_aload_n C tb_X12_aDay_1_ok (i := 24) rfl rfl ?_
          refine g_getI C tb_X12_aDay_1_ok (i := 25) rfl fl_X12_393 rfl k5 ?_
          obtain ⟨r18, er18, h⟩ := cp_e h
          refine g_callS0 C tb_X12_aDay_1_ok (i := 26) [.int (M12.1 a0 41)] rfl mw_X12_bitsOf mst_X12_bitsOf ml_X12_396 rfl rfl rfl rfl (w_X12_bitsOf C.G y (M12.1 a0 41) M12) (pm_s er18) rfl rfl rfl ?_
          refine g_iadd C tb_X12_aDay_1_ok (i := 27) rfl ?_
          refine g_min C tb_X12_aDay_1_ok (i := 28) rfl mt_X12_191 rfl rfl rfl ?_
          refine g_putI C tb_X12_aDay_1_ok (i := 29) rfl fl_X12_333 ft_12_33 rfl k5 ?_
          refine g_mem (fun M19 eM19 => ?_)
          have h := lt_e eM19 h
          refine g_iconstv C tb_X12_aDay_1_ok (i := 30) 0 rfl k_iconstv_0 ?_
          refine g_istore_n C tb_X12_aDay_1_ok (i := 31) rfl rfl rfl ?_
          refine g_less (L' := [some (.ref a0), some (.int (0 : Int32))]) ⟨rfl, ⟨rfl, trivial⟩⟩ ?_
          refine fix_i (P := fun (f : Int32 → Mem → Option (Int32 × Mem)) => ∀ (v20 : Int32) (M21 : Mem), f v20 M21 = some out → GG g x 2 Q 0 0 y M21 134 [some (.ref a0), some (.int v20)] []) ?_ ?_ _ (0 : Int32) M19 h
          · intro v20 M21 h; exact (nn_e h).elim
          · intro s22 ih23 v20 M21 h
            refine g_iload_n C tb_X12_aDay_1_ok (i := 32) rfl rfl ?_
            refine g_aload_n C tb_X12_aDay_1_ok (i := 33) rfl rfl ?_
            obtain ⟨r24, er24, h⟩ := cp_e h
            refine g_callV0 C tb_X12_aDay_1_ok (i := 34) [] rfl mw_X12_cells mv_X12_cells ml_X12_153 k5 rfl rfl rfl rfl (w_X12_cells C.G y a0 M21) (pm_s er24) rfl rfl rfl ?_
            obtain ⟨t25, f26⟩ := br_e h
            refine g_icmp_ge C tb_X12_aDay_1_ok (i := 35) 171 rfl rfl (fun c => ?_) (fun c => ?_)
            · have h := t25 c
              refine g_iconstv C tb_X12_aDay_2_ok (i := 13) 0 rfl k_iconstv_0 ?_
              refine g_istore_n C tb_X12_aDay_2_ok (i := 14) rfl rfl rfl ?_
              refine g_less (L' := [some (.ref a0), some (.int (0 : Int32))]) ⟨rfl, ⟨rfl, trivial⟩⟩ ?_
              refine fix_i (P := fun (f : Int32 → Mem → Option (Int32 × Mem)) => ∀ (v27 : Int32) (M28 : Mem), f v27 M28 = some out → GG g x 2 Q 0 0 y M28 173 [some (.ref a0), some (.int v27)] []) ?_ ?_ _ (0 : Int32) M21 h
              · intro v27 M28 h; exact (nn_e h).elim
              · intro s29 ih30 v27 M28 h
                refine g_iload_n C tb_X12_aDay_2_ok (i := 15) rfl rfl ?_
                refine g_aload_n C tb_X12_aDay_2_ok (i := 16) rfl rfl ?_
                obtain ⟨r31, er31, h⟩ := cp_e h
                refine g_callV0 C tb_X12_aDay_2_ok (i := 17) [] rfl mw_X12_cells mv_X12_cells ml_X12_153 k5 rfl rfl rfl rfl (w_X12_cells C.G y a0 M28) (pm_s er31) rfl rfl rfl ?_
                obtain ⟨t32, f33⟩ := br_e h
                refine g_icmp_ge C tb_X12_aDay_2_ok (i := 18) 198 rfl rfl (fun c => ?_) (fun c => ?_)
                · have h := t32 c
                  refine g_iconstv C tb_X12_aDay_2_ok (i := 28) 0 rfl k_iconstv_0 ?_
                  refine g_istore_n C tb_X12_aDay_2_ok (i := 29) rfl rfl rfl ?_
                  refine g_less (L' := [some (.ref a0), some (.int (0 : Int32))]) ⟨rfl, ⟨rfl, trivial⟩⟩ ?_
                  refine fix_i (P := fun (f : Int32 → Mem → Option (Int32 × Mem)) => ∀ (v34 : Int32) (M35 : Mem), f v34 M35 = some out → GG g x 2 Q 0 0 y M35 200 [some (.ref a0), some (.int v34)] []) ?_ ?_ _ (0 : Int32) M28 h
                  · intro v34 M35 h; exact (nn_e h).elim
                  · intro s36 ih37 v34 M35 h
                    refine g_iload_n C tb_X12_aDay_2_ok (i := 30) rfl rfl ?_
                    refine g_aload_n C tb_X12_aDay_2_ok (i := 31) rfl rfl ?_
                    obtain ⟨r38, er38, h⟩ := cp_e h
                    refine g_callV0 C tb_X12_aDay_2_ok (i := 32) [] rfl mw_X12_cells mv_X12_cells ml_X12_153 k5 rfl rfl rfl rfl (w_X12_cells C.G y a0 M35) (pm_s er38) rfl rfl rfl ?_
                    obtain ⟨t39, f40⟩ := br_e h
                    refine g_icmp_ge C tb_X12_aDay_2_ok (i := 33) 229 rfl rfl (fun c => ?_) (fun c => ?_)
                    · have h := t39 c
                      refine g_aload_n C tb_X12_aDay_3_ok (i := 7) rfl rfl ?_
                      refine g_dup C tb_X12_aDay_3_ok (i := 8) rfl rfl ?_
                      refine g_getI C tb_X12_aDay_3_ok (i := 9) rfl fl_X12_331 rfl k5 ?_
                      refine g_iconstv C tb_X12_aDay_3_ok (i := 10) 1 rfl k_iconstv_1 ?_
                      refine g_iadd C tb_X12_aDay_3_ok (i := 11) rfl ?_
                      refine g_putI C tb_X12_aDay_3_ok (i := 12) rfl fl_X12_331 ft_12_31 rfl k5 ?_
                      refine g_mem (fun M41 eM41 => ?_)
                      have h := lt_e eM41 h
                      cases h
                      exact g_vret0 C R tb_X12_aDay_3_ok (i := 13) rfl
                    · have h := f40 c
                      refine g_aload_n C tb_X12_aDay_2_ok (i := 34) rfl rfl ?_
                      obtain ⟨n42, h⟩ := gN_e h
                      refine g_getR C tb_X12_aDay_2_ok (i := 35) rfl fl_X12_75 rfl k5 n42 ?_
                      refine g_iload_n C tb_X12_aDay_2_ok (i := 36) rfl rfl ?_
                      refine g_dup2 C tb_X12_aDay_2_ok (i := 37) rfl rfl rfl ?_
                      obtain ⟨b43, h⟩ := gA_e h
                      refine g_iald C tb_X12_aDay_2_ok (i := 38) rfl b43 ?_
                      refine g_aload_n C tb_X12_aDay_2_ok (i := 39) rfl rfl ?_
                      obtain ⟨n44, h⟩ := gN_e h
                      refine g_getR C tb_X12_aDay_3_ok (i := 0) rfl fl_X12_89 rfl k5 n44 ?_
                      refine g_iload_n C tb_X12_aDay_3_ok (i := 1) rfl rfl ?_
                      obtain ⟨b45, h⟩ := gA_e h
                      refine g_iald C tb_X12_aDay_3_ok (i := 2) rfl b45 ?_
                      refine g_isub C tb_X12_aDay_3_ok (i := 3) rfl ?_
                      obtain ⟨b46, h⟩ := gA_e h
                      refine g_iast C tb_X12_aDay_3_ok (i := 4) rfl b46 ?_
                      refine g_mem (fun M47 eM47 => ?_)
                      have h := lt_e eM47 h
                      obtain ⟨v48, ev48⟩ : ∃ w : Int32, w = v34 + (1 : Int32) := ⟨_, rfl⟩
                      have h := lt_e ev48 h
                      refine g_iincv C tb_X12_aDay_3_ok (i := 5) (1 : Int32) ev48 rfl rfl k_iconstv_1 rfl rfl ?_
                      refine g_goto C tb_X12_aDay_3_ok (i := 6) 200 rfl rfl ?_
                      exact g_less (L' := [some (.ref a0), some (.int v48)]) ⟨rfl, ⟨rfl, trivial⟩⟩ (ih37 v48 M47 h)
                · have h := f33 c
                  refine g_aload_n C tb_X12_aDay_2_ok (i := 19) rfl rfl ?_
                  obtain ⟨n49, h⟩ := gN_e h
                  refine g_getR C tb_X12_aDay_2_ok (i := 20) rfl fl_X12_89 rfl k5 n49 ?_
                  refine g_iload_n C tb_X12_aDay_2_ok (i := 21) rfl rfl ?_
                  refine g_aload_n C tb_X12_aDay_2_ok (i := 22) rfl rfl ?_
                  refine g_iload_n C tb_X12_aDay_2_ok (i := 23) rfl rfl ?_
                  obtain ⟨r50, M51, er50, h⟩ := c0_e h
                  refine g_callV0 C tb_X12_aDay_2_ok (i := 24) [.int v27] rfl mw_X12_fadesOf mv_X12_fadesOf ml_X12_399 k5 rfl rfl rfl rfl (w_X12_fadesOf C.G y a0 v27 M28) er50 rfl rfl rfl ?_
                  obtain ⟨b52, h⟩ := gA_e h
                  refine g_iast C tb_X12_aDay_2_ok (i := 25) rfl b52 ?_
                  refine g_mem (fun M53 eM53 => ?_)
                  have h := lt_e eM53 h
                  obtain ⟨v54, ev54⟩ : ∃ w : Int32, w = v27 + (1 : Int32) := ⟨_, rfl⟩
                  have h := lt_e ev54 h
                  refine g_iincv C tb_X12_aDay_2_ok (i := 26) (1 : Int32) ev54 rfl rfl k_iconstv_1 rfl rfl ?_
                  refine g_goto C tb_X12_aDay_2_ok (i := 27) 173 rfl rfl ?_
                  exact g_less (L' := [some (.ref a0), some (.int v54)]) ⟨rfl, ⟨rfl, trivial⟩⟩ (ih30 v54 M53 h)
            · have h := f26 c
              refine g_aload_n C tb_X12_aDay_1_ok (i := 36) rfl rfl ?_
              obtain ⟨n55, h⟩ := gN_e h
              refine g_getR C tb_X12_aDay_1_ok (i := 37) rfl fl_X12_75 rfl k5 n55 ?_
              refine g_iload_n C tb_X12_aDay_1_ok (i := 38) rfl rfl ?_
              refine g_iconstv C tb_X12_aDay_1_ok (i := 39) 0 rfl k_iconstv_0 ?_
              refine g_aload_n C tb_X12_aDay_2_ok (i := 0) rfl rfl ?_
              refine g_getR C tb_X12_aDay_2_ok (i := 1) rfl fl_X12_75 rfl k5 n55 ?_
              refine g_iload_n C tb_X12_aDay_2_ok (i := 2) rfl rfl ?_
              obtain ⟨b56, h⟩ := gA_e h
              refine g_iald C tb_X12_aDay_2_ok (i := 3) rfl b56 ?_
              refine g_aload_n C tb_X12_aDay_2_ok (i := 4) rfl rfl ?_
              refine g_getR C tb_X12_aDay_2_ok (i := 5) rfl fl_X12_40 rfl k5 n6 ?_
              refine g_iconstv C tb_X12_aDay_2_ok (i := 6) 4 rfl k_iconstv_4 ?_
              obtain ⟨b57, h⟩ := gA_e h
              refine g_iald C tb_X12_aDay_2_ok (i := 7) rfl b57 ?_
              refine g_isub C tb_X12_aDay_2_ok (i := 8) rfl ?_
              refine g_max C tb_X12_aDay_2_ok (i := 9) rfl mt_X12_380 rfl rfl rfl ?_
              obtain ⟨b58, h⟩ := gA_e h
              refine g_iast C tb_X12_aDay_2_ok (i := 10) rfl b58 ?_
              refine g_mem (fun M59 eM59 => ?_)
              have h := lt_e eM59 h
              obtain ⟨v60, ev60⟩ : ∃ w : Int32, w = v20 + (1 : Int32) := ⟨_, rfl⟩
              have h := lt_e ev60 h
              refine g_iincv C tb_X12_aDay_2_ok (i := 11) (1 : Int32) ev60 rfl rfl k_iconstv_1 rfl rfl ?_
              refine g_goto C tb_X12_aDay_2_ok (i := 12) 134 rfl rfl ?_
              exact g_less (L' := [some (.ref a0), some (.int v60)]) ⟨rfl, ⟨rfl, trivial⟩⟩ (ih23 v60 M59 h)
        · have h := f17 c
          refine g_aload_n C tb_X12_aDay_0_ok (i := 39) rfl rfl ?_
          refine g_dup C tb_X12_aDay_1_ok (i := 0) rfl rfl ?_
          refine g_getI C tb_X12_aDay_1_ok (i := 1) rfl fl_X12_393 rfl k5 ?_
          refine g_aload_n C tb_X12_aDay_1_ok (i := 2) rfl rfl ?_
          obtain ⟨n61, h⟩ := gN_e h
          refine g_getR C tb_X12_aDay_1_ok (i := 3) rfl fl_X12_75 rfl k5 n61 ?_
          refine g_iload_n C tb_X12_aDay_1_ok (i := 4) rfl rfl ?_
          obtain ⟨b62, h⟩ := gA_e h
          refine g_iald C tb_X12_aDay_1_ok (i := 5) rfl b62 ?_
          refine g_aload_n C tb_X12_aDay_1_ok (i := 6) rfl rfl ?_
          refine g_getR C tb_X12_aDay_1_ok (i := 7) rfl fl_X12_40 rfl k5 n6 ?_
          refine g_iconstv C tb_X12_aDay_1_ok (i := 8) 5 rfl k_iconstv_5 ?_
          obtain ⟨b63, h⟩ := gA_e h
          refine g_iald C tb_X12_aDay_1_ok (i := 9) rfl b63 ?_
          obtain ⟨j65, ej65, h⟩ := jn_e h
          have J100 : ∀ (v64 : Int32), j65 v64 = some out → GG g x 2 Q 0 0 y M12 100 [some (.ref a0), some (.int v11)] [.int v64, .int (M12.1 a0 41), .ref a0] := by
            intro v64 h; subst ej65
            refine g_ior C tb_X12_aDay_1_ok (i := 16) rfl ?_
            refine g_putI C tb_X12_aDay_1_ok (i := 17) rfl fl_X12_393 ft_12_41 rfl k5 ?_
            refine g_mem (fun M66 eM66 => ?_)
            have h := lt_e eM66 h
            obtain ⟨v67, ev67⟩ : ∃ w : Int32, w = v11 + (1 : Int32) := ⟨_, rfl⟩
            have h := lt_e ev67 h
            refine g_iincv C tb_X12_aDay_1_ok (i := 18) (1 : Int32) ev67 rfl rfl k_iconstv_1 rfl rfl ?_
            refine g_goto C tb_X12_aDay_1_ok (i := 19) 65 rfl rfl ?_
            exact g_less (L' := [some (.ref a0), some (.int v67)]) ⟨rfl, ⟨rfl, trivial⟩⟩ (ih14 v67 M66 h)
          obtain ⟨t68, f69⟩ := br_e h
          refine g_icmp_le C tb_X12_aDay_1_ok (i := 10) 99 rfl rfl (fun c => ?_) (fun c => ?_)
          · have h := t68 c
            refine g_iconstv C tb_X12_aDay_1_ok (i := 15) 0 rfl k_iconstv_0 ?_
            exact g_less (L' := [some (.ref a0), some (.int v11)]) ⟨rfl, ⟨rfl, trivial⟩⟩ (J100 (0 : Int32) h)
          · have h := f69 c
            refine g_iconstv C tb_X12_aDay_1_ok (i := 11) 1 rfl k_iconstv_1 ?_
            refine g_iload_n C tb_X12_aDay_1_ok (i := 12) rfl rfl ?_
            refine g_ishl C tb_X12_aDay_1_ok (i := 13) rfl ?_
            refine g_goto C tb_X12_aDay_1_ok (i := 14) 100 rfl rfl ?_
            exact g_less (L' := [some (.ref a0), some (.int v11)]) ⟨rfl, ⟨rfl, trivial⟩⟩ (J100 ((1 : Int32) <<< (v11 &&& 31)) h)
    · have h := f9 c
      refine g_aload_n C tb_X12_aDay_0_ok (i := 8) rfl rfl ?_
      refine g_getI C tb_X12_aDay_0_ok (i := 9) rfl fl_X12_339 rfl k5 ?_
      refine g_iload_n C tb_X12_aDay_0_ok (i := 10) rfl rfl ?_
      obtain ⟨r70, er70, h⟩ := cp_e h
      refine g_callS0 C tb_X12_aDay_0_ok (i := 11) [.int (M2.1 a0 35), .int v1] rfl mw_X12_isOf mst_X12_isOf ml_X12_232 rfl rfl rfl rfl (w_X12_isOf C.G y (M2.1 a0 35) v1 M2) (pm_s er70) rfl rfl rfl ?_
      obtain ⟨j72, ej72, h⟩ := jn_e h
      have J52 : ∀ (M71 : Mem), j72 M71 = some out → GG g x 2 Q 0 0 y M71 52 [some (.ref a0), some (.int v1)] [] := by
        intro M71 h; subst ej72
        obtain ⟨v73, ev73⟩ : ∃ w : Int32, w = v1 + (1 : Int32) := ⟨_, rfl⟩
        have h := lt_e ev73 h
        refine g_iincv C tb_X12_aDay_0_ok (i := 28) (1 : Int32) ev73 rfl rfl k_iconstv_1 rfl rfl ?_
        refine g_goto C tb_X12_aDay_0_ok (i := 29) 2 rfl rfl ?_
        exact g_less (L' := [some (.ref a0), some (.int v73)]) ⟨rfl, ⟨rfl, trivial⟩⟩ (ih4 v73 M71 h)
      obtain ⟨t74, f75⟩ := br_e h
      refine g_if_ne C tb_X12_aDay_0_ok (i := 12) 52 rfl rfl (fun c => ?_) (fun c => ?_)
      · have h := f75 c
        exact g_less (L' := [some (.ref a0), some (.int v1)]) ⟨rfl, ⟨rfl, trivial⟩⟩ (J52 M2 h)
      · have h := t74 c
        refine g_aload_n C tb_X12_aDay_0_ok (i := 13) rfl rfl ?_
        refine g_getI C tb_X12_aDay_0_ok (i := 14) rfl fl_X12_147 rfl k5 ?_
        obtain ⟨t76, f77⟩ := br_e h
        refine g_if_ne C tb_X12_aDay_0_ok (i := 15) 33 rfl rfl (fun c => ?_) (fun c => ?_)
        · have h := f77 c
          refine g_aload_n C tb_X12_aDay_0_ok (i := 17) rfl rfl ?_
          refine g_dup C tb_X12_aDay_0_ok (i := 18) rfl rfl ?_
          refine g_getI C tb_X12_aDay_0_ok (i := 19) rfl fl_X12_147 rfl k5 ?_
          refine g_iconstv C tb_X12_aDay_0_ok (i := 20) 1 rfl k_iconstv_1 ?_
          refine g_isub C tb_X12_aDay_0_ok (i := 21) rfl ?_
          refine g_putI C tb_X12_aDay_0_ok (i := 22) rfl fl_X12_147 ft_12_32 rfl k5 ?_
          refine g_mem (fun M78 eM78 => ?_)
          have h := lt_e eM78 h
          refine g_aload_n C tb_X12_aDay_0_ok (i := 23) rfl rfl ?_
          refine g_iload_n C tb_X12_aDay_0_ok (i := 24) rfl rfl ?_
          refine g_aload_n C tb_X12_aDay_0_ok (i := 25) rfl rfl ?_
          refine g_getI C tb_X12_aDay_0_ok (i := 26) rfl fl_X12_147 rfl k5 ?_
          obtain ⟨r79, M80, er79, h⟩ := c0_e h
          refine g_callV0 C tb_X12_aDay_0_ok (i := 27) [.int v1, .int (M78.1 a0 32)] rfl mw_X12_swish mv_X12_swish ml_X12_390 k5 rfl rfl rfl rfl (w_X12_swish C.G y a0 v1 (M78.1 a0 32) M78) er79 rfl rfl rfl ?_
          exact g_less (L' := [some (.ref a0), some (.int v1)]) ⟨rfl, ⟨rfl, trivial⟩⟩ (J52 M80 h)
        · have h := t76 c
          refine g_goto C tb_X12_aDay_0_ok (i := 16) 52 rfl rfl ?_
          exact g_less (L' := [some (.ref a0), some (.int v1)]) ⟨rfl, ⟨rfl, trivial⟩⟩ (J52 M2 h)
def f_X12_goOn (y : Lay) (a0 : Nat) (a1 : Int32) (M : Mem) : Option (Int32 × Mem) := fixN (fun _ _ => none) (fun (s3 : Int32 → Mem → Option (Int32 × Mem)) (v1 : Int32) (M2 : Mem) => br (a1 ≤ v1) (some (0, M2)) (gK y a0 (0, 12) (c0 (f_X12_aDay y a0 M2) fun (r8 : Int32) (M9 : Mem) => lt (v1 + (1 : Int32)) fun (v10 : Int32) => s3 v10 M9))) FUEL (0 : Int32) M
theorem w_X12_goOn {g : GX} {l : Launch} (hG : GF g l) (y : Lay) (a0 : Nat) (a1 : Int32) (M : Mem) : C0 g l yX12_goOn cX12_goOn 3 none 8 y [.ref a0, .int a1] M (f_X12_goOn y a0 a1 M) := by
  refine C0_of hG (by decide) [some (.ref a0), some (.int a1), none] rfl rfl (fun out h x Q C R => ?_)
  unfold f_X12_goOn at h
  refine g_iconstv C tb_X12_goOn_0_ok (i := 0) 0 rfl k_iconstv_0 ?_
  refine g_istore_n C tb_X12_goOn_0_ok (i := 1) rfl rfl rfl ?_
  refine g_less (L' := [some (.ref a0), some (.int a1), some (.int (0 : Int32))]) ⟨rfl, ⟨rfl, ⟨rfl, trivial⟩⟩⟩ ?_
  refine fix_i (P := fun (f : Int32 → Mem → Option (Int32 × Mem)) => ∀ (v1 : Int32) (M2 : Mem), f v1 M2 = some out → GG g x 3 Q 0 0 y M2 2 [some (.ref a0), some (.int a1), some (.int v1)] []) ?_ ?_ _ (0 : Int32) M h
  · intro v1 M2 h; exact (nn_e h).elim
  · intro s3 ih4 v1 M2 h
    refine g_iload_n C tb_X12_goOn_0_ok (i := 2) rfl rfl ?_
    refine g_iload_n C tb_X12_goOn_0_ok (i := 3) rfl rfl ?_
    obtain ⟨t5, f6⟩ := br_e h
    refine g_icmp_ge C tb_X12_goOn_0_ok (i := 4) 17 rfl rfl (fun c => ?_) (fun c => ?_)
    · have h := t5 c
      cases h
      exact g_vret0 C R tb_X12_goOn_0_ok (i := 9) rfl
    · have h := f6 c
      refine g_aload_n C tb_X12_goOn_0_ok (i := 5) rfl rfl ?_
      obtain ⟨k7, h⟩ := gK_e h
      obtain ⟨r8, M9, er8, h⟩ := c0_e h
      refine g_callV0 C tb_X12_goOn_0_ok (i := 6) [] rfl mw_X12_aDay mv_X12_aDay ml_X12_402 k7 rfl rfl rfl rfl (w_X12_aDay C.G y a0 M2) er8 rfl rfl rfl ?_
      obtain ⟨v10, ev10⟩ : ∃ w : Int32, w = v1 + (1 : Int32) := ⟨_, rfl⟩
      have h := lt_e ev10 h
      refine g_iincv C tb_X12_goOn_0_ok (i := 7) (1 : Int32) ev10 rfl rfl k_iconstv_1 rfl rfl ?_
      refine g_goto C tb_X12_goOn_0_ok (i := 8) 2 rfl rfl ?_
      exact g_less (L' := [some (.ref a0), some (.int a1), some (.int v10)]) ⟨rfl, ⟨rfl, ⟨rfl, trivial⟩⟩⟩ (ih4 v10 M9 h)
def f_X12_days (y : Lay) (a0 : Nat) (a1 : Int32) (M : Mem) : Option (Int32 × Mem) := gK y a0 (0, 12) (lt (wI M a0 4 (0 : Int32)) fun (M2 : Mem) => cp (f_X12_isIn y (a1.toInt64) (1 : Int64) (20 : Int64) M2) fun (r3 : Int32) => jn (fun (_u : Unit) => c0 (f_X12_refuse y a0 (1 : Int32) M2) fun (r5 : Int32) (M6 : Mem) => some (r5, M6)) fun j4 => br (r3 = 0) (j4 ()) (br (((M2.1 a0 31) + a1) ≤ (999 : Int32)) (c0 (f_X12_keep y a0 M2) fun (r11 : Int32) (M12 : Mem) => c0 (f_X12_goOn y a0 a1 M12) fun (r13 : Int32) (M14 : Mem) => some ((M14.1 a0 31), M14)) (j4 ())))
theorem w_X12_days {g : GX} {l : Launch} (hG : GF g l) (y : Lay) (a0 : Nat) (a1 : Int32) (M : Mem) : C0 g l yX12_days cX12_days 2 (some .int) 9 y [.ref a0, .int a1] M (f_X12_days y a0 a1 M) := by
  refine C0_of hG (by decide) [some (.ref a0), some (.int a1)] rfl rfl (fun out h x Q C R => ?_)
  unfold f_X12_days at h
  refine g_aload_n C tb_X12_days_0_ok (i := 0) rfl rfl ?_
  refine g_iconstv C tb_X12_days_0_ok (i := 1) 0 rfl k_iconstv_0 ?_
  obtain ⟨k1, h⟩ := gK_e h
  refine g_putI C tb_X12_days_0_ok (i := 2) rfl fl_X12_150 ft_12_4 rfl k1 ?_
  refine g_mem (fun M2 eM2 => ?_)
  have h := lt_e eM2 h
  refine g_iload_n C tb_X12_days_0_ok (i := 3) rfl rfl ?_
  refine g_i2l C tb_X12_days_0_ok (i := 4) rfl ?_
  refine g_lconst C tb_X12_days_0_ok (i := 5) 1 rfl rfl ?_
  refine g_ldc2 C tb_X12_days_0_ok (i := 6) rfl cl_X12_424 ?_
  obtain ⟨r3, er3, h⟩ := cp_e h
  refine g_callS0 C tb_X12_days_0_ok (i := 7) [.long (a1.toInt64), .long (1 : Int64), .long (20 : Int64)] rfl mw_X12_isIn mst_X12_isIn ml_X12_157 rfl rfl rfl rfl (w_X12_isIn C.G y (a1.toInt64) (1 : Int64) (20 : Int64) M2) (pm_s er3) rfl rfl rfl ?_
  obtain ⟨j4, ej4, h⟩ := jn_e h
  have J29 : ∀ (_u : Unit), j4 _u = some out → GG g x 2 Q 0 0 y M2 29 [some (.ref a0), none] [] := by
    intro _u h; subst ej4
    refine g_aload_n C tb_X12_days_0_ok (i := 15) rfl rfl ?_
    refine g_iconstv C tb_X12_days_0_ok (i := 16) 1 rfl k_iconstv_1 ?_
    obtain ⟨r5, M6, er5, h⟩ := c0_e h
    refine g_callV0 C tb_X12_days_0_ok (i := 17) [.int (1 : Int32)] rfl mw_X12_refuse mv_X12_refuse ml_X12_426 k1 rfl rfl rfl rfl (w_X12_refuse C.G y a0 (1 : Int32) M2) er5 rfl rfl rfl ?_
    cases h
    exact g_iret0 C R tb_X12_days_0_ok (i := 18) rfl
  obtain ⟨t7, f8⟩ := br_e h
  refine g_if_eq C tb_X12_days_0_ok (i := 8) 29 rfl rfl (fun c => ?_) (fun c => ?_)
  · have h := t7 c
    exact g_less (L' := [some (.ref a0), none]) ⟨rfl, trivial⟩ (J29 () h)
  · have h := f8 c
    refine g_aload_n C tb_X12_days_0_ok (i := 9) rfl rfl ?_
    refine g_getI C tb_X12_days_0_ok (i := 10) rfl fl_X12_331 rfl k1 ?_
    refine g_iload_n C tb_X12_days_0_ok (i := 11) rfl rfl ?_
    refine g_iadd C tb_X12_days_0_ok (i := 12) rfl ?_
    refine g_sipushv C tb_X12_days_0_ok (i := 13) 999 rfl k_sipushv_999 ?_
    obtain ⟨t9, f10⟩ := br_e h
    refine g_icmp_le C tb_X12_days_0_ok (i := 14) 35 rfl rfl (fun c => ?_) (fun c => ?_)
    · have h := t9 c
      refine g_aload_n C tb_X12_days_0_ok (i := 19) rfl rfl ?_
      obtain ⟨r11, M12, er11, h⟩ := c0_e h
      refine g_callV0 C tb_X12_days_0_ok (i := 20) [] rfl mw_X12_keep mv_X12_keep ml_X12_429 k1 rfl rfl rfl rfl (w_X12_keep C.G y a0 M2) er11 rfl rfl rfl ?_
      refine g_aload_n C tb_X12_days_0_ok (i := 21) rfl rfl ?_
      refine g_iload_n C tb_X12_days_0_ok (i := 22) rfl rfl ?_
      obtain ⟨r13, M14, er13, h⟩ := c0_e h
      refine g_callV0 C tb_X12_days_0_ok (i := 23) [.int a1] rfl mw_X12_goOn mv_X12_goOn ml_X12_432 k1 rfl rfl rfl rfl (w_X12_goOn C.G y a0 a1 M12) er13 rfl rfl rfl ?_
      refine g_aload_n C tb_X12_days_0_ok (i := 24) rfl rfl ?_
      refine g_getI C tb_X12_days_0_ok (i := 25) rfl fl_X12_331 rfl k1 ?_
      cases h
      exact g_iret0 C R tb_X12_days_0_ok (i := 26) rfl
    · have h := f10 c
      exact g_less (L' := [some (.ref a0), none]) ⟨rfl, trivial⟩ (J29 () h)
def f_X12_failing (y : Lay) (a0 : Nat) (a1 : Int32) (M : Mem) : Option (Int32 × Mem) := gK y a0 (0, 12) (lt (wI M a0 4 a1) fun (M2 : Mem) => some ((0 : Int32), M2))
theorem w_X12_failing {g : GX} {l : Launch} (hG : GF g l) (y : Lay) (a0 : Nat) (a1 : Int32) (M : Mem) : C0 g l yX12_failing cX12_failing 2 (some .boolean) 0 y [.ref a0, .int a1] M (f_X12_failing y a0 a1 M) := by
  refine C0_of hG (by decide) [some (.ref a0), some (.int a1)] rfl rfl (fun out h x Q C R => ?_)
  unfold f_X12_failing at h
  refine g_aload_n C tb_X12_failing_0_ok (i := 0) rfl rfl ?_
  refine g_iload_n C tb_X12_failing_0_ok (i := 1) rfl rfl ?_
  obtain ⟨k1, h⟩ := gK_e h
  refine g_putI C tb_X12_failing_0_ok (i := 2) rfl fl_X12_150 ft_12_4 rfl k1 ?_
  refine g_mem (fun M2 eM2 => ?_)
  have h := lt_e eM2 h
  refine g_iconstv C tb_X12_failing_0_ok (i := 3) 0 rfl k_iconstv_0 ?_
  cases h
  exact g_zret0 C R (by decide) tb_X12_failing_0_ok (i := 4) rfl
def f_X12_rest (y : Lay) (a0 : Nat) (a1 : Int32) (a2 : Int32) (M : Mem) : Option (Int32 × Mem) := gK y a0 (0, 12) (lt (wI M a0 4 (0 : Int32)) fun (M2 : Mem) => cp (f_X12_isGirl y a0 a1 M2) fun (r3 : Int32) => br (r3 = 0) (c0 (f_X12_failing y a0 (1 : Int32) M2) fun (r16 : Int32) (M17 : Mem) => gd (r16 = 0 ∨ r16 = 1) (some (r16, M17))) (cp (f_X12_isOf y (M2.1 a0 35) a1 M2) fun (r6 : Int32) => br (r6 = a2) (gN (y.2.1 a0 12) (gA y (y.2.1 a0 12) 1 (1 : Int32) (gA y (y.2.1 a0 12) 1 (1 : Int32) (lt (wI M2 (y.2.1 a0 12) (1 : Int32).toNatClampNeg ((M2.1 (y.2.1 a0 12) (1 : Int32).toNatClampNeg) + (1 : Int32))) fun (M15 : Mem) => some ((0 : Int32), M15))))) (c0 (f_X12_keep y a0 M2) fun (r9 : Int32) (M10 : Mem) => lt (wI M10 a0 35 ((M10.1 a0 35) ^^^ ((1 : Int32) <<< (a1 &&& 31)))) fun (M11 : Mem) => some ((1 : Int32), M11))))
theorem w_X12_rest {g : GX} {l : Launch} (hG : GF g l) (y : Lay) (a0 : Nat) (a1 : Int32) (a2 : Int32) (M : Mem) : C0 g l yX12_rest cX12_rest 3 (some .boolean) 2 y [.ref a0, .int a1, .int a2] M (f_X12_rest y a0 a1 a2 M) := by
  refine C0_of hG (by decide) [some (.ref a0), some (.int a1), some (.int a2)] rfl rfl (fun out h x Q C R => ?_)
  unfold f_X12_rest at h
  refine g_aload_n C tb_X12_rest_0_ok (i := 0) rfl rfl ?_
  refine g_iconstv C tb_X12_rest_0_ok (i := 1) 0 rfl k_iconstv_0 ?_
  obtain ⟨k1, h⟩ := gK_e h
  refine g_putI C tb_X12_rest_0_ok (i := 2) rfl fl_X12_150 ft_12_4 rfl k1 ?_
  refine g_mem (fun M2 eM2 => ?_)
  have h := lt_e eM2 h
  refine g_aload_n C tb_X12_rest_0_ok (i := 3) rfl rfl ?_
  refine g_iload_n C tb_X12_rest_0_ok (i := 4) rfl rfl ?_
  obtain ⟨r3, er3, h⟩ := cp_e h
  refine g_callV0 C tb_X12_rest_0_ok (i := 5) [.int a1] rfl mw_X12_isGirl mv_X12_isGirl ml_X12_417 k1 rfl rfl rfl rfl (w_X12_isGirl C.G y a0 a1 M2) (pm_s er3) rfl rfl rfl ?_
  obtain ⟨t4, f5⟩ := br_e h
  refine g_if_ne C tb_X12_rest_0_ok (i := 6) 19 rfl rfl (fun c => ?_) (fun c => ?_)
  · have h := f5 c
    refine g_aload_n C tb_X12_rest_0_ok (i := 11) rfl rfl ?_
    refine g_getI C tb_X12_rest_0_ok (i := 12) rfl fl_X12_339 rfl k1 ?_
    refine g_iload_n C tb_X12_rest_0_ok (i := 13) rfl rfl ?_
    obtain ⟨r6, er6, h⟩ := cp_e h
    refine g_callS0 C tb_X12_rest_0_ok (i := 14) [.int (M2.1 a0 35), .int a1] rfl mw_X12_isOf mst_X12_isOf ml_X12_232 rfl rfl rfl rfl (w_X12_isOf C.G y (M2.1 a0 35) a1 M2) (pm_s er6) rfl rfl rfl ?_
    refine g_iload_n C tb_X12_rest_0_ok (i := 15) rfl rfl ?_
    obtain ⟨t7, f8⟩ := br_e h
    refine g_icmp_ne C tb_X12_rest_0_ok (i := 16) 43 rfl rfl (fun c => ?_) (fun c => ?_)
    · have h := f8 c
      refine g_aload_n C tb_X12_rest_0_ok (i := 27) rfl rfl ?_
      obtain ⟨r9, M10, er9, h⟩ := c0_e h
      refine g_callV0 C tb_X12_rest_0_ok (i := 28) [] rfl mw_X12_keep mv_X12_keep ml_X12_429 k1 rfl rfl rfl rfl (w_X12_keep C.G y a0 M2) er9 rfl rfl rfl ?_
      refine g_aload_n C tb_X12_rest_0_ok (i := 29) rfl rfl ?_
      refine g_dup C tb_X12_rest_0_ok (i := 30) rfl rfl ?_
      refine g_getI C tb_X12_rest_0_ok (i := 31) rfl fl_X12_339 rfl k1 ?_
      refine g_iconstv C tb_X12_rest_0_ok (i := 32) 1 rfl k_iconstv_1 ?_
      refine g_iload_n C tb_X12_rest_0_ok (i := 33) rfl rfl ?_
      refine g_ishl C tb_X12_rest_0_ok (i := 34) rfl ?_
      refine g_ixor C tb_X12_rest_0_ok (i := 35) rfl ?_
      refine g_putI C tb_X12_rest_0_ok (i := 36) rfl fl_X12_339 ft_12_35 rfl k1 ?_
      refine g_mem (fun M11 eM11 => ?_)
      have h := lt_e eM11 h
      refine g_iconstv C tb_X12_rest_0_ok (i := 37) 1 rfl k_iconstv_1 ?_
      cases h
      exact g_zret0 C R (by decide) tb_X12_rest_0_ok (i := 38) rfl
    · have h := t7 c
      refine g_aload_n C tb_X12_rest_0_ok (i := 17) rfl rfl ?_
      obtain ⟨n12, h⟩ := gN_e h
      refine g_getR C tb_X12_rest_0_ok (i := 18) rfl fl_X12_62 rfl k1 n12 ?_
      refine g_iconstv C tb_X12_rest_0_ok (i := 19) 1 rfl k_iconstv_1 ?_
      refine g_dup2 C tb_X12_rest_0_ok (i := 20) rfl rfl rfl ?_
      obtain ⟨b13, h⟩ := gA_e h
      refine g_iald C tb_X12_rest_0_ok (i := 21) rfl b13 ?_
      refine g_iconstv C tb_X12_rest_0_ok (i := 22) 1 rfl k_iconstv_1 ?_
      refine g_iadd C tb_X12_rest_0_ok (i := 23) rfl ?_
      obtain ⟨b14, h⟩ := gA_e h
      refine g_iast C tb_X12_rest_0_ok (i := 24) rfl b14 ?_
      refine g_mem (fun M15 eM15 => ?_)
      have h := lt_e eM15 h
      refine g_iconstv C tb_X12_rest_0_ok (i := 25) 0 rfl k_iconstv_0 ?_
      cases h
      exact g_zret0 C R (by decide) tb_X12_rest_0_ok (i := 26) rfl
  · have h := t4 c
    refine g_aload_n C tb_X12_rest_0_ok (i := 7) rfl rfl ?_
    refine g_iconstv C tb_X12_rest_0_ok (i := 8) 1 rfl k_iconstv_1 ?_
    obtain ⟨r16, M17, er16, h⟩ := c0_e h
    refine g_callV0 C tb_X12_rest_0_ok (i := 9) [.int (1 : Int32)] rfl mw_X12_failing mv_X12_failing ml_X12_435 k1 rfl rfl rfl rfl (w_X12_failing C.G y a0 (1 : Int32) M2) er16 rfl rfl rfl ?_
    obtain ⟨hz, h⟩ := gd_e h
    cases h
    exact g_zret0 C R hz tb_X12_rest_0_ok (i := 10) rfl
def f_X12_go (y : Lay) (a0 : Nat) (a1 : Int32) (a2 : Int32) (M : Mem) : Option (Int32 × Mem) := gK y a0 (0, 12) (lt (wI M a0 4 (0 : Int32)) fun (M2 : Mem) => cp (f_X12_isGirl y a0 a1 M2) fun (r3 : Int32) => jn (fun (_u : Unit) => c0 (f_X12_fail y a0 (1 : Int32) M2) fun (r5 : Int32) (M6 : Mem) => some (r5, M6)) fun j4 => br (r3 = 0) (j4 ()) (cp (f_X12_isCell y a0 a2 M2) fun (r9 : Int32) => br (r9 = 0) (j4 ()) (gN (y.2.1 a0 29) (gA y (y.2.1 a0 29) 1 a1 (br ((M2.1 (y.2.1 a0 29) a1.toNatClampNeg) = a2) (c0 (f_X12_refuse y a0 (1 : Int32) M2) fun (r22 : Int32) (M23 : Mem) => some (r22, M23)) (c0 (f_X12_keep y a0 M2) fun (r16 : Int32) (M17 : Mem) => gA y (y.2.1 a0 29) 1 a1 (lt (M17.1 (y.2.1 a0 29) a1.toNatClampNeg) fun (v19 : Int32) => gA y (y.2.1 a0 29) 1 a1 (lt (wI M17 (y.2.1 a0 29) a1.toNatClampNeg a2) fun (M21 : Mem) => some (v19, M21)))))))))
theorem w_X12_go {g : GX} {l : Launch} (hG : GF g l) (y : Lay) (a0 : Nat) (a1 : Int32) (a2 : Int32) (M : Mem) : C0 g l yX12_go cX12_go 4 (some .int) 2 y [.ref a0, .int a1, .int a2] M (f_X12_go y a0 a1 a2 M) := by
  refine C0_of hG (by decide) [some (.ref a0), some (.int a1), some (.int a2), none] rfl rfl (fun out h x Q C R => ?_)
  unfold f_X12_go at h
  refine g_aload_n C tb_X12_go_0_ok (i := 0) rfl rfl ?_
  refine g_iconstv C tb_X12_go_0_ok (i := 1) 0 rfl k_iconstv_0 ?_
  obtain ⟨k1, h⟩ := gK_e h
  refine g_putI C tb_X12_go_0_ok (i := 2) rfl fl_X12_150 ft_12_4 rfl k1 ?_
  refine g_mem (fun M2 eM2 => ?_)
  have h := lt_e eM2 h
  refine g_aload_n C tb_X12_go_0_ok (i := 3) rfl rfl ?_
  refine g_iload_n C tb_X12_go_0_ok (i := 4) rfl rfl ?_
  obtain ⟨r3, er3, h⟩ := cp_e h
  refine g_callV0 C tb_X12_go_0_ok (i := 5) [.int a1] rfl mw_X12_isGirl mv_X12_isGirl ml_X12_417 k1 rfl rfl rfl rfl (w_X12_isGirl C.G y a0 a1 M2) (pm_s er3) rfl rfl rfl ?_
  obtain ⟨j4, ej4, h⟩ := jn_e h
  have J21 : ∀ (_u : Unit), j4 _u = some out → GG g x 4 Q 0 0 y M2 21 [some (.ref a0), none, none, none] [] := by
    intro _u h; subst ej4
    refine g_aload_n C tb_X12_go_0_ok (i := 11) rfl rfl ?_
    refine g_iconstv C tb_X12_go_0_ok (i := 12) 1 rfl k_iconstv_1 ?_
    obtain ⟨r5, M6, er5, h⟩ := c0_e h
    refine g_callV0 C tb_X12_go_0_ok (i := 13) [.int (1 : Int32)] rfl mw_X12_fail mv_X12_fail ml_X12_318 k1 rfl rfl rfl rfl (w_X12_fail C.G y a0 (1 : Int32) M2) er5 rfl rfl rfl ?_
    cases h
    exact g_iret0 C R tb_X12_go_0_ok (i := 14) rfl
  obtain ⟨t7, f8⟩ := br_e h
  refine g_if_eq C tb_X12_go_0_ok (i := 6) 21 rfl rfl (fun c => ?_) (fun c => ?_)
  · have h := t7 c
    exact g_less (L' := [some (.ref a0), none, none, none]) ⟨rfl, trivial⟩ (J21 () h)
  · have h := f8 c
    refine g_aload_n C tb_X12_go_0_ok (i := 7) rfl rfl ?_
    refine g_iload_n C tb_X12_go_0_ok (i := 8) rfl rfl ?_
    obtain ⟨r9, er9, h⟩ := cp_e h
    refine g_callV0 C tb_X12_go_0_ok (i := 9) [.int a2] rfl mw_X12_isCell mv_X12_isCell ml_X12_408 k1 rfl rfl rfl rfl (w_X12_isCell C.G y a0 a2 M2) (pm_s er9) rfl rfl rfl ?_
    obtain ⟨t10, f11⟩ := br_e h
    refine g_if_ne C tb_X12_go_0_ok (i := 10) 27 rfl rfl (fun c => ?_) (fun c => ?_)
    · have h := f11 c
      refine g_aload_n C tb_X12_go_0_ok (i := 15) rfl rfl ?_
      obtain ⟨n12, h⟩ := gN_e h
      refine g_getR C tb_X12_go_0_ok (i := 16) rfl fl_X12_77 rfl k1 n12 ?_
      refine g_iload_n C tb_X12_go_0_ok (i := 17) rfl rfl ?_
      obtain ⟨b13, h⟩ := gA_e h
      refine g_iald C tb_X12_go_0_ok (i := 18) rfl b13 ?_
      refine g_iload_n C tb_X12_go_0_ok (i := 19) rfl rfl ?_
      obtain ⟨t14, f15⟩ := br_e h
      refine g_icmp_ne C tb_X12_go_0_ok (i := 20) 43 rfl rfl (fun c => ?_) (fun c => ?_)
      · have h := f15 c
        refine g_aload_n C tb_X12_go_0_ok (i := 25) rfl rfl ?_
        obtain ⟨r16, M17, er16, h⟩ := c0_e h
        refine g_callV0 C tb_X12_go_0_ok (i := 26) [] rfl mw_X12_keep mv_X12_keep ml_X12_429 k1 rfl rfl rfl rfl (w_X12_keep C.G y a0 M2) er16 rfl rfl rfl ?_
        refine g_aload_n C tb_X12_go_0_ok (i := 27) rfl rfl ?_
        refine g_getR C tb_X12_go_0_ok (i := 28) rfl fl_X12_77 rfl k1 n12 ?_
        refine g_iload_n C tb_X12_go_0_ok (i := 29) rfl rfl ?_
        obtain ⟨b18, h⟩ := gA_e h
        refine g_iald C tb_X12_go_0_ok (i := 30) rfl b18 ?_
        refine g_topi (fun v19 ev19 => ?_)
        have h := lt_e ev19 h
        refine g_istore_n C tb_X12_go_0_ok (i := 31) rfl rfl rfl ?_
        refine g_aload_n C tb_X12_go_0_ok (i := 32) rfl rfl ?_
        refine g_getR C tb_X12_go_0_ok (i := 33) rfl fl_X12_77 rfl k1 n12 ?_
        refine g_iload_n C tb_X12_go_0_ok (i := 34) rfl rfl ?_
        refine g_iload_n C tb_X12_go_0_ok (i := 35) rfl rfl ?_
        obtain ⟨b20, h⟩ := gA_e h
        refine g_iast C tb_X12_go_0_ok (i := 36) rfl b20 ?_
        refine g_mem (fun M21 eM21 => ?_)
        have h := lt_e eM21 h
        refine g_iload_n C tb_X12_go_0_ok (i := 37) rfl rfl ?_
        cases h
        exact g_iret0 C R tb_X12_go_0_ok (i := 38) rfl
      · have h := t14 c
        refine g_aload_n C tb_X12_go_0_ok (i := 21) rfl rfl ?_
        refine g_iconstv C tb_X12_go_0_ok (i := 22) 1 rfl k_iconstv_1 ?_
        obtain ⟨r22, M23, er22, h⟩ := c0_e h
        refine g_callV0 C tb_X12_go_0_ok (i := 23) [.int (1 : Int32)] rfl mw_X12_refuse mv_X12_refuse ml_X12_426 k1 rfl rfl rfl rfl (w_X12_refuse C.G y a0 (1 : Int32) M2) er22 rfl rfl rfl ?_
        cases h
        exact g_iret0 C R tb_X12_go_0_ok (i := 24) rfl
    · have h := t10 c
      exact g_less (L' := [some (.ref a0), none, none, none]) ⟨rfl, trivial⟩ (J21 () h)
def f_X12_bag (y : Lay) (a0 : Nat) (a1 : Int32) (M : Mem) : Option (Int32 × Mem) := gK y a0 (0, 12) (lt (wI M a0 4 (0 : Int32)) fun (M2 : Mem) => cp (f_X12_isIn y (a1.toInt64) (1 : Int64) (50 : Int64) M2) fun (r3 : Int32) => br (r3 = 0) (c0 (f_X12_refuse y a0 (1 : Int32) M2) fun (r9 : Int32) (M10 : Mem) => some (r9, M10)) (c0 (f_X12_keep y a0 M2) fun (r6 : Int32) (M7 : Mem) => lt (wI M7 a0 32 (jmin (99 : Int32) ((M7.1 a0 32) + a1))) fun (M8 : Mem) => some ((M8.1 a0 32), M8)))
theorem w_X12_bag {g : GX} {l : Launch} (hG : GF g l) (y : Lay) (a0 : Nat) (a1 : Int32) (M : Mem) : C0 g l yX12_bag cX12_bag 2 (some .int) 2 y [.ref a0, .int a1] M (f_X12_bag y a0 a1 M) := by
  refine C0_of hG (by decide) [some (.ref a0), some (.int a1)] rfl rfl (fun out h x Q C R => ?_)
  unfold f_X12_bag at h
  refine g_aload_n C tb_X12_bag_0_ok (i := 0) rfl rfl ?_
  refine g_iconstv C tb_X12_bag_0_ok (i := 1) 0 rfl k_iconstv_0 ?_
  obtain ⟨k1, h⟩ := gK_e h
  refine g_putI C tb_X12_bag_0_ok (i := 2) rfl fl_X12_150 ft_12_4 rfl k1 ?_
  refine g_mem (fun M2 eM2 => ?_)
  have h := lt_e eM2 h
  refine g_iload_n C tb_X12_bag_0_ok (i := 3) rfl rfl ?_
  refine g_i2l C tb_X12_bag_0_ok (i := 4) rfl ?_
  refine g_lconst C tb_X12_bag_0_ok (i := 5) 1 rfl rfl ?_
  refine g_ldc2 C tb_X12_bag_0_ok (i := 6) rfl cl_X12_438 ?_
  obtain ⟨r3, er3, h⟩ := cp_e h
  refine g_callS0 C tb_X12_bag_0_ok (i := 7) [.long (a1.toInt64), .long (1 : Int64), .long (50 : Int64)] rfl mw_X12_isIn mst_X12_isIn ml_X12_157 rfl rfl rfl rfl (w_X12_isIn C.G y (a1.toInt64) (1 : Int64) (50 : Int64) M2) (pm_s er3) rfl rfl rfl ?_
  obtain ⟨t4, f5⟩ := br_e h
  refine g_if_ne C tb_X12_bag_0_ok (i := 8) 23 rfl rfl (fun c => ?_) (fun c => ?_)
  · have h := f5 c
    refine g_aload_n C tb_X12_bag_0_ok (i := 13) rfl rfl ?_
    obtain ⟨r6, M7, er6, h⟩ := c0_e h
    refine g_callV0 C tb_X12_bag_0_ok (i := 14) [] rfl mw_X12_keep mv_X12_keep ml_X12_429 k1 rfl rfl rfl rfl (w_X12_keep C.G y a0 M2) er6 rfl rfl rfl ?_
    refine g_aload_n C tb_X12_bag_0_ok (i := 15) rfl rfl ?_
    refine g_bipushv C tb_X12_bag_0_ok (i := 16) 99 rfl k_bipushv_99 ?_
    refine g_aload_n C tb_X12_bag_0_ok (i := 17) rfl rfl ?_
    refine g_getI C tb_X12_bag_0_ok (i := 18) rfl fl_X12_147 rfl k1 ?_
    refine g_iload_n C tb_X12_bag_0_ok (i := 19) rfl rfl ?_
    refine g_iadd C tb_X12_bag_0_ok (i := 20) rfl ?_
    refine g_min C tb_X12_bag_0_ok (i := 21) rfl mt_X12_191 rfl rfl rfl ?_
    refine g_putI C tb_X12_bag_0_ok (i := 22) rfl fl_X12_147 ft_12_32 rfl k1 ?_
    refine g_mem (fun M8 eM8 => ?_)
    have h := lt_e eM8 h
    refine g_aload_n C tb_X12_bag_0_ok (i := 23) rfl rfl ?_
    refine g_getI C tb_X12_bag_0_ok (i := 24) rfl fl_X12_147 rfl k1 ?_
    cases h
    exact g_iret0 C R tb_X12_bag_0_ok (i := 25) rfl
  · have h := t4 c
    refine g_aload_n C tb_X12_bag_0_ok (i := 9) rfl rfl ?_
    refine g_iconstv C tb_X12_bag_0_ok (i := 10) 1 rfl k_iconstv_1 ?_
    obtain ⟨r9, M10, er9, h⟩ := c0_e h
    refine g_callV0 C tb_X12_bag_0_ok (i := 11) [.int (1 : Int32)] rfl mw_X12_refuse mv_X12_refuse ml_X12_426 k1 rfl rfl rfl rfl (w_X12_refuse C.G y a0 (1 : Int32) M2) er9 rfl rfl rfl ?_
    cases h
    exact g_iret0 C R tb_X12_bag_0_ok (i := 12) rfl
def f_X12_peg (y : Lay) (a0 : Nat) (a1 : Int32) (a2 : Int32) (M : Mem) : Option (Int32 × Mem) := gK y a0 (0, 12) (lt (wI M a0 4 (0 : Int32)) fun (M2 : Mem) => cp (f_X12_isCell y a0 a1 M2) fun (r3 : Int32) => br (r3 = 0) (c0 (f_X12_fail y a0 (1 : Int32) M2) fun (r23 : Int32) (M24 : Mem) => some (r23, M24)) (cp (f_X12_isOf y (M2.1 a0 34) a1 M2) fun (r6 : Int32) => br (r6 = a2) (c0 (f_X12_refuse y a0 (1 : Int32) M2) fun (r21 : Int32) (M22 : Mem) => some (r21, M22)) (c0 (f_X12_keep y a0 M2) fun (r9 : Int32) (M10 : Mem) => gN (y.2.1 a0 28) (gA y (y.2.1 a0 28) 1 a1 (lt (M10.1 (y.2.1 a0 28) a1.toNatClampNeg) fun (v13 : Int32) => lt (wI M10 a0 34 ((M10.1 a0 34) ^^^ ((1 : Int32) <<< (a1 &&& 31)))) fun (M14 : Mem) => jn (fun (M15 : Mem) => some (v13, M15)) fun j16 => br (a2 = 0) (j16 M14) (gA y (y.2.1 a0 28) 1 a1 (lt (wI M14 (y.2.1 a0 28) a1.toNatClampNeg (0 : Int32)) fun (M20 : Mem) => j16 M20)))))))
theorem w_X12_peg {g : GX} {l : Launch} (hG : GF g l) (y : Lay) (a0 : Nat) (a1 : Int32) (a2 : Int32) (M : Mem) : C0 g l yX12_peg cX12_peg 4 (some .int) 2 y [.ref a0, .int a1, .int a2] M (f_X12_peg y a0 a1 a2 M) := by
  refine C0_of hG (by decide) [some (.ref a0), some (.int a1), some (.int a2), none] rfl rfl (fun out h x Q C R => ?_)
  unfold f_X12_peg at h
  refine g_aload_n C tb_X12_peg_0_ok (i := 0) rfl rfl ?_
  refine g_iconstv C tb_X12_peg_0_ok (i := 1) 0 rfl k_iconstv_0 ?_
  obtain ⟨k1, h⟩ := gK_e h
  refine g_putI C tb_X12_peg_0_ok (i := 2) rfl fl_X12_150 ft_12_4 rfl k1 ?_
  refine g_mem (fun M2 eM2 => ?_)
  have h := lt_e eM2 h
  refine g_aload_n C tb_X12_peg_0_ok (i := 3) rfl rfl ?_
  refine g_iload_n C tb_X12_peg_0_ok (i := 4) rfl rfl ?_
  obtain ⟨r3, er3, h⟩ := cp_e h
  refine g_callV0 C tb_X12_peg_0_ok (i := 5) [.int a1] rfl mw_X12_isCell mv_X12_isCell ml_X12_408 k1 rfl rfl rfl rfl (w_X12_isCell C.G y a0 a1 M2) (pm_s er3) rfl rfl rfl ?_
  obtain ⟨t4, f5⟩ := br_e h
  refine g_if_ne C tb_X12_peg_0_ok (i := 6) 19 rfl rfl (fun c => ?_) (fun c => ?_)
  · have h := f5 c
    refine g_aload_n C tb_X12_peg_0_ok (i := 11) rfl rfl ?_
    refine g_getI C tb_X12_peg_0_ok (i := 12) rfl fl_X12_336 rfl k1 ?_
    refine g_iload_n C tb_X12_peg_0_ok (i := 13) rfl rfl ?_
    obtain ⟨r6, er6, h⟩ := cp_e h
    refine g_callS0 C tb_X12_peg_0_ok (i := 14) [.int (M2.1 a0 34), .int a1] rfl mw_X12_isOf mst_X12_isOf ml_X12_232 rfl rfl rfl rfl (w_X12_isOf C.G y (M2.1 a0 34) a1 M2) (pm_s er6) rfl rfl rfl ?_
    refine g_iload_n C tb_X12_peg_0_ok (i := 15) rfl rfl ?_
    obtain ⟨t7, f8⟩ := br_e h
    refine g_icmp_ne C tb_X12_peg_0_ok (i := 16) 37 rfl rfl (fun c => ?_) (fun c => ?_)
    · have h := f8 c
      refine g_aload_n C tb_X12_peg_0_ok (i := 21) rfl rfl ?_
      obtain ⟨r9, M10, er9, h⟩ := c0_e h
      refine g_callV0 C tb_X12_peg_0_ok (i := 22) [] rfl mw_X12_keep mv_X12_keep ml_X12_429 k1 rfl rfl rfl rfl (w_X12_keep C.G y a0 M2) er9 rfl rfl rfl ?_
      refine g_aload_n C tb_X12_peg_0_ok (i := 23) rfl rfl ?_
      obtain ⟨n11, h⟩ := gN_e h
      refine g_getR C tb_X12_peg_0_ok (i := 24) rfl fl_X12_75 rfl k1 n11 ?_
      refine g_iload_n C tb_X12_peg_0_ok (i := 25) rfl rfl ?_
      obtain ⟨b12, h⟩ := gA_e h
      refine g_iald C tb_X12_peg_0_ok (i := 26) rfl b12 ?_
      refine g_topi (fun v13 ev13 => ?_)
      have h := lt_e ev13 h
      refine g_istore_n C tb_X12_peg_0_ok (i := 27) rfl rfl rfl ?_
      refine g_aload_n C tb_X12_peg_0_ok (i := 28) rfl rfl ?_
      refine g_dup C tb_X12_peg_0_ok (i := 29) rfl rfl ?_
      refine g_getI C tb_X12_peg_0_ok (i := 30) rfl fl_X12_336 rfl k1 ?_
      refine g_iconstv C tb_X12_peg_0_ok (i := 31) 1 rfl k_iconstv_1 ?_
      refine g_iload_n C tb_X12_peg_0_ok (i := 32) rfl rfl ?_
      refine g_ishl C tb_X12_peg_0_ok (i := 33) rfl ?_
      refine g_ixor C tb_X12_peg_0_ok (i := 34) rfl ?_
      refine g_putI C tb_X12_peg_0_ok (i := 35) rfl fl_X12_336 ft_12_34 rfl k1 ?_
      refine g_mem (fun M14 eM14 => ?_)
      have h := lt_e eM14 h
      refine g_iload_n C tb_X12_peg_0_ok (i := 36) rfl rfl ?_
      obtain ⟨j16, ej16, h⟩ := jn_e h
      have J71 : ∀ (M15 : Mem), j16 M15 = some out → GG g x 4 Q 0 0 y M15 71 [none, none, none, some (.int v13)] [] := by
        intro M15 h; subst ej16
        refine g_iload_n C tb_X12_peg_1_ok (i := 3) rfl rfl ?_
        cases h
        exact g_iret0 C R tb_X12_peg_1_ok (i := 4) rfl
      obtain ⟨t17, f18⟩ := br_e h
      refine g_if_eq C tb_X12_peg_0_ok (i := 37) 71 rfl rfl (fun c => ?_) (fun c => ?_)
      · have h := t17 c
        exact g_less (L' := [none, none, none, some (.int v13)]) ⟨rfl, trivial⟩ (J71 M14 h)
      · have h := f18 c
        refine g_aload_n C tb_X12_peg_0_ok (i := 38) rfl rfl ?_
        refine g_getR C tb_X12_peg_0_ok (i := 39) rfl fl_X12_75 rfl k1 n11 ?_
        refine g_iload_n C tb_X12_peg_1_ok (i := 0) rfl rfl ?_
        refine g_iconstv C tb_X12_peg_1_ok (i := 1) 0 rfl k_iconstv_0 ?_
        obtain ⟨b19, h⟩ := gA_e h
        refine g_iast C tb_X12_peg_1_ok (i := 2) rfl b19 ?_
        refine g_mem (fun M20 eM20 => ?_)
        have h := lt_e eM20 h
        exact g_less (L' := [none, none, none, some (.int v13)]) ⟨rfl, trivial⟩ (J71 M20 h)
    · have h := t7 c
      refine g_aload_n C tb_X12_peg_0_ok (i := 17) rfl rfl ?_
      refine g_iconstv C tb_X12_peg_0_ok (i := 18) 1 rfl k_iconstv_1 ?_
      obtain ⟨r21, M22, er21, h⟩ := c0_e h
      refine g_callV0 C tb_X12_peg_0_ok (i := 19) [.int (1 : Int32)] rfl mw_X12_refuse mv_X12_refuse ml_X12_426 k1 rfl rfl rfl rfl (w_X12_refuse C.G y a0 (1 : Int32) M2) er21 rfl rfl rfl ?_
      cases h
      exact g_iret0 C R tb_X12_peg_0_ok (i := 20) rfl
  · have h := t4 c
    refine g_aload_n C tb_X12_peg_0_ok (i := 7) rfl rfl ?_
    refine g_iconstv C tb_X12_peg_0_ok (i := 8) 1 rfl k_iconstv_1 ?_
    obtain ⟨r23, M24, er23, h⟩ := c0_e h
    refine g_callV0 C tb_X12_peg_0_ok (i := 9) [.int (1 : Int32)] rfl mw_X12_fail mv_X12_fail ml_X12_318 k1 rfl rfl rfl rfl (w_X12_fail C.G y a0 (1 : Int32) M2) er23 rfl rfl rfl ?_
    cases h
    exact g_iret0 C R tb_X12_peg_0_ok (i := 10) rfl
def f_X12_unpack (y : Lay) (a0 : Nat) (a1 : Nat) (a2 : Int32) (M : Mem) : Option (Int32 × Mem) := gA y a1 1 a2 (gK y a0 (0, 12) (lt (wI M a0 31 (M.1 a1 a2.toNatClampNeg)) fun (M3 : Mem) => gA y a1 1 (a2 + (1 : Int32)) (lt (wI M3 a0 32 (M3.1 a1 (a2 + (1 : Int32)).toNatClampNeg)) fun (M5 : Mem) => gA y a1 1 (a2 + (2 : Int32)) (lt (wI M5 a0 33 (M5.1 a1 (a2 + (2 : Int32)).toNatClampNeg)) fun (M7 : Mem) => gA y a1 1 (a2 + (3 : Int32)) (lt (wI M7 a0 34 (M7.1 a1 (a2 + (3 : Int32)).toNatClampNeg)) fun (M9 : Mem) => gA y a1 1 (a2 + (4 : Int32)) (lt (wI M9 a0 35 (M9.1 a1 (a2 + (4 : Int32)).toNatClampNeg)) fun (M11 : Mem) => fixN (fun _ _ => none) (fun (s14 : Int32 → Mem → Option (Int32 × Mem)) (v12 : Int32) (M13 : Mem) => br ((30 : Int32) ≤ v12) (fixN (fun _ _ => none) (fun (s20 : Int32 → Mem → Option (Int32 × Mem)) (v18 : Int32) (M19 : Mem) => br ((6 : Int32) ≤ v18) (some (0, M19)) (gN (y.2.1 a0 29) (gA y a1 1 (((a2 + (5 : Int32)) + (30 : Int32)) + v18) (gA y (y.2.1 a0 29) 1 v18 (lt (wI M19 (y.2.1 a0 29) v18.toNatClampNeg (M19.1 a1 (((a2 + (5 : Int32)) + (30 : Int32)) + v18).toNatClampNeg)) fun (M27 : Mem) => lt (v18 + (1 : Int32)) fun (v28 : Int32) => s20 v28 M27))))) FUEL (0 : Int32) M13) (gN (y.2.1 a0 28) (gA y a1 1 ((a2 + (5 : Int32)) + v12) (gA y (y.2.1 a0 28) 1 v12 (lt (wI M13 (y.2.1 a0 28) v12.toNatClampNeg (M13.1 a1 ((a2 + (5 : Int32)) + v12).toNatClampNeg)) fun (M32 : Mem) => lt (v12 + (1 : Int32)) fun (v33 : Int32) => s14 v33 M32))))) FUEL (0 : Int32) M11))))))
theorem w_X12_unpack {g : GX} {l : Launch} (hG : GF g l) (y : Lay) (a0 : Nat) (a1 : Nat) (a2 : Int32) (M : Mem) : C0 g l yX12_unpack cX12_unpack 4 none 0 y [.ref a0, .ref a1, .int a2] M (f_X12_unpack y a0 a1 a2 M) := by
  refine C0_of hG (by decide) [some (.ref a0), some (.ref a1), some (.int a2), none] rfl rfl (fun out h x Q C R => ?_)
  unfold f_X12_unpack at h
  refine g_aload_n C tb_X12_unpack_0_ok (i := 0) rfl rfl ?_
  refine g_aload_n C tb_X12_unpack_0_ok (i := 1) rfl rfl ?_
  refine g_iload_n C tb_X12_unpack_0_ok (i := 2) rfl rfl ?_
  obtain ⟨b1, h⟩ := gA_e h
  refine g_iald C tb_X12_unpack_0_ok (i := 3) rfl b1 ?_
  obtain ⟨k2, h⟩ := gK_e h
  refine g_putI C tb_X12_unpack_0_ok (i := 4) rfl fl_X12_331 ft_12_31 rfl k2 ?_
  refine g_mem (fun M3 eM3 => ?_)
  have h := lt_e eM3 h
  refine g_aload_n C tb_X12_unpack_0_ok (i := 5) rfl rfl ?_
  refine g_aload_n C tb_X12_unpack_0_ok (i := 6) rfl rfl ?_
  refine g_iload_n C tb_X12_unpack_0_ok (i := 7) rfl rfl ?_
  refine g_iconstv C tb_X12_unpack_0_ok (i := 8) 1 rfl k_iconstv_1 ?_
  refine g_iadd C tb_X12_unpack_0_ok (i := 9) rfl ?_
  obtain ⟨b4, h⟩ := gA_e h
  refine g_iald C tb_X12_unpack_0_ok (i := 10) rfl b4 ?_
  refine g_putI C tb_X12_unpack_0_ok (i := 11) rfl fl_X12_147 ft_12_32 rfl k2 ?_
  refine g_mem (fun M5 eM5 => ?_)
  have h := lt_e eM5 h
  refine g_aload_n C tb_X12_unpack_0_ok (i := 12) rfl rfl ?_
  refine g_aload_n C tb_X12_unpack_0_ok (i := 13) rfl rfl ?_
  refine g_iload_n C tb_X12_unpack_0_ok (i := 14) rfl rfl ?_
  refine g_iconstv C tb_X12_unpack_0_ok (i := 15) 2 rfl k_iconstv_2 ?_
  refine g_iadd C tb_X12_unpack_0_ok (i := 16) rfl ?_
  obtain ⟨b6, h⟩ := gA_e h
  refine g_iald C tb_X12_unpack_0_ok (i := 17) rfl b6 ?_
  refine g_putI C tb_X12_unpack_0_ok (i := 18) rfl fl_X12_333 ft_12_33 rfl k2 ?_
  refine g_mem (fun M7 eM7 => ?_)
  have h := lt_e eM7 h
  refine g_aload_n C tb_X12_unpack_0_ok (i := 19) rfl rfl ?_
  refine g_aload_n C tb_X12_unpack_0_ok (i := 20) rfl rfl ?_
  refine g_iload_n C tb_X12_unpack_0_ok (i := 21) rfl rfl ?_
  refine g_iconstv C tb_X12_unpack_0_ok (i := 22) 3 rfl k_iconstv_3 ?_
  refine g_iadd C tb_X12_unpack_0_ok (i := 23) rfl ?_
  obtain ⟨b8, h⟩ := gA_e h
  refine g_iald C tb_X12_unpack_0_ok (i := 24) rfl b8 ?_
  refine g_putI C tb_X12_unpack_0_ok (i := 25) rfl fl_X12_336 ft_12_34 rfl k2 ?_
  refine g_mem (fun M9 eM9 => ?_)
  have h := lt_e eM9 h
  refine g_aload_n C tb_X12_unpack_0_ok (i := 26) rfl rfl ?_
  refine g_aload_n C tb_X12_unpack_0_ok (i := 27) rfl rfl ?_
  refine g_iload_n C tb_X12_unpack_0_ok (i := 28) rfl rfl ?_
  refine g_iconstv C tb_X12_unpack_0_ok (i := 29) 4 rfl k_iconstv_4 ?_
  refine g_iadd C tb_X12_unpack_0_ok (i := 30) rfl ?_
  obtain ⟨b10, h⟩ := gA_e h
  refine g_iald C tb_X12_unpack_0_ok (i := 31) rfl b10 ?_
  refine g_putI C tb_X12_unpack_0_ok (i := 32) rfl fl_X12_339 ft_12_35 rfl k2 ?_
  refine g_mem (fun M11 eM11 => ?_)
  have h := lt_e eM11 h
  refine g_iconstv C tb_X12_unpack_0_ok (i := 33) 0 rfl k_iconstv_0 ?_
  refine g_istore_n C tb_X12_unpack_0_ok (i := 34) rfl rfl rfl ?_
  refine g_less (L' := [some (.ref a0), some (.ref a1), some (.int a2), some (.int (0 : Int32))]) ⟨rfl, ⟨rfl, ⟨rfl, ⟨rfl, trivial⟩⟩⟩⟩ ?_
  refine fix_i (P := fun (f : Int32 → Mem → Option (Int32 × Mem)) => ∀ (v12 : Int32) (M13 : Mem), f v12 M13 = some out → GG g x 4 Q 0 0 y M13 45 [some (.ref a0), some (.ref a1), some (.int a2), some (.int v12)] []) ?_ ?_ _ (0 : Int32) M11 h
  · intro v12 M13 h; exact (nn_e h).elim
  · intro s14 ih15 v12 M13 h
    refine g_iload_n C tb_X12_unpack_0_ok (i := 35) rfl rfl ?_
    refine g_bipushv C tb_X12_unpack_0_ok (i := 36) 30 rfl k_bipushv_30 ?_
    obtain ⟨t16, f17⟩ := br_e h
    refine g_icmp_ge C tb_X12_unpack_0_ok (i := 37) 70 rfl rfl (fun c => ?_) (fun c => ?_)
    · have h := t16 c
      refine g_iconstv C tb_X12_unpack_1_ok (i := 11) 0 rfl k_iconstv_0 ?_
      refine g_istore_n C tb_X12_unpack_1_ok (i := 12) rfl rfl rfl ?_
      refine g_less (L' := [some (.ref a0), some (.ref a1), some (.int a2), some (.int (0 : Int32))]) ⟨rfl, ⟨rfl, ⟨rfl, ⟨rfl, trivial⟩⟩⟩⟩ ?_
      refine fix_i (P := fun (f : Int32 → Mem → Option (Int32 × Mem)) => ∀ (v18 : Int32) (M19 : Mem), f v18 M19 = some out → GG g x 4 Q 0 0 y M19 72 [some (.ref a0), some (.ref a1), some (.int a2), some (.int v18)] []) ?_ ?_ _ (0 : Int32) M13 h
      · intro v18 M19 h; exact (nn_e h).elim
      · intro s20 ih21 v18 M19 h
        refine g_iload_n C tb_X12_unpack_1_ok (i := 13) rfl rfl ?_
        refine g_bipushv C tb_X12_unpack_1_ok (i := 14) 6 rfl k_bipushv_6 ?_
        obtain ⟨t22, f23⟩ := br_e h
        refine g_icmp_ge C tb_X12_unpack_1_ok (i := 15) 100 rfl rfl (fun c => ?_) (fun c => ?_)
        · have h := t22 c
          cases h
          exact g_vret0 C R tb_X12_unpack_1_ok (i := 31) rfl
        · have h := f23 c
          refine g_aload_n C tb_X12_unpack_1_ok (i := 16) rfl rfl ?_
          obtain ⟨n24, h⟩ := gN_e h
          refine g_getR C tb_X12_unpack_1_ok (i := 17) rfl fl_X12_77 rfl k2 n24 ?_
          refine g_iload_n C tb_X12_unpack_1_ok (i := 18) rfl rfl ?_
          refine g_aload_n C tb_X12_unpack_1_ok (i := 19) rfl rfl ?_
          refine g_iload_n C tb_X12_unpack_1_ok (i := 20) rfl rfl ?_
          refine g_iconstv C tb_X12_unpack_1_ok (i := 21) 5 rfl k_iconstv_5 ?_
          refine g_iadd C tb_X12_unpack_1_ok (i := 22) rfl ?_
          refine g_bipushv C tb_X12_unpack_1_ok (i := 23) 30 rfl k_bipushv_30 ?_
          refine g_iadd C tb_X12_unpack_1_ok (i := 24) rfl ?_
          refine g_iload_n C tb_X12_unpack_1_ok (i := 25) rfl rfl ?_
          refine g_iadd C tb_X12_unpack_1_ok (i := 26) rfl ?_
          obtain ⟨b25, h⟩ := gA_e h
          refine g_iald C tb_X12_unpack_1_ok (i := 27) rfl b25 ?_
          obtain ⟨b26, h⟩ := gA_e h
          refine g_iast C tb_X12_unpack_1_ok (i := 28) rfl b26 ?_
          refine g_mem (fun M27 eM27 => ?_)
          have h := lt_e eM27 h
          obtain ⟨v28, ev28⟩ : ∃ w : Int32, w = v18 + (1 : Int32) := ⟨_, rfl⟩
          have h := lt_e ev28 h
          refine g_iincv C tb_X12_unpack_1_ok (i := 29) (1 : Int32) ev28 rfl rfl k_iconstv_1 rfl rfl ?_
          refine g_goto C tb_X12_unpack_1_ok (i := 30) 72 rfl rfl ?_
          exact g_less (L' := [some (.ref a0), some (.ref a1), some (.int a2), some (.int v28)]) ⟨rfl, ⟨rfl, ⟨rfl, ⟨rfl, trivial⟩⟩⟩⟩ (ih21 v28 M27 h)
    · have h := f17 c
      refine g_aload_n C tb_X12_unpack_0_ok (i := 38) rfl rfl ?_
      obtain ⟨n29, h⟩ := gN_e h
      refine g_getR C tb_X12_unpack_0_ok (i := 39) rfl fl_X12_75 rfl k2 n29 ?_
      refine g_iload_n C tb_X12_unpack_1_ok (i := 0) rfl rfl ?_
      refine g_aload_n C tb_X12_unpack_1_ok (i := 1) rfl rfl ?_
      refine g_iload_n C tb_X12_unpack_1_ok (i := 2) rfl rfl ?_
      refine g_iconstv C tb_X12_unpack_1_ok (i := 3) 5 rfl k_iconstv_5 ?_
      refine g_iadd C tb_X12_unpack_1_ok (i := 4) rfl ?_
      refine g_iload_n C tb_X12_unpack_1_ok (i := 5) rfl rfl ?_
      refine g_iadd C tb_X12_unpack_1_ok (i := 6) rfl ?_
      obtain ⟨b30, h⟩ := gA_e h
      refine g_iald C tb_X12_unpack_1_ok (i := 7) rfl b30 ?_
      obtain ⟨b31, h⟩ := gA_e h
      refine g_iast C tb_X12_unpack_1_ok (i := 8) rfl b31 ?_
      refine g_mem (fun M32 eM32 => ?_)
      have h := lt_e eM32 h
      obtain ⟨v33, ev33⟩ : ∃ w : Int32, w = v12 + (1 : Int32) := ⟨_, rfl⟩
      have h := lt_e ev33 h
      refine g_iincv C tb_X12_unpack_1_ok (i := 9) (1 : Int32) ev33 rfl rfl k_iconstv_1 rfl rfl ?_
      refine g_goto C tb_X12_unpack_1_ok (i := 10) 45 rfl rfl ?_
      exact g_less (L' := [some (.ref a0), some (.ref a1), some (.int a2), some (.int v33)]) ⟨rfl, ⟨rfl, ⟨rfl, ⟨rfl, trivial⟩⟩⟩⟩ (ih15 v33 M32 h)
def f_X12_undo (y : Lay) (a0 : Nat) (M : Mem) : Option (Int32 × Mem) := gK y a0 (0, 12) (lt (wI M a0 4 (0 : Int32)) fun (M2 : Mem) => br ((M2.1 a0 36) = 0) (some (((-1) : Int32), M2)) (lt (wI M2 a0 36 ((M2.1 a0 36) - (1 : Int32))) fun (M5 : Mem) => gN (y.2.1 a0 30) (c0 (f_X12_unpack y a0 (y.2.1 a0 30) ((41 : Int32) * (M5.1 a0 36)) M5) fun (r7 : Int32) (M8 : Mem) => some ((M8.1 a0 36), M8))))
theorem w_X12_undo {g : GX} {l : Launch} (hG : GF g l) (y : Lay) (a0 : Nat) (M : Mem) : C0 g l yX12_undo cX12_undo 1 (some .int) 1 y [.ref a0] M (f_X12_undo y a0 M) := by
  refine C0_of hG (by decide) [some (.ref a0)] rfl rfl (fun out h x Q C R => ?_)
  unfold f_X12_undo at h
  refine g_aload_n C tb_X12_undo_0_ok (i := 0) rfl rfl ?_
  refine g_iconstv C tb_X12_undo_0_ok (i := 1) 0 rfl k_iconstv_0 ?_
  obtain ⟨k1, h⟩ := gK_e h
  refine g_putI C tb_X12_undo_0_ok (i := 2) rfl fl_X12_150 ft_12_4 rfl k1 ?_
  refine g_mem (fun M2 eM2 => ?_)
  have h := lt_e eM2 h
  refine g_aload_n C tb_X12_undo_0_ok (i := 3) rfl rfl ?_
  refine g_getI C tb_X12_undo_0_ok (i := 4) rfl fl_X12_342 rfl k1 ?_
  obtain ⟨t3, f4⟩ := br_e h
  refine g_if_ne C tb_X12_undo_0_ok (i := 5) 14 rfl rfl (fun c => ?_) (fun c => ?_)
  · have h := f4 c
    refine g_aload_n C tb_X12_undo_0_ok (i := 8) rfl rfl ?_
    refine g_dup C tb_X12_undo_0_ok (i := 9) rfl rfl ?_
    refine g_getI C tb_X12_undo_0_ok (i := 10) rfl fl_X12_342 rfl k1 ?_
    refine g_iconstv C tb_X12_undo_0_ok (i := 11) 1 rfl k_iconstv_1 ?_
    refine g_isub C tb_X12_undo_0_ok (i := 12) rfl ?_
    refine g_putI C tb_X12_undo_0_ok (i := 13) rfl fl_X12_342 ft_12_36 rfl k1 ?_
    refine g_mem (fun M5 eM5 => ?_)
    have h := lt_e eM5 h
    refine g_aload_n C tb_X12_undo_0_ok (i := 14) rfl rfl ?_
    refine g_aload_n C tb_X12_undo_0_ok (i := 15) rfl rfl ?_
    obtain ⟨n6, h⟩ := gN_e h
    refine g_getR C tb_X12_undo_0_ok (i := 16) rfl fl_X12_80 rfl k1 n6 ?_
    refine g_bipushv C tb_X12_undo_0_ok (i := 17) 41 rfl k_bipushv_41 ?_
    refine g_aload_n C tb_X12_undo_0_ok (i := 18) rfl rfl ?_
    refine g_getI C tb_X12_undo_0_ok (i := 19) rfl fl_X12_342 rfl k1 ?_
    refine g_imul C tb_X12_undo_0_ok (i := 20) rfl ?_
    obtain ⟨r7, M8, er7, h⟩ := c0_e h
    refine g_callV0 C tb_X12_undo_0_ok (i := 21) [.ref (y.2.1 a0 30), .int ((41 : Int32) * (M5.1 a0 36))] rfl mw_X12_unpack mv_X12_unpack ml_X12_440 k1 rfl rfl rfl rfl (w_X12_unpack C.G y a0 (y.2.1 a0 30) ((41 : Int32) * (M5.1 a0 36)) M5) er7 rfl rfl rfl ?_
    refine g_aload_n C tb_X12_undo_0_ok (i := 22) rfl rfl ?_
    refine g_getI C tb_X12_undo_0_ok (i := 23) rfl fl_X12_342 rfl k1 ?_
    cases h
    exact g_iret0 C R tb_X12_undo_0_ok (i := 24) rfl
  · have h := t3 c
    refine g_iconstv C tb_X12_undo_0_ok (i := 6) (-1) rfl k_iconstv_m1 ?_
    cases h
    exact g_iret0 C R tb_X12_undo_0_ok (i := 7) rfl
def f_X12_then (y : Lay) (a0 : Nat) (a1 : Int32) (a2 : Int32) (M : Mem) : Option (Int32 × Mem) := gK y a0 (0, 12) (lt (wI M a0 4 (0 : Int32)) fun (M2 : Mem) => cp (f_X12_isCell y a0 a1 M2) fun (r3 : Int32) => br (r3 = 0) (c0 (f_X12_fail y a0 (1 : Int32) M2) fun (r21 : Int32) (M22 : Mem) => some (r21, M22)) (cp (f_X12_isIn y (a2.toInt64) (0 : Int64) (40 : Int64) M2) fun (r6 : Int32) => br (r6 = 0) (c0 (f_X12_fail y a0 (2 : Int32) M2) fun (r19 : Int32) (M20 : Mem) => some (r19, M20)) (gN (y.2.1 a0 42) (c0 (f_X12_pack y a0 (y.2.1 a0 42) (0 : Int32) M2) fun (r10 : Int32) (M11 : Mem) => c0 (f_X12_goOn y a0 a2 M11) fun (r12 : Int32) (M13 : Mem) => gN (y.2.1 a0 28) (gA y (y.2.1 a0 28) 1 a1 (lt (M13.1 (y.2.1 a0 28) a1.toNatClampNeg) fun (v16 : Int32) => c0 (f_X12_unpack y a0 (y.2.1 a0 42) (0 : Int32) M13) fun (r17 : Int32) (M18 : Mem) => some (v16, M18)))))))
theorem w_X12_then {g : GX} {l : Launch} (hG : GF g l) (y : Lay) (a0 : Nat) (a1 : Int32) (a2 : Int32) (M : Mem) : C0 g l yX12_then cX12_then 4 (some .int) 9 y [.ref a0, .int a1, .int a2] M (f_X12_then y a0 a1 a2 M) := by
  refine C0_of hG (by decide) [some (.ref a0), some (.int a1), some (.int a2), none] rfl rfl (fun out h x Q C R => ?_)
  unfold f_X12_then at h
  refine g_aload_n C tb_X12_then_0_ok (i := 0) rfl rfl ?_
  refine g_iconstv C tb_X12_then_0_ok (i := 1) 0 rfl k_iconstv_0 ?_
  obtain ⟨k1, h⟩ := gK_e h
  refine g_putI C tb_X12_then_0_ok (i := 2) rfl fl_X12_150 ft_12_4 rfl k1 ?_
  refine g_mem (fun M2 eM2 => ?_)
  have h := lt_e eM2 h
  refine g_aload_n C tb_X12_then_0_ok (i := 3) rfl rfl ?_
  refine g_iload_n C tb_X12_then_0_ok (i := 4) rfl rfl ?_
  obtain ⟨r3, er3, h⟩ := cp_e h
  refine g_callV0 C tb_X12_then_0_ok (i := 5) [.int a1] rfl mw_X12_isCell mv_X12_isCell ml_X12_408 k1 rfl rfl rfl rfl (w_X12_isCell C.G y a0 a1 M2) (pm_s er3) rfl rfl rfl ?_
  obtain ⟨t4, f5⟩ := br_e h
  refine g_if_ne C tb_X12_then_0_ok (i := 6) 19 rfl rfl (fun c => ?_) (fun c => ?_)
  · have h := f5 c
    refine g_iload_n C tb_X12_then_0_ok (i := 11) rfl rfl ?_
    refine g_i2l C tb_X12_then_0_ok (i := 12) rfl ?_
    refine g_lconst C tb_X12_then_0_ok (i := 13) 0 rfl rfl ?_
    refine g_ldc2 C tb_X12_then_0_ok (i := 14) rfl cl_X12_443 ?_
    obtain ⟨r6, er6, h⟩ := cp_e h
    refine g_callS0 C tb_X12_then_0_ok (i := 15) [.long (a2.toInt64), .long (0 : Int64), .long (40 : Int64)] rfl mw_X12_isIn mst_X12_isIn ml_X12_157 rfl rfl rfl rfl (w_X12_isIn C.G y (a2.toInt64) (0 : Int64) (40 : Int64) M2) (pm_s er6) rfl rfl rfl ?_
    obtain ⟨t7, f8⟩ := br_e h
    refine g_if_ne C tb_X12_then_0_ok (i := 16) 37 rfl rfl (fun c => ?_) (fun c => ?_)
    · have h := f8 c
      refine g_aload_n C tb_X12_then_0_ok (i := 21) rfl rfl ?_
      refine g_aload_n C tb_X12_then_0_ok (i := 22) rfl rfl ?_
      obtain ⟨n9, h⟩ := gN_e h
      refine g_getR C tb_X12_then_0_ok (i := 23) rfl fl_X12_92 rfl k1 n9 ?_
      refine g_iconstv C tb_X12_then_0_ok (i := 24) 0 rfl k_iconstv_0 ?_
      obtain ⟨r10, M11, er10, h⟩ := c0_e h
      refine g_callV0 C tb_X12_then_0_ok (i := 25) [.ref (y.2.1 a0 42), .int (0 : Int32)] rfl mw_X12_pack mv_X12_pack ml_X12_420 k1 rfl rfl rfl rfl (w_X12_pack C.G y a0 (y.2.1 a0 42) (0 : Int32) M2) er10 rfl rfl rfl ?_
      refine g_aload_n C tb_X12_then_0_ok (i := 26) rfl rfl ?_
      refine g_iload_n C tb_X12_then_0_ok (i := 27) rfl rfl ?_
      obtain ⟨r12, M13, er12, h⟩ := c0_e h
      refine g_callV0 C tb_X12_then_0_ok (i := 28) [.int a2] rfl mw_X12_goOn mv_X12_goOn ml_X12_432 k1 rfl rfl rfl rfl (w_X12_goOn C.G y a0 a2 M11) er12 rfl rfl rfl ?_
      refine g_aload_n C tb_X12_then_0_ok (i := 29) rfl rfl ?_
      obtain ⟨n14, h⟩ := gN_e h
      refine g_getR C tb_X12_then_0_ok (i := 30) rfl fl_X12_75 rfl k1 n14 ?_
      refine g_iload_n C tb_X12_then_0_ok (i := 31) rfl rfl ?_
      obtain ⟨b15, h⟩ := gA_e h
      refine g_iald C tb_X12_then_0_ok (i := 32) rfl b15 ?_
      refine g_topi (fun v16 ev16 => ?_)
      have h := lt_e ev16 h
      refine g_istore_n C tb_X12_then_0_ok (i := 33) rfl rfl rfl ?_
      refine g_aload_n C tb_X12_then_0_ok (i := 34) rfl rfl ?_
      refine g_aload_n C tb_X12_then_0_ok (i := 35) rfl rfl ?_
      refine g_getR C tb_X12_then_0_ok (i := 36) rfl fl_X12_92 rfl k1 n9 ?_
      refine g_iconstv C tb_X12_then_0_ok (i := 37) 0 rfl k_iconstv_0 ?_
      obtain ⟨r17, M18, er17, h⟩ := c0_e h
      refine g_callV0 C tb_X12_then_0_ok (i := 38) [.ref (y.2.1 a0 42), .int (0 : Int32)] rfl mw_X12_unpack mv_X12_unpack ml_X12_440 k1 rfl rfl rfl rfl (w_X12_unpack C.G y a0 (y.2.1 a0 42) (0 : Int32) M13) er17 rfl rfl rfl ?_
      refine g_iload_n C tb_X12_then_0_ok (i := 39) rfl rfl ?_
      cases h
      exact g_iret0 C R tb_X12_then_1_ok (i := 0) rfl
    · have h := t7 c
      refine g_aload_n C tb_X12_then_0_ok (i := 17) rfl rfl ?_
      refine g_iconstv C tb_X12_then_0_ok (i := 18) 2 rfl k_iconstv_2 ?_
      obtain ⟨r19, M20, er19, h⟩ := c0_e h
      refine g_callV0 C tb_X12_then_0_ok (i := 19) [.int (2 : Int32)] rfl mw_X12_fail mv_X12_fail ml_X12_318 k1 rfl rfl rfl rfl (w_X12_fail C.G y a0 (2 : Int32) M2) er19 rfl rfl rfl ?_
      cases h
      exact g_iret0 C R tb_X12_then_0_ok (i := 20) rfl
  · have h := t4 c
    refine g_aload_n C tb_X12_then_0_ok (i := 7) rfl rfl ?_
    refine g_iconstv C tb_X12_then_0_ok (i := 8) 1 rfl k_iconstv_1 ?_
    obtain ⟨r21, M22, er21, h⟩ := c0_e h
    refine g_callV0 C tb_X12_then_0_ok (i := 9) [.int (1 : Int32)] rfl mw_X12_fail mv_X12_fail ml_X12_318 k1 rfl rfl rfl rfl (w_X12_fail C.G y a0 (1 : Int32) M2) er21 rfl rfl rfl ?_
    cases h
    exact g_iret0 C R tb_X12_then_0_ok (i := 10) rfl
def f_X12_extreme (y : Lay) (a0 : Nat) (a1 : Int32) (M : Mem) : Option Int32 := lt ((-1) : Int32) fun (v1 : Int32) => fixN (fun _ _ => none) (fun (s4 : Int32 → Int32 → Option Int32) (v2 : Int32) (v3 : Int32) => gK y a0 (0, 12) (cp (f_X12_cells y a0 M) fun (r7 : Int32) => br (r7 ≤ v3) (some v2) (cp (f_X12_isOf y (M.1 a0 34) v3 M) fun (r10 : Int32) => jn (fun (v11 : Int32) => lt (v3 + (1 : Int32)) fun (v13 : Int32) => s4 v11 v13) fun j12 => br (r10 = 0) (jn (fun (_u : Unit) => j12 v3) fun j16 => br (v2 = ((-1) : Int32)) (j16 ()) (br (a1 = 0) (gN (y.2.1 a0 28) (gA y (y.2.1 a0 28) 1 v3 (gA y (y.2.1 a0 28) 1 v2 (br ((M.1 (y.2.1 a0 28) v2.toNatClampNeg) ≤ (M.1 (y.2.1 a0 28) v3.toNatClampNeg)) (j12 v2) (j16 ()))))) (gN (y.2.1 a0 28) (gA y (y.2.1 a0 28) 1 v3 (gA y (y.2.1 a0 28) 1 v2 (br ((M.1 (y.2.1 a0 28) v3.toNatClampNeg) ≤ (M.1 (y.2.1 a0 28) v2.toNatClampNeg)) (j12 v2) (j16 ()))))))) (j12 v2)))) FUEL v1 (0 : Int32)
theorem w_X12_extreme {g : GX} {l : Launch} (hG : GF g l) (y : Lay) (a0 : Nat) (a1 : Int32) (M : Mem) : C0 g l yX12_extreme cX12_extreme 4 (some .int) 1 y [.ref a0, .int a1] M (pm M (f_X12_extreme y a0 a1 M)) := by
  refine CP_of hG (by decide) [some (.ref a0), some (.int a1), none, none] rfl rfl (fun out h x Q C R => ?_)
  unfold f_X12_extreme at h
  refine g_iconstv C tb_X12_extreme_0_ok (i := 0) (-1) rfl k_iconstv_m1 ?_
  refine g_topi (fun v1 ev1 => ?_)
  have h := lt_e ev1 h
  refine g_istore_n C tb_X12_extreme_0_ok (i := 1) rfl rfl rfl ?_
  refine g_iconstv C tb_X12_extreme_0_ok (i := 2) 0 rfl k_iconstv_0 ?_
  refine g_istore_n C tb_X12_extreme_0_ok (i := 3) rfl rfl rfl ?_
  refine g_less (L' := [some (.ref a0), some (.int a1), some (.int v1), some (.int (0 : Int32))]) ⟨rfl, ⟨rfl, ⟨rfl, ⟨rfl, trivial⟩⟩⟩⟩ ?_
  refine fix_i (P := fun (f : Int32 → Int32 → Option Int32) => ∀ (v2 : Int32) (v3 : Int32), f v2 v3 = some out → GG g x 4 Q 0 0 y M 4 [some (.ref a0), some (.int a1), some (.int v2), some (.int v3)] []) ?_ ?_ _ v1 (0 : Int32) h
  · intro v2 v3 h; exact (nn_e h).elim
  · intro s4 ih5 v2 v3 h
    refine g_iload_n C tb_X12_extreme_0_ok (i := 4) rfl rfl ?_
    refine g_aload_n C tb_X12_extreme_0_ok (i := 5) rfl rfl ?_
    obtain ⟨k6, h⟩ := gK_e h
    obtain ⟨r7, er7, h⟩ := cp_e h
    refine g_callV0 C tb_X12_extreme_0_ok (i := 6) [] rfl mw_X12_cells mv_X12_cells ml_X12_153 k6 rfl rfl rfl rfl (w_X12_cells C.G y a0 M) (pm_s er7) rfl rfl rfl ?_
    obtain ⟨t8, f9⟩ := br_e h
    refine g_icmp_ge C tb_X12_extreme_0_ok (i := 7) 76 rfl rfl (fun c => ?_) (fun c => ?_)
    · have h := t8 c
      refine g_iload_n C tb_X12_extreme_1_ok (i := 2) rfl rfl ?_
      cases h
      exact g_iret0 C R tb_X12_extreme_1_ok (i := 3) rfl
    · have h := f9 c
      refine g_aload_n C tb_X12_extreme_0_ok (i := 8) rfl rfl ?_
      refine g_getI C tb_X12_extreme_0_ok (i := 9) rfl fl_X12_336 rfl k6 ?_
      refine g_iload_n C tb_X12_extreme_0_ok (i := 10) rfl rfl ?_
      obtain ⟨r10, er10, h⟩ := cp_e h
      refine g_callS0 C tb_X12_extreme_0_ok (i := 11) [.int (M.1 a0 34), .int v3] rfl mw_X12_isOf mst_X12_isOf ml_X12_232 rfl rfl rfl rfl (w_X12_isOf C.G y (M.1 a0 34) v3 M) (pm_s er10) rfl rfl rfl ?_
      obtain ⟨j12, ej12, h⟩ := jn_e h
      have J70 : ∀ (v11 : Int32), j12 v11 = some out → GG g x 4 Q 0 0 y M 70 [some (.ref a0), some (.int a1), some (.int v11), some (.int v3)] [] := by
        intro v11 h; subst ej12
        obtain ⟨v13, ev13⟩ : ∃ w : Int32, w = v3 + (1 : Int32) := ⟨_, rfl⟩
        have h := lt_e ev13 h
        refine g_iincv C tb_X12_extreme_1_ok (i := 0) (1 : Int32) ev13 rfl rfl k_iconstv_1 rfl rfl ?_
        refine g_goto C tb_X12_extreme_1_ok (i := 1) 4 rfl rfl ?_
        exact g_less (L' := [some (.ref a0), some (.int a1), some (.int v11), some (.int v13)]) ⟨rfl, ⟨rfl, ⟨rfl, ⟨rfl, trivial⟩⟩⟩⟩ (ih5 v11 v13 h)
      obtain ⟨t14, f15⟩ := br_e h
      refine g_if_eq C tb_X12_extreme_0_ok (i := 12) 26 rfl rfl (fun c => ?_) (fun c => ?_)
      · have h := t14 c
        refine g_iload_n C tb_X12_extreme_0_ok (i := 14) rfl rfl ?_
        refine g_iconstv C tb_X12_extreme_0_ok (i := 15) (-1) rfl k_iconstv_m1 ?_
        obtain ⟨j16, ej16, h⟩ := jn_e h
        have J68 : ∀ (_u : Unit), j16 _u = some out → GG g x 4 Q 0 0 y M 68 [some (.ref a0), some (.int a1), none, some (.int v3)] [] := by
          intro _u h; subst ej16
          refine g_iload_n C tb_X12_extreme_0_ok (i := 38) rfl rfl ?_
          refine g_istore_n C tb_X12_extreme_0_ok (i := 39) rfl rfl rfl ?_
          exact g_less (L' := [some (.ref a0), some (.int a1), some (.int v3), some (.int v3)]) ⟨rfl, ⟨rfl, ⟨rfl, ⟨rfl, trivial⟩⟩⟩⟩ (J70 v3 h)
        obtain ⟨t17, f18⟩ := br_e h
        refine g_icmp_eq C tb_X12_extreme_0_ok (i := 16) 68 rfl rfl (fun c => ?_) (fun c => ?_)
        · have h := t17 c
          exact g_less (L' := [some (.ref a0), some (.int a1), none, some (.int v3)]) ⟨rfl, ⟨rfl, ⟨rfl, trivial⟩⟩⟩ (J68 () h)
        · have h := f18 c
          refine g_iload_n C tb_X12_extreme_0_ok (i := 17) rfl rfl ?_
          obtain ⟨t19, f20⟩ := br_e h
          refine g_if_eq C tb_X12_extreme_0_ok (i := 18) 53 rfl rfl (fun c => ?_) (fun c => ?_)
          · have h := t19 c
            refine g_aload_n C tb_X12_extreme_0_ok (i := 29) rfl rfl ?_
            obtain ⟨n21, h⟩ := gN_e h
            refine g_getR C tb_X12_extreme_0_ok (i := 30) rfl fl_X12_75 rfl k6 n21 ?_
            refine g_iload_n C tb_X12_extreme_0_ok (i := 31) rfl rfl ?_
            obtain ⟨b22, h⟩ := gA_e h
            refine g_iald C tb_X12_extreme_0_ok (i := 32) rfl b22 ?_
            refine g_aload_n C tb_X12_extreme_0_ok (i := 33) rfl rfl ?_
            refine g_getR C tb_X12_extreme_0_ok (i := 34) rfl fl_X12_75 rfl k6 n21 ?_
            refine g_iload_n C tb_X12_extreme_0_ok (i := 35) rfl rfl ?_
            obtain ⟨b23, h⟩ := gA_e h
            refine g_iald C tb_X12_extreme_0_ok (i := 36) rfl b23 ?_
            obtain ⟨t24, f25⟩ := br_e h
            refine g_icmp_ge C tb_X12_extreme_0_ok (i := 37) 70 rfl rfl (fun c => ?_) (fun c => ?_)
            · have h := t24 c
              exact g_less (L' := [some (.ref a0), some (.int a1), some (.int v2), some (.int v3)]) ⟨rfl, ⟨rfl, ⟨rfl, ⟨rfl, trivial⟩⟩⟩⟩ (J70 v2 h)
            · have h := f25 c
              exact g_less (L' := [some (.ref a0), some (.int a1), none, some (.int v3)]) ⟨rfl, ⟨rfl, ⟨rfl, trivial⟩⟩⟩ (J68 () h)
          · have h := f20 c
            refine g_aload_n C tb_X12_extreme_0_ok (i := 19) rfl rfl ?_
            obtain ⟨n26, h⟩ := gN_e h
            refine g_getR C tb_X12_extreme_0_ok (i := 20) rfl fl_X12_75 rfl k6 n26 ?_
            refine g_iload_n C tb_X12_extreme_0_ok (i := 21) rfl rfl ?_
            obtain ⟨b27, h⟩ := gA_e h
            refine g_iald C tb_X12_extreme_0_ok (i := 22) rfl b27 ?_
            refine g_aload_n C tb_X12_extreme_0_ok (i := 23) rfl rfl ?_
            refine g_getR C tb_X12_extreme_0_ok (i := 24) rfl fl_X12_75 rfl k6 n26 ?_
            refine g_iload_n C tb_X12_extreme_0_ok (i := 25) rfl rfl ?_
            obtain ⟨b28, h⟩ := gA_e h
            refine g_iald C tb_X12_extreme_0_ok (i := 26) rfl b28 ?_
            obtain ⟨t29, f30⟩ := br_e h
            refine g_icmp_le C tb_X12_extreme_0_ok (i := 27) 70 rfl rfl (fun c => ?_) (fun c => ?_)
            · have h := t29 c
              exact g_less (L' := [some (.ref a0), some (.int a1), some (.int v2), some (.int v3)]) ⟨rfl, ⟨rfl, ⟨rfl, ⟨rfl, trivial⟩⟩⟩⟩ (J70 v2 h)
            · have h := f30 c
              refine g_goto C tb_X12_extreme_0_ok (i := 28) 68 rfl rfl ?_
              exact g_less (L' := [some (.ref a0), some (.int a1), none, some (.int v3)]) ⟨rfl, ⟨rfl, ⟨rfl, trivial⟩⟩⟩ (J68 () h)
      · have h := f15 c
        refine g_goto C tb_X12_extreme_0_ok (i := 13) 70 rfl rfl ?_
        exact g_less (L' := [some (.ref a0), some (.int a1), some (.int v2), some (.int v3)]) ⟨rfl, ⟨rfl, ⟨rfl, ⟨rfl, trivial⟩⟩⟩⟩ (J70 v2 h)
def f_X12_uneven (y : Lay) (a0 : Nat) (M : Mem) : Option Int32 := gK y a0 (0, 12) (cp (f_X12_extreme y a0 (1 : Int32) M) fun (r2 : Int32) => jn (fun (v3 : Int32) => some v3) fun j4 => br (r2 = ((-1) : Int32)) (j4 ((-1) : Int32)) (gN (y.2.1 a0 28) (cp (f_X12_extreme y a0 (1 : Int32) M) fun (r8 : Int32) => gA y (y.2.1 a0 28) 1 r8 (cp (f_X12_extreme y a0 (0 : Int32) M) fun (r10 : Int32) => gA y (y.2.1 a0 28) 1 r10 (j4 ((M.1 (y.2.1 a0 28) r8.toNatClampNeg) - (M.1 (y.2.1 a0 28) r10.toNatClampNeg)))))))
theorem w_X12_uneven {g : GX} {l : Launch} (hG : GF g l) (y : Lay) (a0 : Nat) (M : Mem) : C0 g l yX12_uneven cX12_uneven 1 (some .int) 2 y [.ref a0] M (pm M (f_X12_uneven y a0 M)) := by
  refine CP_of hG (by decide) [some (.ref a0)] rfl rfl (fun out h x Q C R => ?_)
  unfold f_X12_uneven at h
  refine g_aload_n C tb_X12_uneven_0_ok (i := 0) rfl rfl ?_
  refine g_iconstv C tb_X12_uneven_0_ok (i := 1) 1 rfl k_iconstv_1 ?_
  obtain ⟨k1, h⟩ := gK_e h
  obtain ⟨r2, er2, h⟩ := cp_e h
  refine g_callV0 C tb_X12_uneven_0_ok (i := 2) [.int (1 : Int32)] rfl mw_X12_extreme mv_X12_extreme ml_X12_445 k1 rfl rfl rfl rfl (w_X12_extreme C.G y a0 (1 : Int32) M) (pm_s er2) rfl rfl rfl ?_
  refine g_iconstv C tb_X12_uneven_0_ok (i := 3) (-1) rfl k_iconstv_m1 ?_
  obtain ⟨j4, ej4, h⟩ := jn_e h
  have J34 : ∀ (v3 : Int32), j4 v3 = some out → GG g x 1 Q 0 0 y M 34 [none] [.int v3] := by
    intro v3 h; subst ej4
    cases h
    exact g_iret0 C R tb_X12_uneven_0_ok (i := 20) rfl
  obtain ⟨t5, f6⟩ := br_e h
  refine g_icmp_ne C tb_X12_uneven_0_ok (i := 4) 13 rfl rfl (fun c => ?_) (fun c => ?_)
  · have h := f6 c
    refine g_aload_n C tb_X12_uneven_0_ok (i := 7) rfl rfl ?_
    obtain ⟨n7, h⟩ := gN_e h
    refine g_getR C tb_X12_uneven_0_ok (i := 8) rfl fl_X12_75 rfl k1 n7 ?_
    refine g_aload_n C tb_X12_uneven_0_ok (i := 9) rfl rfl ?_
    refine g_iconstv C tb_X12_uneven_0_ok (i := 10) 1 rfl k_iconstv_1 ?_
    obtain ⟨r8, er8, h⟩ := cp_e h
    refine g_callV0 C tb_X12_uneven_0_ok (i := 11) [.int (1 : Int32)] rfl mw_X12_extreme mv_X12_extreme ml_X12_445 k1 rfl rfl rfl rfl (w_X12_extreme C.G y a0 (1 : Int32) M) (pm_s er8) rfl rfl rfl ?_
    obtain ⟨b9, h⟩ := gA_e h
    refine g_iald C tb_X12_uneven_0_ok (i := 12) rfl b9 ?_
    refine g_aload_n C tb_X12_uneven_0_ok (i := 13) rfl rfl ?_
    refine g_getR C tb_X12_uneven_0_ok (i := 14) rfl fl_X12_75 rfl k1 n7 ?_
    refine g_aload_n C tb_X12_uneven_0_ok (i := 15) rfl rfl ?_
    refine g_iconstv C tb_X12_uneven_0_ok (i := 16) 0 rfl k_iconstv_0 ?_
    obtain ⟨r10, er10, h⟩ := cp_e h
    refine g_callV0 C tb_X12_uneven_0_ok (i := 17) [.int (0 : Int32)] rfl mw_X12_extreme mv_X12_extreme ml_X12_445 k1 rfl rfl rfl rfl (w_X12_extreme C.G y a0 (0 : Int32) M) (pm_s er10) rfl rfl rfl ?_
    obtain ⟨b11, h⟩ := gA_e h
    refine g_iald C tb_X12_uneven_0_ok (i := 18) rfl b11 ?_
    refine g_isub C tb_X12_uneven_0_ok (i := 19) rfl ?_
    exact g_less (L' := [none]) trivial (J34 ((M.1 (y.2.1 a0 28) r8.toNatClampNeg) - (M.1 (y.2.1 a0 28) r10.toNatClampNeg)) h)
  · have h := t5 c
    refine g_iconstv C tb_X12_uneven_0_ok (i := 5) (-1) rfl k_iconstv_m1 ?_
    refine g_goto C tb_X12_uneven_0_ok (i := 6) 34 rfl rfl ?_
    exact g_less (L' := [none]) trivial (J34 ((-1) : Int32) h)
def f_X12_sky (y : Lay) (a0 : Nat) (a1 : Int32) (a2 : Int32) (M : Mem) : Option (Int32 × Mem) := gK y a0 (0, 12) (lt (wI M a0 4 (0 : Int32)) fun (M2 : Mem) => cp (f_X12_isIn y (a2.toInt64) (0 : Int64) (4 : Int64) M2) fun (r3 : Int32) => br (r3 = 0) (c0 (f_X12_fail y a0 (1 : Int32) M2) fun (r32 : Int32) (M33 : Mem) => some (r32, M33)) (cp (f_X12_isIn y (a1.toInt64) (0 : Int64) (40 : Int64) M2) fun (r6 : Int32) => br (r6 = 0) (c0 (f_X12_fail y a0 (2 : Int32) M2) fun (r30 : Int32) (M31 : Mem) => some (r30, M31)) (gN (y.2.1 a0 42) (c0 (f_X12_pack y a0 (y.2.1 a0 42) (0 : Int32) M2) fun (r10 : Int32) (M11 : Mem) => c0 (f_X12_goOn y a0 a1 M11) fun (r12 : Int32) (M13 : Mem) => jn (fun (v14 : Int32) => c0 (f_X12_unpack y a0 (y.2.1 a0 42) (0 : Int32) M13) fun (r16 : Int32) (M17 : Mem) => some (v14, M17)) fun j15 => br (a2 = 0) (j15 (M13.1 a0 32)) (br (a2 = (1 : Int32)) (j15 (M13.1 a0 33)) (br (a2 = (2 : Int32)) (cp (f_X12_uneven y a0 M13) fun (r29 : Int32) => j15 r29) (jn (fun (v24 : Int32) => cp (f_X12_extreme y a0 v24 M13) fun (r26 : Int32) => j15 r26) fun j25 => br (a2 = (3 : Int32)) (j25 (1 : Int32)) (j25 (0 : Int32)))))))))
theorem w_X12_sky {g : GX} {l : Launch} (hG : GF g l) (y : Lay) (a0 : Nat) (a1 : Int32) (a2 : Int32) (M : Mem) : C0 g l yX12_sky cX12_sky 4 (some .int) 9 y [.ref a0, .int a1, .int a2] M (f_X12_sky y a0 a1 a2 M) := by
  refine C0_of hG (by decide) [some (.ref a0), some (.int a1), some (.int a2), none] rfl rfl (fun out h x Q C R => ?_)
  unfold f_X12_sky at h
  refine g_aload_n C tb_X12_sky_0_ok (i := 0) rfl rfl ?_
  refine g_iconstv C tb_X12_sky_0_ok (i := 1) 0 rfl k_iconstv_0 ?_
  obtain ⟨k1, h⟩ := gK_e h
  refine g_putI C tb_X12_sky_0_ok (i := 2) rfl fl_X12_150 ft_12_4 rfl k1 ?_
  refine g_mem (fun M2 eM2 => ?_)
  have h := lt_e eM2 h
  refine g_iload_n C tb_X12_sky_0_ok (i := 3) rfl rfl ?_
  refine g_i2l C tb_X12_sky_0_ok (i := 4) rfl ?_
  refine g_lconst C tb_X12_sky_0_ok (i := 5) 0 rfl rfl ?_
  refine g_ldc2 C tb_X12_sky_0_ok (i := 6) rfl cl_X12_449 ?_
  obtain ⟨r3, er3, h⟩ := cp_e h
  refine g_callS0 C tb_X12_sky_0_ok (i := 7) [.long (a2.toInt64), .long (0 : Int64), .long (4 : Int64)] rfl mw_X12_isIn mst_X12_isIn ml_X12_157 rfl rfl rfl rfl (w_X12_isIn C.G y (a2.toInt64) (0 : Int64) (4 : Int64) M2) (pm_s er3) rfl rfl rfl ?_
  obtain ⟨t4, f5⟩ := br_e h
  refine g_if_ne C tb_X12_sky_0_ok (i := 8) 23 rfl rfl (fun c => ?_) (fun c => ?_)
  · have h := f5 c
    refine g_iload_n C tb_X12_sky_0_ok (i := 13) rfl rfl ?_
    refine g_i2l C tb_X12_sky_0_ok (i := 14) rfl ?_
    refine g_lconst C tb_X12_sky_0_ok (i := 15) 0 rfl rfl ?_
    refine g_ldc2 C tb_X12_sky_0_ok (i := 16) rfl cl_X12_443 ?_
    obtain ⟨r6, er6, h⟩ := cp_e h
    refine g_callS0 C tb_X12_sky_0_ok (i := 17) [.long (a1.toInt64), .long (0 : Int64), .long (40 : Int64)] rfl mw_X12_isIn mst_X12_isIn ml_X12_157 rfl rfl rfl rfl (w_X12_isIn C.G y (a1.toInt64) (0 : Int64) (40 : Int64) M2) (pm_s er6) rfl rfl rfl ?_
    obtain ⟨t7, f8⟩ := br_e h
    refine g_if_ne C tb_X12_sky_0_ok (i := 18) 41 rfl rfl (fun c => ?_) (fun c => ?_)
    · have h := f8 c
      refine g_aload_n C tb_X12_sky_0_ok (i := 23) rfl rfl ?_
      refine g_aload_n C tb_X12_sky_0_ok (i := 24) rfl rfl ?_
      obtain ⟨n9, h⟩ := gN_e h
      refine g_getR C tb_X12_sky_0_ok (i := 25) rfl fl_X12_92 rfl k1 n9 ?_
      refine g_iconstv C tb_X12_sky_0_ok (i := 26) 0 rfl k_iconstv_0 ?_
      obtain ⟨r10, M11, er10, h⟩ := c0_e h
      refine g_callV0 C tb_X12_sky_0_ok (i := 27) [.ref (y.2.1 a0 42), .int (0 : Int32)] rfl mw_X12_pack mv_X12_pack ml_X12_420 k1 rfl rfl rfl rfl (w_X12_pack C.G y a0 (y.2.1 a0 42) (0 : Int32) M2) er10 rfl rfl rfl ?_
      refine g_aload_n C tb_X12_sky_0_ok (i := 28) rfl rfl ?_
      refine g_iload_n C tb_X12_sky_0_ok (i := 29) rfl rfl ?_
      obtain ⟨r12, M13, er12, h⟩ := c0_e h
      refine g_callV0 C tb_X12_sky_0_ok (i := 30) [.int a1] rfl mw_X12_goOn mv_X12_goOn ml_X12_432 k1 rfl rfl rfl rfl (w_X12_goOn C.G y a0 a1 M11) er12 rfl rfl rfl ?_
      refine g_iload_n C tb_X12_sky_0_ok (i := 31) rfl rfl ?_
      obtain ⟨j15, ej15, h⟩ := jn_e h
      have J104 : ∀ (v14 : Int32), j15 v14 = some out → GG g x 4 Q 0 0 y M13 104 [some (.ref a0), none, none, none] [.int v14] := by
        intro v14 h; subst ej15
        refine g_istore_n C tb_X12_sky_1_ok (i := 16) rfl rfl rfl ?_
        refine g_aload_n C tb_X12_sky_1_ok (i := 17) rfl rfl ?_
        refine g_aload_n C tb_X12_sky_1_ok (i := 18) rfl rfl ?_
        refine g_getR C tb_X12_sky_1_ok (i := 19) rfl fl_X12_92 rfl k1 n9 ?_
        refine g_iconstv C tb_X12_sky_1_ok (i := 20) 0 rfl k_iconstv_0 ?_
        obtain ⟨r16, M17, er16, h⟩ := c0_e h
        refine g_callV0 C tb_X12_sky_1_ok (i := 21) [.ref (y.2.1 a0 42), .int (0 : Int32)] rfl mw_X12_unpack mv_X12_unpack ml_X12_440 k1 rfl rfl rfl rfl (w_X12_unpack C.G y a0 (y.2.1 a0 42) (0 : Int32) M13) er16 rfl rfl rfl ?_
        refine g_iload_n C tb_X12_sky_1_ok (i := 22) rfl rfl ?_
        cases h
        exact g_iret0 C R tb_X12_sky_1_ok (i := 23) rfl
      obtain ⟨t18, f19⟩ := br_e h
      refine g_if_ne C tb_X12_sky_0_ok (i := 32) 66 rfl rfl (fun c => ?_) (fun c => ?_)
      · have h := f19 c
        refine g_iload_n C tb_X12_sky_0_ok (i := 36) rfl rfl ?_
        refine g_iconstv C tb_X12_sky_0_ok (i := 37) 1 rfl k_iconstv_1 ?_
        obtain ⟨t20, f21⟩ := br_e h
        refine g_icmp_ne C tb_X12_sky_0_ok (i := 38) 78 rfl rfl (fun c => ?_) (fun c => ?_)
        · have h := f21 c
          refine g_iload_n C tb_X12_sky_1_ok (i := 2) rfl rfl ?_
          refine g_iconstv C tb_X12_sky_1_ok (i := 3) 2 rfl k_iconstv_2 ?_
          obtain ⟨t22, f23⟩ := br_e h
          refine g_icmp_ne C tb_X12_sky_1_ok (i := 4) 90 rfl rfl (fun c => ?_) (fun c => ?_)
          · have h := f23 c
            refine g_aload_n C tb_X12_sky_1_ok (i := 8) rfl rfl ?_
            refine g_iload_n C tb_X12_sky_1_ok (i := 9) rfl rfl ?_
            refine g_iconstv C tb_X12_sky_1_ok (i := 10) 3 rfl k_iconstv_3 ?_
            obtain ⟨j25, ej25, h⟩ := jn_e h
            have J101 : ∀ (v24 : Int32), j25 v24 = some out → GG g x 4 Q 0 0 y M13 101 [some (.ref a0), none, none, none] [.int v24, .ref a0] := by
              intro v24 h; subst ej25
              obtain ⟨r26, er26, h⟩ := cp_e h
              refine g_callV0 C tb_X12_sky_1_ok (i := 15) [.int v24] rfl mw_X12_extreme mv_X12_extreme ml_X12_445 k1 rfl rfl rfl rfl (w_X12_extreme C.G y a0 v24 M13) (pm_s er26) rfl rfl rfl ?_
              exact g_less (L' := [some (.ref a0), none, none, none]) ⟨rfl, trivial⟩ (J104 r26 h)
            obtain ⟨t27, f28⟩ := br_e h
            refine g_icmp_ne C tb_X12_sky_1_ok (i := 11) 100 rfl rfl (fun c => ?_) (fun c => ?_)
            · have h := f28 c
              refine g_iconstv C tb_X12_sky_1_ok (i := 14) 0 rfl k_iconstv_0 ?_
              exact g_less (L' := [some (.ref a0), none, none, none]) ⟨rfl, trivial⟩ (J101 (0 : Int32) h)
            · have h := t27 c
              refine g_iconstv C tb_X12_sky_1_ok (i := 12) 1 rfl k_iconstv_1 ?_
              refine g_goto C tb_X12_sky_1_ok (i := 13) 101 rfl rfl ?_
              exact g_less (L' := [some (.ref a0), none, none, none]) ⟨rfl, trivial⟩ (J101 (1 : Int32) h)
          · have h := t22 c
            refine g_aload_n C tb_X12_sky_1_ok (i := 5) rfl rfl ?_
            obtain ⟨r29, er29, h⟩ := cp_e h
            refine g_callV0 C tb_X12_sky_1_ok (i := 6) [] rfl mw_X12_uneven mv_X12_uneven ml_X12_451 k1 rfl rfl rfl rfl (w_X12_uneven C.G y a0 M13) (pm_s er29) rfl rfl rfl ?_
            refine g_goto C tb_X12_sky_1_ok (i := 7) 104 rfl rfl ?_
            exact g_less (L' := [some (.ref a0), none, none, none]) ⟨rfl, trivial⟩ (J104 r29 h)
        · have h := t20 c
          refine g_aload_n C tb_X12_sky_0_ok (i := 39) rfl rfl ?_
          refine g_getI C tb_X12_sky_1_ok (i := 0) rfl fl_X12_333 rfl k1 ?_
          refine g_goto C tb_X12_sky_1_ok (i := 1) 104 rfl rfl ?_
          exact g_less (L' := [some (.ref a0), none, none, none]) ⟨rfl, trivial⟩ (J104 (M13.1 a0 33) h)
      · have h := t18 c
        refine g_aload_n C tb_X12_sky_0_ok (i := 33) rfl rfl ?_
        refine g_getI C tb_X12_sky_0_ok (i := 34) rfl fl_X12_147 rfl k1 ?_
        refine g_goto C tb_X12_sky_0_ok (i := 35) 104 rfl rfl ?_
        exact g_less (L' := [some (.ref a0), none, none, none]) ⟨rfl, trivial⟩ (J104 (M13.1 a0 32) h)
    · have h := t7 c
      refine g_aload_n C tb_X12_sky_0_ok (i := 19) rfl rfl ?_
      refine g_iconstv C tb_X12_sky_0_ok (i := 20) 2 rfl k_iconstv_2 ?_
      obtain ⟨r30, M31, er30, h⟩ := c0_e h
      refine g_callV0 C tb_X12_sky_0_ok (i := 21) [.int (2 : Int32)] rfl mw_X12_fail mv_X12_fail ml_X12_318 k1 rfl rfl rfl rfl (w_X12_fail C.G y a0 (2 : Int32) M2) er30 rfl rfl rfl ?_
      cases h
      exact g_iret0 C R tb_X12_sky_0_ok (i := 22) rfl
  · have h := t4 c
    refine g_aload_n C tb_X12_sky_0_ok (i := 9) rfl rfl ?_
    refine g_iconstv C tb_X12_sky_0_ok (i := 10) 1 rfl k_iconstv_1 ?_
    obtain ⟨r32, M33, er32, h⟩ := c0_e h
    refine g_callV0 C tb_X12_sky_0_ok (i := 11) [.int (1 : Int32)] rfl mw_X12_fail mv_X12_fail ml_X12_318 k1 rfl rfl rfl rfl (w_X12_fail C.G y a0 (1 : Int32) M2) er32 rfl rfl rfl ?_
    cases h
    exact g_iret0 C R tb_X12_sky_0_ok (i := 12) rfl
def f_X12_overdone (y : Lay) (a0 : Nat) (a1 : Int32) (M : Mem) : Option (Int32 × Mem) := gK y a0 (0, 12) (lt (wI M a0 4 (0 : Int32)) fun (M2 : Mem) => cp (f_X12_isIn y (a1.toInt64) (1 : Int64) (40 : Int64) M2) fun (r3 : Int32) => br (r3 = 0) (c0 (f_X12_fail y a0 (1 : Int32) M2) fun (r13 : Int32) (M14 : Mem) => some (r13, M14)) (gN (y.2.1 a0 42) (c0 (f_X12_pack y a0 (y.2.1 a0 42) (0 : Int32) M2) fun (r7 : Int32) (M8 : Mem) => c0 (f_X12_goOn y a0 a1 M8) fun (r9 : Int32) (M10 : Mem) => c0 (f_X12_unpack y a0 (y.2.1 a0 42) (0 : Int32) M10) fun (r11 : Int32) (M12 : Mem) => some ((M12.1 a0 41), M12))))
theorem w_X12_overdone {g : GX} {l : Launch} (hG : GF g l) (y : Lay) (a0 : Nat) (a1 : Int32) (M : Mem) : C0 g l yX12_overdone cX12_overdone 2 (some .int) 9 y [.ref a0, .int a1] M (f_X12_overdone y a0 a1 M) := by
  refine C0_of hG (by decide) [some (.ref a0), some (.int a1)] rfl rfl (fun out h x Q C R => ?_)
  unfold f_X12_overdone at h
  refine g_aload_n C tb_X12_overdone_0_ok (i := 0) rfl rfl ?_
  refine g_iconstv C tb_X12_overdone_0_ok (i := 1) 0 rfl k_iconstv_0 ?_
  obtain ⟨k1, h⟩ := gK_e h
  refine g_putI C tb_X12_overdone_0_ok (i := 2) rfl fl_X12_150 ft_12_4 rfl k1 ?_
  refine g_mem (fun M2 eM2 => ?_)
  have h := lt_e eM2 h
  refine g_iload_n C tb_X12_overdone_0_ok (i := 3) rfl rfl ?_
  refine g_i2l C tb_X12_overdone_0_ok (i := 4) rfl ?_
  refine g_lconst C tb_X12_overdone_0_ok (i := 5) 1 rfl rfl ?_
  refine g_ldc2 C tb_X12_overdone_0_ok (i := 6) rfl cl_X12_443 ?_
  obtain ⟨r3, er3, h⟩ := cp_e h
  refine g_callS0 C tb_X12_overdone_0_ok (i := 7) [.long (a1.toInt64), .long (1 : Int64), .long (40 : Int64)] rfl mw_X12_isIn mst_X12_isIn ml_X12_157 rfl rfl rfl rfl (w_X12_isIn C.G y (a1.toInt64) (1 : Int64) (40 : Int64) M2) (pm_s er3) rfl rfl rfl ?_
  obtain ⟨t4, f5⟩ := br_e h
  refine g_if_ne C tb_X12_overdone_0_ok (i := 8) 23 rfl rfl (fun c => ?_) (fun c => ?_)
  · have h := f5 c
    refine g_aload_n C tb_X12_overdone_0_ok (i := 13) rfl rfl ?_
    refine g_aload_n C tb_X12_overdone_0_ok (i := 14) rfl rfl ?_
    obtain ⟨n6, h⟩ := gN_e h
    refine g_getR C tb_X12_overdone_0_ok (i := 15) rfl fl_X12_92 rfl k1 n6 ?_
    refine g_iconstv C tb_X12_overdone_0_ok (i := 16) 0 rfl k_iconstv_0 ?_
    obtain ⟨r7, M8, er7, h⟩ := c0_e h
    refine g_callV0 C tb_X12_overdone_0_ok (i := 17) [.ref (y.2.1 a0 42), .int (0 : Int32)] rfl mw_X12_pack mv_X12_pack ml_X12_420 k1 rfl rfl rfl rfl (w_X12_pack C.G y a0 (y.2.1 a0 42) (0 : Int32) M2) er7 rfl rfl rfl ?_
    refine g_aload_n C tb_X12_overdone_0_ok (i := 18) rfl rfl ?_
    refine g_iload_n C tb_X12_overdone_0_ok (i := 19) rfl rfl ?_
    obtain ⟨r9, M10, er9, h⟩ := c0_e h
    refine g_callV0 C tb_X12_overdone_0_ok (i := 20) [.int a1] rfl mw_X12_goOn mv_X12_goOn ml_X12_432 k1 rfl rfl rfl rfl (w_X12_goOn C.G y a0 a1 M8) er9 rfl rfl rfl ?_
    refine g_aload_n C tb_X12_overdone_0_ok (i := 21) rfl rfl ?_
    refine g_aload_n C tb_X12_overdone_0_ok (i := 22) rfl rfl ?_
    refine g_getR C tb_X12_overdone_0_ok (i := 23) rfl fl_X12_92 rfl k1 n6 ?_
    refine g_iconstv C tb_X12_overdone_0_ok (i := 24) 0 rfl k_iconstv_0 ?_
    obtain ⟨r11, M12, er11, h⟩ := c0_e h
    refine g_callV0 C tb_X12_overdone_0_ok (i := 25) [.ref (y.2.1 a0 42), .int (0 : Int32)] rfl mw_X12_unpack mv_X12_unpack ml_X12_440 k1 rfl rfl rfl rfl (w_X12_unpack C.G y a0 (y.2.1 a0 42) (0 : Int32) M10) er11 rfl rfl rfl ?_
    refine g_aload_n C tb_X12_overdone_0_ok (i := 26) rfl rfl ?_
    refine g_getI C tb_X12_overdone_0_ok (i := 27) rfl fl_X12_393 rfl k1 ?_
    cases h
    exact g_iret0 C R tb_X12_overdone_0_ok (i := 28) rfl
  · have h := t4 c
    refine g_aload_n C tb_X12_overdone_0_ok (i := 9) rfl rfl ?_
    refine g_iconstv C tb_X12_overdone_0_ok (i := 10) 1 rfl k_iconstv_1 ?_
    obtain ⟨r13, M14, er13, h⟩ := c0_e h
    refine g_callV0 C tb_X12_overdone_0_ok (i := 11) [.int (1 : Int32)] rfl mw_X12_fail mv_X12_fail ml_X12_318 k1 rfl rfl rfl rfl (w_X12_fail C.G y a0 (1 : Int32) M2) er13 rfl rfl rfl ?_
    cases h
    exact g_iret0 C R tb_X12_overdone_0_ok (i := 12) rfl
def f_X12_first (y : Lay) (a0 : Nat) (a1 : Int32) (M : Mem) : Option (Int32 × Mem) := gK y a0 (0, 12) (lt (wI M a0 4 (0 : Int32)) fun (M2 : Mem) => cp (f_X12_isCell y a0 a1 M2) fun (r3 : Int32) => br (r3 = 0) (c0 (f_X12_fail y a0 (1 : Int32) M2) fun (r30 : Int32) (M31 : Mem) => some (r30, M31)) (gN (y.2.1 a0 42) (c0 (f_X12_pack y a0 (y.2.1 a0 42) (0 : Int32) M2) fun (r7 : Int32) (M8 : Mem) => lt ((-1) : Int32) fun (v9 : Int32) => fixN (fun _ _ _ => none) (fun (s13 : Int32 → Int32 → Mem → Option (Int32 × Mem)) (v10 : Int32) (v11 : Int32) (M12 : Mem) => jn (fun (_u : Unit) => c0 (f_X12_unpack y a0 (y.2.1 a0 42) (0 : Int32) M12) fun (r16 : Int32) (M17 : Mem) => some (v10, M17)) fun j15 => br ((40 : Int32) < v11) (j15 ()) (br (v10 = ((-1) : Int32)) (c0 (f_X12_aDay y a0 M12) fun (r22 : Int32) (M23 : Mem) => cp (f_X12_isOf y (M23.1 a0 41) a1 M23) fun (r24 : Int32) => jn (fun (v25 : Int32) => lt (v11 + (1 : Int32)) fun (v27 : Int32) => s13 v25 v27 M23) fun j26 => br (r24 = 0) (j26 v10) (j26 v11)) (j15 ()))) FUEL v9 (1 : Int32) M8)))
theorem w_X12_first {g : GX} {l : Launch} (hG : GF g l) (y : Lay) (a0 : Nat) (a1 : Int32) (M : Mem) : C0 g l yX12_first cX12_first 4 (some .int) 8 y [.ref a0, .int a1] M (f_X12_first y a0 a1 M) := by
  refine C0_of hG (by decide) [some (.ref a0), some (.int a1), none, none] rfl rfl (fun out h x Q C R => ?_)
  unfold f_X12_first at h
  refine g_aload_n C tb_X12_first_0_ok (i := 0) rfl rfl ?_
  refine g_iconstv C tb_X12_first_0_ok (i := 1) 0 rfl k_iconstv_0 ?_
  obtain ⟨k1, h⟩ := gK_e h
  refine g_putI C tb_X12_first_0_ok (i := 2) rfl fl_X12_150 ft_12_4 rfl k1 ?_
  refine g_mem (fun M2 eM2 => ?_)
  have h := lt_e eM2 h
  refine g_aload_n C tb_X12_first_0_ok (i := 3) rfl rfl ?_
  refine g_iload_n C tb_X12_first_0_ok (i := 4) rfl rfl ?_
  obtain ⟨r3, er3, h⟩ := cp_e h
  refine g_callV0 C tb_X12_first_0_ok (i := 5) [.int a1] rfl mw_X12_isCell mv_X12_isCell ml_X12_408 k1 rfl rfl rfl rfl (w_X12_isCell C.G y a0 a1 M2) (pm_s er3) rfl rfl rfl ?_
  obtain ⟨t4, f5⟩ := br_e h
  refine g_if_ne C tb_X12_first_0_ok (i := 6) 19 rfl rfl (fun c => ?_) (fun c => ?_)
  · have h := f5 c
    refine g_aload_n C tb_X12_first_0_ok (i := 11) rfl rfl ?_
    refine g_aload_n C tb_X12_first_0_ok (i := 12) rfl rfl ?_
    obtain ⟨n6, h⟩ := gN_e h
    refine g_getR C tb_X12_first_0_ok (i := 13) rfl fl_X12_92 rfl k1 n6 ?_
    refine g_iconstv C tb_X12_first_0_ok (i := 14) 0 rfl k_iconstv_0 ?_
    obtain ⟨r7, M8, er7, h⟩ := c0_e h
    refine g_callV0 C tb_X12_first_0_ok (i := 15) [.ref (y.2.1 a0 42), .int (0 : Int32)] rfl mw_X12_pack mv_X12_pack ml_X12_420 k1 rfl rfl rfl rfl (w_X12_pack C.G y a0 (y.2.1 a0 42) (0 : Int32) M2) er7 rfl rfl rfl ?_
    refine g_iconstv C tb_X12_first_0_ok (i := 16) (-1) rfl k_iconstv_m1 ?_
    refine g_topi (fun v9 ev9 => ?_)
    have h := lt_e ev9 h
    refine g_istore_n C tb_X12_first_0_ok (i := 17) rfl rfl rfl ?_
    refine g_iconstv C tb_X12_first_0_ok (i := 18) 1 rfl k_iconstv_1 ?_
    refine g_istore_n C tb_X12_first_0_ok (i := 19) rfl rfl rfl ?_
    refine g_less (L' := [some (.ref a0), some (.int a1), some (.int v9), some (.int (1 : Int32))]) ⟨rfl, ⟨rfl, ⟨rfl, ⟨rfl, trivial⟩⟩⟩⟩ ?_
    refine fix_i (P := fun (f : Int32 → Int32 → Mem → Option (Int32 × Mem)) => ∀ (v10 : Int32) (v11 : Int32) (M12 : Mem), f v10 v11 M12 = some out → GG g x 4 Q 0 0 y M12 32 [some (.ref a0), some (.int a1), some (.int v10), some (.int v11)] []) ?_ ?_ _ v9 (1 : Int32) M8 h
    · intro v10 v11 M12 h; exact (nn_e h).elim
    · intro s13 ih14 v10 v11 M12 h
      refine g_iload_n C tb_X12_first_0_ok (i := 20) rfl rfl ?_
      refine g_bipushv C tb_X12_first_0_ok (i := 21) 40 rfl k_bipushv_40 ?_
      obtain ⟨j15, ej15, h⟩ := jn_e h
      have J66 : ∀ (_u : Unit), j15 _u = some out → GG g x 4 Q 0 0 y M12 66 [some (.ref a0), none, some (.int v10), none] [] := by
        intro _u h; subst ej15
        refine g_aload_n C tb_X12_first_0_ok (i := 37) rfl rfl ?_
        refine g_aload_n C tb_X12_first_0_ok (i := 38) rfl rfl ?_
        refine g_getR C tb_X12_first_0_ok (i := 39) rfl fl_X12_92 rfl k1 n6 ?_
        refine g_iconstv C tb_X12_first_1_ok (i := 0) 0 rfl k_iconstv_0 ?_
        obtain ⟨r16, M17, er16, h⟩ := c0_e h
        refine g_callV0 C tb_X12_first_1_ok (i := 1) [.ref (y.2.1 a0 42), .int (0 : Int32)] rfl mw_X12_unpack mv_X12_unpack ml_X12_440 k1 rfl rfl rfl rfl (w_X12_unpack C.G y a0 (y.2.1 a0 42) (0 : Int32) M12) er16 rfl rfl rfl ?_
        refine g_iload_n C tb_X12_first_1_ok (i := 2) rfl rfl ?_
        cases h
        exact g_iret0 C R tb_X12_first_1_ok (i := 3) rfl
      obtain ⟨t18, f19⟩ := br_e h
      refine g_icmp_gt C tb_X12_first_0_ok (i := 22) 66 rfl rfl (fun c => ?_) (fun c => ?_)
      · have h := t18 c
        exact g_less (L' := [some (.ref a0), none, some (.int v10), none]) ⟨rfl, ⟨rfl, trivial⟩⟩ (J66 () h)
      · have h := f19 c
        refine g_iload_n C tb_X12_first_0_ok (i := 23) rfl rfl ?_
        refine g_iconstv C tb_X12_first_0_ok (i := 24) (-1) rfl k_iconstv_m1 ?_
        obtain ⟨t20, f21⟩ := br_e h
        refine g_icmp_ne C tb_X12_first_0_ok (i := 25) 66 rfl rfl (fun c => ?_) (fun c => ?_)
        · have h := f21 c
          exact g_less (L' := [some (.ref a0), none, some (.int v10), none]) ⟨rfl, ⟨rfl, trivial⟩⟩ (J66 () h)
        · have h := t20 c
          refine g_aload_n C tb_X12_first_0_ok (i := 26) rfl rfl ?_
          obtain ⟨r22, M23, er22, h⟩ := c0_e h
          refine g_callV0 C tb_X12_first_0_ok (i := 27) [] rfl mw_X12_aDay mv_X12_aDay ml_X12_402 k1 rfl rfl rfl rfl (w_X12_aDay C.G y a0 M12) er22 rfl rfl rfl ?_
          refine g_aload_n C tb_X12_first_0_ok (i := 28) rfl rfl ?_
          refine g_getI C tb_X12_first_0_ok (i := 29) rfl fl_X12_393 rfl k1 ?_
          refine g_iload_n C tb_X12_first_0_ok (i := 30) rfl rfl ?_
          obtain ⟨r24, er24, h⟩ := cp_e h
          refine g_callS0 C tb_X12_first_0_ok (i := 31) [.int (M23.1 a0 41), .int a1] rfl mw_X12_isOf mst_X12_isOf ml_X12_232 rfl rfl rfl rfl (w_X12_isOf C.G y (M23.1 a0 41) a1 M23) (pm_s er24) rfl rfl rfl ?_
          obtain ⟨j26, ej26, h⟩ := jn_e h
          have J60 : ∀ (v25 : Int32), j26 v25 = some out → GG g x 4 Q 0 0 y M23 60 [some (.ref a0), some (.int a1), some (.int v25), some (.int v11)] [] := by
            intro v25 h; subst ej26
            obtain ⟨v27, ev27⟩ : ∃ w : Int32, w = v11 + (1 : Int32) := ⟨_, rfl⟩
            have h := lt_e ev27 h
            refine g_iincv C tb_X12_first_0_ok (i := 35) (1 : Int32) ev27 rfl rfl k_iconstv_1 rfl rfl ?_
            refine g_goto C tb_X12_first_0_ok (i := 36) 32 rfl rfl ?_
            exact g_less (L' := [some (.ref a0), some (.int a1), some (.int v25), some (.int v27)]) ⟨rfl, ⟨rfl, ⟨rfl, ⟨rfl, trivial⟩⟩⟩⟩ (ih14 v25 v27 M23 h)
          obtain ⟨t28, f29⟩ := br_e h
          refine g_if_eq C tb_X12_first_0_ok (i := 32) 60 rfl rfl (fun c => ?_) (fun c => ?_)
          · have h := t28 c
            exact g_less (L' := [some (.ref a0), some (.int a1), some (.int v10), some (.int v11)]) ⟨rfl, ⟨rfl, ⟨rfl, ⟨rfl, trivial⟩⟩⟩⟩ (J60 v10 h)
          · have h := f29 c
            refine g_iload_n C tb_X12_first_0_ok (i := 33) rfl rfl ?_
            refine g_istore_n C tb_X12_first_0_ok (i := 34) rfl rfl rfl ?_
            exact g_less (L' := [some (.ref a0), some (.int a1), some (.int v11), some (.int v11)]) ⟨rfl, ⟨rfl, ⟨rfl, ⟨rfl, trivial⟩⟩⟩⟩ (J60 v11 h)
  · have h := t4 c
    refine g_aload_n C tb_X12_first_0_ok (i := 7) rfl rfl ?_
    refine g_iconstv C tb_X12_first_0_ok (i := 8) 1 rfl k_iconstv_1 ?_
    obtain ⟨r30, M31, er30, h⟩ := c0_e h
    refine g_callV0 C tb_X12_first_0_ok (i := 9) [.int (1 : Int32)] rfl mw_X12_fail mv_X12_fail ml_X12_318 k1 rfl rfl rfl rfl (w_X12_fail C.G y a0 (1 : Int32) M2) er30 rfl rfl rfl ?_
    cases h
    exact g_iret0 C R tb_X12_first_0_ok (i := 10) rfl
def f_X12_spent (y : Lay) (a0 : Nat) (M : Mem) : Option (Int32 × Mem) := gK y a0 (0, 12) (lt (wI M a0 4 (0 : Int32)) fun (M2 : Mem) => gN (y.2.1 a0 42) (c0 (f_X12_pack y a0 (y.2.1 a0 42) (0 : Int32) M2) fun (r4 : Int32) (M5 : Mem) => lt ((-1) : Int32) fun (v6 : Int32) => fixN (fun _ _ _ => none) (fun (s10 : Int32 → Int32 → Mem → Option (Int32 × Mem)) (v7 : Int32) (v8 : Int32) (M9 : Mem) => jn (fun (_u : Unit) => c0 (f_X12_unpack y a0 (y.2.1 a0 42) (0 : Int32) M9) fun (r13 : Int32) (M14 : Mem) => some (v7, M14)) fun j12 => br ((40 : Int32) < v8) (j12 ()) (br (v7 = ((-1) : Int32)) (jn (fun (v19 : Int32) => c0 (f_X12_aDay y a0 M9) fun (r21 : Int32) (M22 : Mem) => lt (v8 + (1 : Int32)) fun (v23 : Int32) => s10 v19 v23 M22) fun j20 => br ((M9.1 a0 32) = 0) (j20 v8) (j20 v7)) (j12 ()))) FUEL v6 (0 : Int32) M5))
theorem w_X12_spent {g : GX} {l : Launch} (hG : GF g l) (y : Lay) (a0 : Nat) (M : Mem) : C0 g l yX12_spent cX12_spent 3 (some .int) 8 y [.ref a0] M (f_X12_spent y a0 M) := by
  refine C0_of hG (by decide) [some (.ref a0), none, none] rfl rfl (fun out h x Q C R => ?_)
  unfold f_X12_spent at h
  refine g_aload_n C tb_X12_spent_0_ok (i := 0) rfl rfl ?_
  refine g_iconstv C tb_X12_spent_0_ok (i := 1) 0 rfl k_iconstv_0 ?_
  obtain ⟨k1, h⟩ := gK_e h
  refine g_putI C tb_X12_spent_0_ok (i := 2) rfl fl_X12_150 ft_12_4 rfl k1 ?_
  refine g_mem (fun M2 eM2 => ?_)
  have h := lt_e eM2 h
  refine g_aload_n C tb_X12_spent_0_ok (i := 3) rfl rfl ?_
  refine g_aload_n C tb_X12_spent_0_ok (i := 4) rfl rfl ?_
  obtain ⟨n3, h⟩ := gN_e h
  refine g_getR C tb_X12_spent_0_ok (i := 5) rfl fl_X12_92 rfl k1 n3 ?_
  refine g_iconstv C tb_X12_spent_0_ok (i := 6) 0 rfl k_iconstv_0 ?_
  obtain ⟨r4, M5, er4, h⟩ := c0_e h
  refine g_callV0 C tb_X12_spent_0_ok (i := 7) [.ref (y.2.1 a0 42), .int (0 : Int32)] rfl mw_X12_pack mv_X12_pack ml_X12_420 k1 rfl rfl rfl rfl (w_X12_pack C.G y a0 (y.2.1 a0 42) (0 : Int32) M2) er4 rfl rfl rfl ?_
  refine g_iconstv C tb_X12_spent_0_ok (i := 8) (-1) rfl k_iconstv_m1 ?_
  refine g_topi (fun v6 ev6 => ?_)
  have h := lt_e ev6 h
  refine g_istore_n C tb_X12_spent_0_ok (i := 9) rfl rfl rfl ?_
  refine g_iconstv C tb_X12_spent_0_ok (i := 10) 0 rfl k_iconstv_0 ?_
  refine g_istore_n C tb_X12_spent_0_ok (i := 11) rfl rfl rfl ?_
  refine g_less (L' := [some (.ref a0), some (.int v6), some (.int (0 : Int32))]) ⟨rfl, ⟨rfl, ⟨rfl, trivial⟩⟩⟩ ?_
  refine fix_i (P := fun (f : Int32 → Int32 → Mem → Option (Int32 × Mem)) => ∀ (v7 : Int32) (v8 : Int32) (M9 : Mem), f v7 v8 M9 = some out → GG g x 3 Q 0 0 y M9 18 [some (.ref a0), some (.int v7), some (.int v8)] []) ?_ ?_ _ v6 (0 : Int32) M5 h
  · intro v7 v8 M9 h; exact (nn_e h).elim
  · intro s10 ih11 v7 v8 M9 h
    refine g_iload_n C tb_X12_spent_0_ok (i := 12) rfl rfl ?_
    refine g_bipushv C tb_X12_spent_0_ok (i := 13) 40 rfl k_bipushv_40 ?_
    obtain ⟨j12, ej12, h⟩ := jn_e h
    have J48 : ∀ (_u : Unit), j12 _u = some out → GG g x 3 Q 0 0 y M9 48 [some (.ref a0), some (.int v7), none] [] := by
      intro _u h; subst ej12
      refine g_aload_n C tb_X12_spent_0_ok (i := 27) rfl rfl ?_
      refine g_aload_n C tb_X12_spent_0_ok (i := 28) rfl rfl ?_
      refine g_getR C tb_X12_spent_0_ok (i := 29) rfl fl_X12_92 rfl k1 n3 ?_
      refine g_iconstv C tb_X12_spent_0_ok (i := 30) 0 rfl k_iconstv_0 ?_
      obtain ⟨r13, M14, er13, h⟩ := c0_e h
      refine g_callV0 C tb_X12_spent_0_ok (i := 31) [.ref (y.2.1 a0 42), .int (0 : Int32)] rfl mw_X12_unpack mv_X12_unpack ml_X12_440 k1 rfl rfl rfl rfl (w_X12_unpack C.G y a0 (y.2.1 a0 42) (0 : Int32) M9) er13 rfl rfl rfl ?_
      refine g_iload_n C tb_X12_spent_0_ok (i := 32) rfl rfl ?_
      cases h
      exact g_iret0 C R tb_X12_spent_0_ok (i := 33) rfl
    obtain ⟨t15, f16⟩ := br_e h
    refine g_icmp_gt C tb_X12_spent_0_ok (i := 14) 48 rfl rfl (fun c => ?_) (fun c => ?_)
    · have h := t15 c
      exact g_less (L' := [some (.ref a0), some (.int v7), none]) ⟨rfl, ⟨rfl, trivial⟩⟩ (J48 () h)
    · have h := f16 c
      refine g_iload_n C tb_X12_spent_0_ok (i := 15) rfl rfl ?_
      refine g_iconstv C tb_X12_spent_0_ok (i := 16) (-1) rfl k_iconstv_m1 ?_
      obtain ⟨t17, f18⟩ := br_e h
      refine g_icmp_ne C tb_X12_spent_0_ok (i := 17) 48 rfl rfl (fun c => ?_) (fun c => ?_)
      · have h := f18 c
        exact g_less (L' := [some (.ref a0), some (.int v7), none]) ⟨rfl, ⟨rfl, trivial⟩⟩ (J48 () h)
      · have h := t17 c
        refine g_aload_n C tb_X12_spent_0_ok (i := 18) rfl rfl ?_
        refine g_getI C tb_X12_spent_0_ok (i := 19) rfl fl_X12_147 rfl k1 ?_
        obtain ⟨j20, ej20, h⟩ := jn_e h
        have J38 : ∀ (v19 : Int32), j20 v19 = some out → GG g x 3 Q 0 0 y M9 38 [some (.ref a0), some (.int v19), some (.int v8)] [] := by
          intro v19 h; subst ej20
          refine g_aload_n C tb_X12_spent_0_ok (i := 23) rfl rfl ?_
          obtain ⟨r21, M22, er21, h⟩ := c0_e h
          refine g_callV0 C tb_X12_spent_0_ok (i := 24) [] rfl mw_X12_aDay mv_X12_aDay ml_X12_402 k1 rfl rfl rfl rfl (w_X12_aDay C.G y a0 M9) er21 rfl rfl rfl ?_
          obtain ⟨v23, ev23⟩ : ∃ w : Int32, w = v8 + (1 : Int32) := ⟨_, rfl⟩
          have h := lt_e ev23 h
          refine g_iincv C tb_X12_spent_0_ok (i := 25) (1 : Int32) ev23 rfl rfl k_iconstv_1 rfl rfl ?_
          refine g_goto C tb_X12_spent_0_ok (i := 26) 18 rfl rfl ?_
          exact g_less (L' := [some (.ref a0), some (.int v19), some (.int v23)]) ⟨rfl, ⟨rfl, ⟨rfl, trivial⟩⟩⟩ (ih11 v19 v23 M22 h)
        obtain ⟨t24, f25⟩ := br_e h
        refine g_if_ne C tb_X12_spent_0_ok (i := 20) 38 rfl rfl (fun c => ?_) (fun c => ?_)
        · have h := f25 c
          exact g_less (L' := [some (.ref a0), some (.int v7), some (.int v8)]) ⟨rfl, ⟨rfl, ⟨rfl, trivial⟩⟩⟩ (J38 v7 h)
        · have h := t24 c
          refine g_iload_n C tb_X12_spent_0_ok (i := 21) rfl rfl ?_
          refine g_istore_n C tb_X12_spent_0_ok (i := 22) rfl rfl rfl ?_
          exact g_less (L' := [some (.ref a0), some (.int v8), some (.int v8)]) ⟨rfl, ⟨rfl, ⟨rfl, trivial⟩⟩⟩ (J38 v8 h)
def f_X12_band (y : Lay) (a0 : Nat) (a1 : Int32) (M : Mem) : Option (Int32 × Mem) := gK y a0 (0, 12) (lt (wI M a0 4 (0 : Int32)) fun (M2 : Mem) => cp (f_X12_isIn y (a1.toInt64) (0 : Int64) (40 : Int64) M2) fun (r3 : Int32) => br (r3 = 0) (c0 (f_X12_fail y a0 (1 : Int32) M2) fun (r41 : Int32) (M42 : Mem) => some (r41, M42)) (gN (y.2.1 a0 42) (c0 (f_X12_pack y a0 (y.2.1 a0 42) (0 : Int32) M2) fun (r7 : Int32) (M8 : Mem) => c0 (f_X12_goOn y a0 a1 M8) fun (r9 : Int32) (M10 : Mem) => lt ((-1) : Int32) fun (v11 : Int32) => fixN (fun _ _ _ => none) (fun (s15 : Int32 → Int32 → Int32 → Option (Int32 × Mem)) (v12 : Int32) (v13 : Int32) (v14 : Int32) => gN (y.2.1 a0 5) (gA y (y.2.1 a0 5) 1 (1 : Int32) (br ((M10.1 (y.2.1 a0 5) (1 : Int32).toNatClampNeg) ≤ v14) (c0 (f_X12_unpack y a0 (y.2.1 a0 42) (0 : Int32) M10) fun (r21 : Int32) (M22 : Mem) => some (v12, M22)) (fixN (fun _ _ => none) (fun (s25 : Int32 → Int32 → Option (Int32 × Mem)) (v23 : Int32) (v24 : Int32) => gA y (y.2.1 a0 5) 1 (0 : Int32) (br ((M10.1 (y.2.1 a0 5) (0 : Int32).toNatClampNeg) ≤ v24) (jn (fun (v30 : Int32) (v31 : Int32) => lt (v14 + (1 : Int32)) fun (v33 : Int32) => s15 v30 v31 v33) fun j32 => br (v13 < v23) (j32 v14 v23) (j32 v12 v13)) (gN (y.2.1 a0 28) (gA y (y.2.1 a0 5) 1 (0 : Int32) (gA y (y.2.1 a0 28) 1 (((M10.1 (y.2.1 a0 5) (0 : Int32).toNatClampNeg) * v14) + v24) (lt (v23 + (M10.1 (y.2.1 a0 28) (((M10.1 (y.2.1 a0 5) (0 : Int32).toNatClampNeg) * v14) + v24).toNatClampNeg)) fun (v39 : Int32) => lt (v24 + (1 : Int32)) fun (v40 : Int32) => s25 v39 v40)))))) FUEL (0 : Int32) (0 : Int32))))) FUEL (0 : Int32) v11 (0 : Int32))))
theorem w_X12_band {g : GX} {l : Launch} (hG : GF g l) (y : Lay) (a0 : Nat) (a1 : Int32) (M : Mem) : C0 g l yX12_band cX12_band 7 (some .int) 9 y [.ref a0, .int a1] M (f_X12_band y a0 a1 M) := by
  refine C0_of hG (by decide) [some (.ref a0), some (.int a1), none, none, none, none, none] rfl rfl (fun out h x Q C R => ?_)
  unfold f_X12_band at h
  refine g_aload_n C tb_X12_band_0_ok (i := 0) rfl rfl ?_
  refine g_iconstv C tb_X12_band_0_ok (i := 1) 0 rfl k_iconstv_0 ?_
  obtain ⟨k1, h⟩ := gK_e h
  refine g_putI C tb_X12_band_0_ok (i := 2) rfl fl_X12_150 ft_12_4 rfl k1 ?_
  refine g_mem (fun M2 eM2 => ?_)
  have h := lt_e eM2 h
  refine g_iload_n C tb_X12_band_0_ok (i := 3) rfl rfl ?_
  refine g_i2l C tb_X12_band_0_ok (i := 4) rfl ?_
  refine g_lconst C tb_X12_band_0_ok (i := 5) 0 rfl rfl ?_
  refine g_ldc2 C tb_X12_band_0_ok (i := 6) rfl cl_X12_443 ?_
  obtain ⟨r3, er3, h⟩ := cp_e h
  refine g_callS0 C tb_X12_band_0_ok (i := 7) [.long (a1.toInt64), .long (0 : Int64), .long (40 : Int64)] rfl mw_X12_isIn mst_X12_isIn ml_X12_157 rfl rfl rfl rfl (w_X12_isIn C.G y (a1.toInt64) (0 : Int64) (40 : Int64) M2) (pm_s er3) rfl rfl rfl ?_
  obtain ⟨t4, f5⟩ := br_e h
  refine g_if_ne C tb_X12_band_0_ok (i := 8) 23 rfl rfl (fun c => ?_) (fun c => ?_)
  · have h := f5 c
    refine g_aload_n C tb_X12_band_0_ok (i := 13) rfl rfl ?_
    refine g_aload_n C tb_X12_band_0_ok (i := 14) rfl rfl ?_
    obtain ⟨n6, h⟩ := gN_e h
    refine g_getR C tb_X12_band_0_ok (i := 15) rfl fl_X12_92 rfl k1 n6 ?_
    refine g_iconstv C tb_X12_band_0_ok (i := 16) 0 rfl k_iconstv_0 ?_
    obtain ⟨r7, M8, er7, h⟩ := c0_e h
    refine g_callV0 C tb_X12_band_0_ok (i := 17) [.ref (y.2.1 a0 42), .int (0 : Int32)] rfl mw_X12_pack mv_X12_pack ml_X12_420 k1 rfl rfl rfl rfl (w_X12_pack C.G y a0 (y.2.1 a0 42) (0 : Int32) M2) er7 rfl rfl rfl ?_
    refine g_aload_n C tb_X12_band_0_ok (i := 18) rfl rfl ?_
    refine g_iload_n C tb_X12_band_0_ok (i := 19) rfl rfl ?_
    obtain ⟨r9, M10, er9, h⟩ := c0_e h
    refine g_callV0 C tb_X12_band_0_ok (i := 20) [.int a1] rfl mw_X12_goOn mv_X12_goOn ml_X12_432 k1 rfl rfl rfl rfl (w_X12_goOn C.G y a0 a1 M8) er9 rfl rfl rfl ?_
    refine g_iconstv C tb_X12_band_0_ok (i := 21) 0 rfl k_iconstv_0 ?_
    refine g_istore_n C tb_X12_band_0_ok (i := 22) rfl rfl rfl ?_
    refine g_iconstv C tb_X12_band_0_ok (i := 23) (-1) rfl k_iconstv_m1 ?_
    refine g_topi (fun v11 ev11 => ?_)
    have h := lt_e ev11 h
    refine g_istore_n C tb_X12_band_0_ok (i := 24) rfl rfl rfl ?_
    refine g_iconstv C tb_X12_band_0_ok (i := 25) 0 rfl k_iconstv_0 ?_
    refine g_istore C tb_X12_band_0_ok (i := 26) rfl rfl rfl ?_
    refine g_less (L' := [some (.ref a0), none, some (.int (0 : Int32)), some (.int v11), some (.int (0 : Int32)), none, none]) ⟨rfl, ⟨rfl, ⟨rfl, ⟨rfl, trivial⟩⟩⟩⟩ ?_
    refine fix_i (P := fun (f : Int32 → Int32 → Int32 → Option (Int32 × Mem)) => ∀ (v12 : Int32) (v13 : Int32) (v14 : Int32), f v12 v13 v14 = some out → GG g x 7 Q 0 0 y M10 44 [some (.ref a0), none, some (.int v12), some (.int v13), some (.int v14), none, none] []) ?_ ?_ _ (0 : Int32) v11 (0 : Int32) h
    · intro v12 v13 v14 h; exact (nn_e h).elim
    · intro s15 ih16 v12 v13 v14 h
      refine g_iload C tb_X12_band_0_ok (i := 27) rfl rfl ?_
      refine g_aload_n C tb_X12_band_0_ok (i := 28) rfl rfl ?_
      obtain ⟨n17, h⟩ := gN_e h
      refine g_getR C tb_X12_band_0_ok (i := 29) rfl fl_X12_40 rfl k1 n17 ?_
      refine g_iconstv C tb_X12_band_0_ok (i := 30) 1 rfl k_iconstv_1 ?_
      obtain ⟨b18, h⟩ := gA_e h
      refine g_iald C tb_X12_band_0_ok (i := 31) rfl b18 ?_
      obtain ⟨t19, f20⟩ := br_e h
      refine g_icmp_ge C tb_X12_band_0_ok (i := 32) 121 rfl rfl (fun c => ?_) (fun c => ?_)
      · have h := t19 c
        refine g_aload_n C tb_X12_band_1_ok (i := 29) rfl rfl ?_
        refine g_aload_n C tb_X12_band_1_ok (i := 30) rfl rfl ?_
        refine g_getR C tb_X12_band_1_ok (i := 31) rfl fl_X12_92 rfl k1 n6 ?_
        refine g_iconstv C tb_X12_band_1_ok (i := 32) 0 rfl k_iconstv_0 ?_
        obtain ⟨r21, M22, er21, h⟩ := c0_e h
        refine g_callV0 C tb_X12_band_1_ok (i := 33) [.ref (y.2.1 a0 42), .int (0 : Int32)] rfl mw_X12_unpack mv_X12_unpack ml_X12_440 k1 rfl rfl rfl rfl (w_X12_unpack C.G y a0 (y.2.1 a0 42) (0 : Int32) M10) er21 rfl rfl rfl ?_
        refine g_iload_n C tb_X12_band_1_ok (i := 34) rfl rfl ?_
        cases h
        exact g_iret0 C R tb_X12_band_1_ok (i := 35) rfl
      · have h := f20 c
        refine g_iconstv C tb_X12_band_0_ok (i := 33) 0 rfl k_iconstv_0 ?_
        refine g_istore C tb_X12_band_0_ok (i := 34) rfl rfl rfl ?_
        refine g_iconstv C tb_X12_band_0_ok (i := 35) 0 rfl k_iconstv_0 ?_
        refine g_istore C tb_X12_band_0_ok (i := 36) rfl rfl rfl ?_
        refine g_less (L' := [some (.ref a0), none, some (.int v12), some (.int v13), some (.int v14), some (.int (0 : Int32)), some (.int (0 : Int32))]) ⟨rfl, ⟨rfl, ⟨rfl, ⟨rfl, ⟨rfl, ⟨rfl, trivial⟩⟩⟩⟩⟩⟩ ?_
        refine fix_i (P := fun (f : Int32 → Int32 → Option (Int32 × Mem)) => ∀ (v23 : Int32) (v24 : Int32), f v23 v24 = some out → GG g x 7 Q 0 0 y M10 61 [some (.ref a0), none, some (.int v12), some (.int v13), some (.int v14), some (.int v23), some (.int v24)] []) ?_ ?_ _ (0 : Int32) (0 : Int32) h
        · intro v23 v24 h; exact (nn_e h).elim
        · intro s25 ih26 v23 v24 h
          refine g_iload C tb_X12_band_0_ok (i := 37) rfl rfl ?_
          refine g_aload_n C tb_X12_band_0_ok (i := 38) rfl rfl ?_
          refine g_getR C tb_X12_band_0_ok (i := 39) rfl fl_X12_40 rfl k1 n17 ?_
          refine g_iconstv C tb_X12_band_1_ok (i := 0) 0 rfl k_iconstv_0 ?_
          obtain ⟨b27, h⟩ := gA_e h
          refine g_iald C tb_X12_band_1_ok (i := 1) rfl b27 ?_
          obtain ⟨t28, f29⟩ := br_e h
          refine g_icmp_ge C tb_X12_band_1_ok (i := 2) 100 rfl rfl (fun c => ?_) (fun c => ?_)
          · have h := t28 c
            refine g_iload C tb_X12_band_1_ok (i := 19) rfl rfl ?_
            refine g_iload_n C tb_X12_band_1_ok (i := 20) rfl rfl ?_
            obtain ⟨j32, ej32, h⟩ := jn_e h
            have J115 : ∀ (v30 : Int32) (v31 : Int32), j32 v30 v31 = some out → GG g x 7 Q 0 0 y M10 115 [some (.ref a0), none, some (.int v30), some (.int v31), some (.int v14), none, none] [] := by
              intro v30 v31 h; subst ej32
              obtain ⟨v33, ev33⟩ : ∃ w : Int32, w = v14 + (1 : Int32) := ⟨_, rfl⟩
              have h := lt_e ev33 h
              refine g_iincv C tb_X12_band_1_ok (i := 27) (1 : Int32) ev33 rfl rfl k_iconstv_1 rfl rfl ?_
              refine g_goto C tb_X12_band_1_ok (i := 28) 44 rfl rfl ?_
              exact g_less (L' := [some (.ref a0), none, some (.int v30), some (.int v31), some (.int v33), none, none]) ⟨rfl, ⟨rfl, ⟨rfl, ⟨rfl, trivial⟩⟩⟩⟩ (ih16 v30 v31 v33 h)
            obtain ⟨t34, f35⟩ := br_e h
            refine g_icmp_gt C tb_X12_band_1_ok (i := 21) 109 rfl rfl (fun c => ?_) (fun c => ?_)
            · have h := t34 c
              refine g_iload C tb_X12_band_1_ok (i := 23) rfl rfl ?_
              refine g_istore_n C tb_X12_band_1_ok (i := 24) rfl rfl rfl ?_
              refine g_iload C tb_X12_band_1_ok (i := 25) rfl rfl ?_
              refine g_istore_n C tb_X12_band_1_ok (i := 26) rfl rfl rfl ?_
              exact g_less (L' := [some (.ref a0), none, some (.int v14), some (.int v23), some (.int v14), none, none]) ⟨rfl, ⟨rfl, ⟨rfl, ⟨rfl, trivial⟩⟩⟩⟩ (J115 v14 v23 h)
            · have h := f35 c
              refine g_goto C tb_X12_band_1_ok (i := 22) 115 rfl rfl ?_
              exact g_less (L' := [some (.ref a0), none, some (.int v12), some (.int v13), some (.int v14), none, none]) ⟨rfl, ⟨rfl, ⟨rfl, ⟨rfl, trivial⟩⟩⟩⟩ (J115 v12 v13 h)
          · have h := f29 c
            refine g_iload C tb_X12_band_1_ok (i := 3) rfl rfl ?_
            refine g_aload_n C tb_X12_band_1_ok (i := 4) rfl rfl ?_
            obtain ⟨n36, h⟩ := gN_e h
            refine g_getR C tb_X12_band_1_ok (i := 5) rfl fl_X12_75 rfl k1 n36 ?_
            refine g_aload_n C tb_X12_band_1_ok (i := 6) rfl rfl ?_
            refine g_getR C tb_X12_band_1_ok (i := 7) rfl fl_X12_40 rfl k1 n17 ?_
            refine g_iconstv C tb_X12_band_1_ok (i := 8) 0 rfl k_iconstv_0 ?_
            obtain ⟨b37, h⟩ := gA_e h
            refine g_iald C tb_X12_band_1_ok (i := 9) rfl b37 ?_
            refine g_iload C tb_X12_band_1_ok (i := 10) rfl rfl ?_
            refine g_imul C tb_X12_band_1_ok (i := 11) rfl ?_
            refine g_iload C tb_X12_band_1_ok (i := 12) rfl rfl ?_
            refine g_iadd C tb_X12_band_1_ok (i := 13) rfl ?_
            obtain ⟨b38, h⟩ := gA_e h
            refine g_iald C tb_X12_band_1_ok (i := 14) rfl b38 ?_
            refine g_iadd C tb_X12_band_1_ok (i := 15) rfl ?_
            refine g_topi (fun v39 ev39 => ?_)
            have h := lt_e ev39 h
            refine g_istore C tb_X12_band_1_ok (i := 16) rfl rfl rfl ?_
            obtain ⟨v40, ev40⟩ : ∃ w : Int32, w = v24 + (1 : Int32) := ⟨_, rfl⟩
            have h := lt_e ev40 h
            refine g_iincv C tb_X12_band_1_ok (i := 17) (1 : Int32) ev40 rfl rfl k_iconstv_1 rfl rfl ?_
            refine g_goto C tb_X12_band_1_ok (i := 18) 61 rfl rfl ?_
            exact g_less (L' := [some (.ref a0), none, some (.int v12), some (.int v13), some (.int v14), some (.int v39), some (.int v40)]) ⟨rfl, ⟨rfl, ⟨rfl, ⟨rfl, ⟨rfl, ⟨rfl, trivial⟩⟩⟩⟩⟩⟩ (ih26 v39 v40 h)
  · have h := t4 c
    refine g_aload_n C tb_X12_band_0_ok (i := 9) rfl rfl ?_
    refine g_iconstv C tb_X12_band_0_ok (i := 10) 1 rfl k_iconstv_1 ?_
    obtain ⟨r41, M42, er41, h⟩ := c0_e h
    refine g_callV0 C tb_X12_band_0_ok (i := 11) [.int (1 : Int32)] rfl mw_X12_fail mv_X12_fail ml_X12_318 k1 rfl rfl rfl rfl (w_X12_fail C.G y a0 (1 : Int32) M2) er41 rfl rfl rfl ?_
    cases h
    exact g_iret0 C R tb_X12_band_0_ok (i := 12) rfl
def f_X12_copyTo (y : Lay) (a0 : Nat) (a1 : Nat) (M : Mem) : Option (Int32 × Mem) := fixN (fun _ _ => none) (fun (s3 : Int32 → Mem → Option (Int32 × Mem)) (v1 : Int32) (M2 : Mem) => gT y a0 1 (br ((Int32.ofNat (kd y a0).2) ≤ v1) (some (0, M2)) (gA y a1 1 v1 (gA y a0 1 v1 (lt (wI M2 a0 v1.toNatClampNeg (M2.1 a1 v1.toNatClampNeg)) fun (M10 : Mem) => lt (v1 + (1 : Int32)) fun (v11 : Int32) => s3 v11 M10))))) FUEL (0 : Int32) M
theorem w_X12_copyTo {g : GX} {l : Launch} (hG : GF g l) (y : Lay) (a0 : Nat) (a1 : Nat) (M : Mem) : C0 g l yX12_copyTo cX12_copyTo 3 none 0 y [.ref a0, .ref a1] M (f_X12_copyTo y a0 a1 M) := by
  refine C0_of hG (by decide) [some (.ref a0), some (.ref a1), none] rfl rfl (fun out h x Q C R => ?_)
  unfold f_X12_copyTo at h
  refine g_iconstv C tb_X12_copyTo_0_ok (i := 0) 0 rfl k_iconstv_0 ?_
  refine g_istore_n C tb_X12_copyTo_0_ok (i := 1) rfl rfl rfl ?_
  refine g_less (L' := [some (.ref a0), some (.ref a1), some (.int (0 : Int32))]) ⟨rfl, ⟨rfl, ⟨rfl, trivial⟩⟩⟩ ?_
  refine fix_i (P := fun (f : Int32 → Mem → Option (Int32 × Mem)) => ∀ (v1 : Int32) (M2 : Mem), f v1 M2 = some out → GG g x 3 Q 0 0 y M2 2 [some (.ref a0), some (.ref a1), some (.int v1)] []) ?_ ?_ _ (0 : Int32) M h
  · intro v1 M2 h; exact (nn_e h).elim
  · intro s3 ih4 v1 M2 h
    refine g_iload_n C tb_X12_copyTo_0_ok (i := 2) rfl rfl ?_
    refine g_aload_n C tb_X12_copyTo_0_ok (i := 3) rfl rfl ?_
    obtain ⟨b5, h⟩ := gT_e h
    refine g_alen C tb_X12_copyTo_0_ok (i := 4) rfl b5 (by decide) ?_
    obtain ⟨t6, f7⟩ := br_e h
    refine g_icmp_ge C tb_X12_copyTo_0_ok (i := 5) 20 rfl rfl (fun c => ?_) (fun c => ?_)
    · have h := t6 c
      cases h
      exact g_vret0 C R tb_X12_copyTo_0_ok (i := 14) rfl
    · have h := f7 c
      refine g_aload_n C tb_X12_copyTo_0_ok (i := 6) rfl rfl ?_
      refine g_iload_n C tb_X12_copyTo_0_ok (i := 7) rfl rfl ?_
      refine g_aload_n C tb_X12_copyTo_0_ok (i := 8) rfl rfl ?_
      refine g_iload_n C tb_X12_copyTo_0_ok (i := 9) rfl rfl ?_
      obtain ⟨b8, h⟩ := gA_e h
      refine g_iald C tb_X12_copyTo_0_ok (i := 10) rfl b8 ?_
      obtain ⟨b9, h⟩ := gA_e h
      refine g_iast C tb_X12_copyTo_0_ok (i := 11) rfl b9 ?_
      refine g_mem (fun M10 eM10 => ?_)
      have h := lt_e eM10 h
      obtain ⟨v11, ev11⟩ : ∃ w : Int32, w = v1 + (1 : Int32) := ⟨_, rfl⟩
      have h := lt_e ev11 h
      refine g_iincv C tb_X12_copyTo_0_ok (i := 12) (1 : Int32) ev11 rfl rfl k_iconstv_1 rfl rfl ?_
      refine g_goto C tb_X12_copyTo_0_ok (i := 13) 2 rfl rfl ?_
      exact g_less (L' := [some (.ref a0), some (.ref a1), some (.int v11)]) ⟨rfl, ⟨rfl, ⟨rfl, trivial⟩⟩⟩ (ih4 v11 M10 h)
def f_X12_steady (y : Lay) (a0 : Nat) (M : Mem) : Option (Int32 × Mem) := gK y a0 (0, 12) (lt (wI M a0 4 (0 : Int32)) fun (M2 : Mem) => gN (y.2.1 a0 42) (c0 (f_X12_pack y a0 (y.2.1 a0 42) (0 : Int32) M2) fun (r4 : Int32) (M5 : Mem) => lt ((-1) : Int32) fun (v6 : Int32) => fixN (fun _ _ _ => none) (fun (s10 : Int32 → Int32 → Mem → Option (Int32 × Mem)) (v7 : Int32) (v8 : Int32) (M9 : Mem) => jn (fun (_u : Unit) => c0 (f_X12_unpack y a0 (y.2.1 a0 42) (0 : Int32) M9) fun (r13 : Int32) (M14 : Mem) => some (v7, M14)) fun j12 => br ((40 : Int32) < v8) (j12 ()) (br (v7 = ((-1) : Int32)) (gN (y.2.1 a0 43) (gN (y.2.1 a0 28) (c0 (f_X12_copyTo y (y.2.1 a0 43) (y.2.1 a0 28) M9) fun (r21 : Int32) (M22 : Mem) => c0 (f_X12_aDay y a0 M22) fun (r23 : Int32) (M24 : Mem) => fixN (fun _ _ => none) (fun (s27 : Int32 → Int32 → Option (Int32 × Mem)) (v25 : Int32) (v26 : Int32) => cp (f_X12_cells y a0 M24) fun (r29 : Int32) => br (r29 ≤ v26) (jn (fun (v32 : Int32) => lt (v8 + (1 : Int32)) fun (v34 : Int32) => s10 v32 v34 M24) fun j33 => br (v25 = 0) (j33 v7) (j33 v8)) (jn (fun (v37 : Int32) => lt (v26 + (1 : Int32)) fun (v39 : Int32) => s27 v37 v39) fun j38 => jn (fun (_u : Unit) => j38 (0 : Int32)) fun j40 => br (v25 = 0) (j40 ()) (gA y (y.2.1 a0 28) 1 v26 (gA y (y.2.1 a0 43) 1 v26 (br ((M24.1 (y.2.1 a0 28) v26.toNatClampNeg) = (M24.1 (y.2.1 a0 43) v26.toNatClampNeg)) (j38 (1 : Int32)) (j40 ())))))) FUEL (1 : Int32) (0 : Int32)))) (j12 ()))) FUEL v6 (1 : Int32) M5))
theorem w_X12_steady {g : GX} {l : Launch} (hG : GF g l) (y : Lay) (a0 : Nat) (M : Mem) : C0 g l yX12_steady cX12_steady 5 (some .int) 8 y [.ref a0] M (f_X12_steady y a0 M) := by
  refine C0_of hG (by decide) [some (.ref a0), none, none, none, none] rfl rfl (fun out h x Q C R => ?_)
  unfold f_X12_steady at h
  refine g_aload_n C tb_X12_steady_0_ok (i := 0) rfl rfl ?_
  refine g_iconstv C tb_X12_steady_0_ok (i := 1) 0 rfl k_iconstv_0 ?_
  obtain ⟨k1, h⟩ := gK_e h
  refine g_putI C tb_X12_steady_0_ok (i := 2) rfl fl_X12_150 ft_12_4 rfl k1 ?_
  refine g_mem (fun M2 eM2 => ?_)
  have h := lt_e eM2 h
  refine g_aload_n C tb_X12_steady_0_ok (i := 3) rfl rfl ?_
  refine g_aload_n C tb_X12_steady_0_ok (i := 4) rfl rfl ?_
  obtain ⟨n3, h⟩ := gN_e h
  refine g_getR C tb_X12_steady_0_ok (i := 5) rfl fl_X12_92 rfl k1 n3 ?_
  refine g_iconstv C tb_X12_steady_0_ok (i := 6) 0 rfl k_iconstv_0 ?_
  obtain ⟨r4, M5, er4, h⟩ := c0_e h
  refine g_callV0 C tb_X12_steady_0_ok (i := 7) [.ref (y.2.1 a0 42), .int (0 : Int32)] rfl mw_X12_pack mv_X12_pack ml_X12_420 k1 rfl rfl rfl rfl (w_X12_pack C.G y a0 (y.2.1 a0 42) (0 : Int32) M2) er4 rfl rfl rfl ?_
  refine g_iconstv C tb_X12_steady_0_ok (i := 8) (-1) rfl k_iconstv_m1 ?_
  refine g_topi (fun v6 ev6 => ?_)
  have h := lt_e ev6 h
  refine g_istore_n C tb_X12_steady_0_ok (i := 9) rfl rfl rfl ?_
  refine g_iconstv C tb_X12_steady_0_ok (i := 10) 1 rfl k_iconstv_1 ?_
  refine g_istore_n C tb_X12_steady_0_ok (i := 11) rfl rfl rfl ?_
  refine g_less (L' := [some (.ref a0), some (.int v6), some (.int (1 : Int32)), none, none]) ⟨rfl, ⟨rfl, ⟨rfl, trivial⟩⟩⟩ ?_
  refine fix_i (P := fun (f : Int32 → Int32 → Mem → Option (Int32 × Mem)) => ∀ (v7 : Int32) (v8 : Int32) (M9 : Mem), f v7 v8 M9 = some out → GG g x 5 Q 0 0 y M9 18 [some (.ref a0), some (.int v7), some (.int v8), none, none] []) ?_ ?_ _ v6 (1 : Int32) M5 h
  · intro v7 v8 M9 h; exact (nn_e h).elim
  · intro s10 ih11 v7 v8 M9 h
    refine g_iload_n C tb_X12_steady_0_ok (i := 12) rfl rfl ?_
    refine g_bipushv C tb_X12_steady_0_ok (i := 13) 40 rfl k_bipushv_40 ?_
    obtain ⟨j12, ej12, h⟩ := jn_e h
    have J103 : ∀ (_u : Unit), j12 _u = some out → GG g x 5 Q 0 0 y M9 103 [some (.ref a0), some (.int v7), none, none, none] [] := by
      intro _u h; subst ej12
      refine g_aload_n C tb_X12_steady_1_ok (i := 16) rfl rfl ?_
      refine g_aload_n C tb_X12_steady_1_ok (i := 17) rfl rfl ?_
      refine g_getR C tb_X12_steady_1_ok (i := 18) rfl fl_X12_92 rfl k1 n3 ?_
      refine g_iconstv C tb_X12_steady_1_ok (i := 19) 0 rfl k_iconstv_0 ?_
      obtain ⟨r13, M14, er13, h⟩ := c0_e h
      refine g_callV0 C tb_X12_steady_1_ok (i := 20) [.ref (y.2.1 a0 42), .int (0 : Int32)] rfl mw_X12_unpack mv_X12_unpack ml_X12_440 k1 rfl rfl rfl rfl (w_X12_unpack C.G y a0 (y.2.1 a0 42) (0 : Int32) M9) er13 rfl rfl rfl ?_
      refine g_iload_n C tb_X12_steady_1_ok (i := 21) rfl rfl ?_
      cases h
      exact g_iret0 C R tb_X12_steady_1_ok (i := 22) rfl
    obtain ⟨t15, f16⟩ := br_e h
    refine g_icmp_gt C tb_X12_steady_0_ok (i := 14) 103 rfl rfl (fun c => ?_) (fun c => ?_)
    · have h := t15 c
      exact g_less (L' := [some (.ref a0), some (.int v7), none, none, none]) ⟨rfl, ⟨rfl, trivial⟩⟩ (J103 () h)
    · have h := f16 c
      refine g_iload_n C tb_X12_steady_0_ok (i := 15) rfl rfl ?_
      refine g_iconstv C tb_X12_steady_0_ok (i := 16) (-1) rfl k_iconstv_m1 ?_
      obtain ⟨t17, f18⟩ := br_e h
      refine g_icmp_ne C tb_X12_steady_0_ok (i := 17) 103 rfl rfl (fun c => ?_) (fun c => ?_)
      · have h := f18 c
        exact g_less (L' := [some (.ref a0), some (.int v7), none, none, none]) ⟨rfl, ⟨rfl, trivial⟩⟩ (J103 () h)
      · have h := t17 c
        refine g_aload_n C tb_X12_steady_0_ok (i := 18) rfl rfl ?_
        obtain ⟨n19, h⟩ := gN_e h
        refine g_getR C tb_X12_steady_0_ok (i := 19) rfl fl_X12_95 rfl k1 n19 ?_
        refine g_aload_n C tb_X12_steady_0_ok (i := 20) rfl rfl ?_
        obtain ⟨n20, h⟩ := gN_e h
        refine g_getR C tb_X12_steady_0_ok (i := 21) rfl fl_X12_75 rfl k1 n20 ?_
        obtain ⟨r21, M22, er21, h⟩ := c0_e h
        refine g_callS0 C tb_X12_steady_0_ok (i := 22) [.ref (y.2.1 a0 43), .ref (y.2.1 a0 28)] rfl mw_X12_copyTo mst_X12_copyTo ml_X12_454 rfl rfl rfl rfl (w_X12_copyTo C.G y (y.2.1 a0 43) (y.2.1 a0 28) M9) er21 rfl rfl rfl ?_
        refine g_aload_n C tb_X12_steady_0_ok (i := 23) rfl rfl ?_
        obtain ⟨r23, M24, er23, h⟩ := c0_e h
        refine g_callV0 C tb_X12_steady_0_ok (i := 24) [] rfl mw_X12_aDay mv_X12_aDay ml_X12_402 k1 rfl rfl rfl rfl (w_X12_aDay C.G y a0 M22) er23 rfl rfl rfl ?_
        refine g_iconstv C tb_X12_steady_0_ok (i := 25) 1 rfl k_iconstv_1 ?_
        refine g_istore_n C tb_X12_steady_0_ok (i := 26) rfl rfl rfl ?_
        refine g_iconstv C tb_X12_steady_0_ok (i := 27) 0 rfl k_iconstv_0 ?_
        refine g_istore C tb_X12_steady_0_ok (i := 28) rfl rfl rfl ?_
        refine g_less (L' := [some (.ref a0), some (.int v7), some (.int v8), some (.int (1 : Int32)), some (.int (0 : Int32))]) ⟨rfl, ⟨rfl, ⟨rfl, ⟨rfl, ⟨rfl, trivial⟩⟩⟩⟩⟩ ?_
        refine fix_i (P := fun (f : Int32 → Int32 → Option (Int32 × Mem)) => ∀ (v25 : Int32) (v26 : Int32), f v25 v26 = some out → GG g x 5 Q 0 0 y M24 49 [some (.ref a0), some (.int v7), some (.int v8), some (.int v25), some (.int v26)] []) ?_ ?_ _ (1 : Int32) (0 : Int32) h
        · intro v25 v26 h; exact (nn_e h).elim
        · intro s27 ih28 v25 v26 h
          refine g_iload C tb_X12_steady_0_ok (i := 29) rfl rfl ?_
          refine g_aload_n C tb_X12_steady_0_ok (i := 30) rfl rfl ?_
          obtain ⟨r29, er29, h⟩ := cp_e h
          refine g_callV0 C tb_X12_steady_0_ok (i := 31) [] rfl mw_X12_cells mv_X12_cells ml_X12_153 k1 rfl rfl rfl rfl (w_X12_cells C.G y a0 M24) (pm_s er29) rfl rfl rfl ?_
          obtain ⟨t30, f31⟩ := br_e h
          refine g_icmp_ge C tb_X12_steady_0_ok (i := 32) 91 rfl rfl (fun c => ?_) (fun c => ?_)
          · have h := t30 c
            refine g_iload_n C tb_X12_steady_1_ok (i := 10) rfl rfl ?_
            obtain ⟨j33, ej33, h⟩ := jn_e h
            have J97 : ∀ (v32 : Int32), j33 v32 = some out → GG g x 5 Q 0 0 y M24 97 [some (.ref a0), some (.int v32), some (.int v8), none, none] [] := by
              intro v32 h; subst ej33
              obtain ⟨v34, ev34⟩ : ∃ w : Int32, w = v8 + (1 : Int32) := ⟨_, rfl⟩
              have h := lt_e ev34 h
              refine g_iincv C tb_X12_steady_1_ok (i := 14) (1 : Int32) ev34 rfl rfl k_iconstv_1 rfl rfl ?_
              refine g_goto C tb_X12_steady_1_ok (i := 15) 18 rfl rfl ?_
              exact g_less (L' := [some (.ref a0), some (.int v32), some (.int v34), none, none]) ⟨rfl, ⟨rfl, ⟨rfl, trivial⟩⟩⟩ (ih11 v32 v34 M24 h)
            obtain ⟨t35, f36⟩ := br_e h
            refine g_if_eq C tb_X12_steady_1_ok (i := 11) 97 rfl rfl (fun c => ?_) (fun c => ?_)
            · have h := t35 c
              exact g_less (L' := [some (.ref a0), some (.int v7), some (.int v8), none, none]) ⟨rfl, ⟨rfl, ⟨rfl, trivial⟩⟩⟩ (J97 v7 h)
            · have h := f36 c
              refine g_iload_n C tb_X12_steady_1_ok (i := 12) rfl rfl ?_
              refine g_istore_n C tb_X12_steady_1_ok (i := 13) rfl rfl rfl ?_
              exact g_less (L' := [some (.ref a0), some (.int v8), some (.int v8), none, none]) ⟨rfl, ⟨rfl, ⟨rfl, trivial⟩⟩⟩ (J97 v8 h)
          · have h := f31 c
            refine g_iload_n C tb_X12_steady_0_ok (i := 33) rfl rfl ?_
            obtain ⟨j38, ej38, h⟩ := jn_e h
            have J84 : ∀ (v37 : Int32), j38 v37 = some out → GG g x 5 Q 0 0 y M24 84 [some (.ref a0), some (.int v7), some (.int v8), none, some (.int v26)] [.int v37] := by
              intro v37 h; subst ej38
              refine g_istore_n C tb_X12_steady_1_ok (i := 7) rfl rfl rfl ?_
              obtain ⟨v39, ev39⟩ : ∃ w : Int32, w = v26 + (1 : Int32) := ⟨_, rfl⟩
              have h := lt_e ev39 h
              refine g_iincv C tb_X12_steady_1_ok (i := 8) (1 : Int32) ev39 rfl rfl k_iconstv_1 rfl rfl ?_
              refine g_goto C tb_X12_steady_1_ok (i := 9) 49 rfl rfl ?_
              exact g_less (L' := [some (.ref a0), some (.int v7), some (.int v8), some (.int v37), some (.int v39)]) ⟨rfl, ⟨rfl, ⟨rfl, ⟨rfl, ⟨rfl, trivial⟩⟩⟩⟩⟩ (ih28 v37 v39 h)
            obtain ⟨j40, ej40, h⟩ := jn_e h
            have J83 : ∀ (_u : Unit), j40 _u = some out → GG g x 5 Q 0 0 y M24 83 [some (.ref a0), some (.int v7), some (.int v8), none, some (.int v26)] [] := by
              intro _u h; subst ej40
              refine g_iconstv C tb_X12_steady_1_ok (i := 6) 0 rfl k_iconstv_0 ?_
              exact g_less (L' := [some (.ref a0), some (.int v7), some (.int v8), none, some (.int v26)]) ⟨rfl, ⟨rfl, ⟨rfl, ⟨rfl, trivial⟩⟩⟩⟩ (J84 (0 : Int32) h)
            obtain ⟨t41, f42⟩ := br_e h
            refine g_if_eq C tb_X12_steady_0_ok (i := 34) 83 rfl rfl (fun c => ?_) (fun c => ?_)
            · have h := t41 c
              exact g_less (L' := [some (.ref a0), some (.int v7), some (.int v8), none, some (.int v26)]) ⟨rfl, ⟨rfl, ⟨rfl, ⟨rfl, trivial⟩⟩⟩⟩ (J83 () h)
            · have h := f42 c
              refine g_aload_n C tb_X12_steady_0_ok (i := 35) rfl rfl ?_
              refine g_getR C tb_X12_steady_0_ok (i := 36) rfl fl_X12_75 rfl k1 n20 ?_
              refine g_iload C tb_X12_steady_0_ok (i := 37) rfl rfl ?_
              obtain ⟨b43, h⟩ := gA_e h
              refine g_iald C tb_X12_steady_0_ok (i := 38) rfl b43 ?_
              refine g_aload_n C tb_X12_steady_0_ok (i := 39) rfl rfl ?_
              refine g_getR C tb_X12_steady_1_ok (i := 0) rfl fl_X12_95 rfl k1 n19 ?_
              refine g_iload C tb_X12_steady_1_ok (i := 1) rfl rfl ?_
              obtain ⟨b44, h⟩ := gA_e h
              refine g_iald C tb_X12_steady_1_ok (i := 2) rfl b44 ?_
              obtain ⟨t45, f46⟩ := br_e h
              refine g_icmp_ne C tb_X12_steady_1_ok (i := 3) 83 rfl rfl (fun c => ?_) (fun c => ?_)
              · have h := f46 c
                exact g_less (L' := [some (.ref a0), some (.int v7), some (.int v8), none, some (.int v26)]) ⟨rfl, ⟨rfl, ⟨rfl, ⟨rfl, trivial⟩⟩⟩⟩ (J83 () h)
              · have h := t45 c
                refine g_iconstv C tb_X12_steady_1_ok (i := 4) 1 rfl k_iconstv_1 ?_
                refine g_goto C tb_X12_steady_1_ok (i := 5) 84 rfl rfl ?_
                exact g_less (L' := [some (.ref a0), some (.int v7), some (.int v8), none, some (.int v26)]) ⟨rfl, ⟨rfl, ⟨rfl, ⟨rfl, trivial⟩⟩⟩⟩ (J84 (1 : Int32) h)
def f_X12_streakFrom (y : Lay) (a0 : Nat) (a1 : Int32) (M : Mem) : Option Int32 := fixN (fun _ => none) (fun (s2 : Int32 → Option Int32) (v1 : Int32) => gK y a0 (0, 12) (cp (f_X12_columnOf y a0 a1 M) fun (r5 : Int32) => gN (y.2.1 a0 5) (gA y (y.2.1 a0 5) 1 (0 : Int32) (jn (fun (_u : Unit) => some v1) fun j8 => br ((M.1 (y.2.1 a0 5) (0 : Int32).toNatClampNeg) ≤ (r5 + v1)) (j8 ()) (gN (y.2.1 a0 28) (gA y (y.2.1 a0 28) 1 (a1 + v1) (gA y (y.2.1 a0 28) 1 a1 (br ((M.1 (y.2.1 a0 28) (a1 + v1).toNatClampNeg) = (M.1 (y.2.1 a0 28) a1.toNatClampNeg)) (lt (v1 + (1 : Int32)) fun (v16 : Int32) => s2 v16) (j8 ()))))))))) FUEL (1 : Int32)
theorem w_X12_streakFrom {g : GX} {l : Launch} (hG : GF g l) (y : Lay) (a0 : Nat) (a1 : Int32) (M : Mem) : C0 g l yX12_streakFrom cX12_streakFrom 3 (some .int) 1 y [.ref a0, .int a1] M (pm M (f_X12_streakFrom y a0 a1 M)) := by
  refine CP_of hG (by decide) [some (.ref a0), some (.int a1), none] rfl rfl (fun out h x Q C R => ?_)
  unfold f_X12_streakFrom at h
  refine g_iconstv C tb_X12_streakFrom_0_ok (i := 0) 1 rfl k_iconstv_1 ?_
  refine g_istore_n C tb_X12_streakFrom_0_ok (i := 1) rfl rfl rfl ?_
  refine g_less (L' := [some (.ref a0), some (.int a1), some (.int (1 : Int32))]) ⟨rfl, ⟨rfl, ⟨rfl, trivial⟩⟩⟩ ?_
  refine fix_i (P := fun (f : Int32 → Option Int32) => ∀ (v1 : Int32), f v1 = some out → GG g x 3 Q 0 0 y M 2 [some (.ref a0), some (.int a1), some (.int v1)] []) ?_ ?_ _ (1 : Int32) h
  · intro v1 h; exact (nn_e h).elim
  · intro s2 ih3 v1 h
    refine g_aload_n C tb_X12_streakFrom_0_ok (i := 2) rfl rfl ?_
    refine g_iload_n C tb_X12_streakFrom_0_ok (i := 3) rfl rfl ?_
    obtain ⟨k4, h⟩ := gK_e h
    obtain ⟨r5, er5, h⟩ := cp_e h
    refine g_callV0 C tb_X12_streakFrom_0_ok (i := 4) [.int a1] rfl mw_X12_columnOf mv_X12_columnOf ml_X12_351 k4 rfl rfl rfl rfl (w_X12_columnOf C.G y a0 a1 M) (pm_s er5) rfl rfl rfl ?_
    refine g_iload_n C tb_X12_streakFrom_0_ok (i := 5) rfl rfl ?_
    refine g_iadd C tb_X12_streakFrom_0_ok (i := 6) rfl ?_
    refine g_aload_n C tb_X12_streakFrom_0_ok (i := 7) rfl rfl ?_
    obtain ⟨n6, h⟩ := gN_e h
    refine g_getR C tb_X12_streakFrom_0_ok (i := 8) rfl fl_X12_40 rfl k4 n6 ?_
    refine g_iconstv C tb_X12_streakFrom_0_ok (i := 9) 0 rfl k_iconstv_0 ?_
    obtain ⟨b7, h⟩ := gA_e h
    refine g_iald C tb_X12_streakFrom_0_ok (i := 10) rfl b7 ?_
    obtain ⟨j8, ej8, h⟩ := jn_e h
    have J41 : ∀ (_u : Unit), j8 _u = some out → GG g x 3 Q 0 0 y M 41 [none, none, some (.int v1)] [] := by
      intro _u h; subst ej8
      refine g_iload_n C tb_X12_streakFrom_0_ok (i := 25) rfl rfl ?_
      cases h
      exact g_iret0 C R tb_X12_streakFrom_0_ok (i := 26) rfl
    obtain ⟨t9, f10⟩ := br_e h
    refine g_icmp_ge C tb_X12_streakFrom_0_ok (i := 11) 41 rfl rfl (fun c => ?_) (fun c => ?_)
    · have h := t9 c
      exact g_less (L' := [none, none, some (.int v1)]) ⟨rfl, trivial⟩ (J41 () h)
    · have h := f10 c
      refine g_aload_n C tb_X12_streakFrom_0_ok (i := 12) rfl rfl ?_
      obtain ⟨n11, h⟩ := gN_e h
      refine g_getR C tb_X12_streakFrom_0_ok (i := 13) rfl fl_X12_75 rfl k4 n11 ?_
      refine g_iload_n C tb_X12_streakFrom_0_ok (i := 14) rfl rfl ?_
      refine g_iload_n C tb_X12_streakFrom_0_ok (i := 15) rfl rfl ?_
      refine g_iadd C tb_X12_streakFrom_0_ok (i := 16) rfl ?_
      obtain ⟨b12, h⟩ := gA_e h
      refine g_iald C tb_X12_streakFrom_0_ok (i := 17) rfl b12 ?_
      refine g_aload_n C tb_X12_streakFrom_0_ok (i := 18) rfl rfl ?_
      refine g_getR C tb_X12_streakFrom_0_ok (i := 19) rfl fl_X12_75 rfl k4 n11 ?_
      refine g_iload_n C tb_X12_streakFrom_0_ok (i := 20) rfl rfl ?_
      obtain ⟨b13, h⟩ := gA_e h
      refine g_iald C tb_X12_streakFrom_0_ok (i := 21) rfl b13 ?_
      obtain ⟨t14, f15⟩ := br_e h
      refine g_icmp_ne C tb_X12_streakFrom_0_ok (i := 22) 41 rfl rfl (fun c => ?_) (fun c => ?_)
      · have h := f15 c
        exact g_less (L' := [none, none, some (.int v1)]) ⟨rfl, trivial⟩ (J41 () h)
      · have h := t14 c
        obtain ⟨v16, ev16⟩ : ∃ w : Int32, w = v1 + (1 : Int32) := ⟨_, rfl⟩
        have h := lt_e ev16 h
        refine g_iincv C tb_X12_streakFrom_0_ok (i := 23) (1 : Int32) ev16 rfl rfl k_iconstv_1 rfl rfl ?_
        refine g_goto C tb_X12_streakFrom_0_ok (i := 24) 2 rfl rfl ?_
        exact g_less (L' := [some (.ref a0), some (.int a1), some (.int v16)]) ⟨rfl, ⟨rfl, ⟨rfl, trivial⟩⟩⟩ (ih3 v16 h)
def f_X12_streak (y : Lay) (a0 : Nat) (a1 : Int32) (M : Mem) : Option (Int32 × Mem) := gK y a0 (0, 12) (lt (wI M a0 4 (0 : Int32)) fun (M2 : Mem) => jn (fun (_u : Unit) => c0 (f_X12_fail y a0 (1 : Int32) M2) fun (r4 : Int32) (M5 : Mem) => some (r4, M5)) fun j3 => br (a1 < 0) (j3 ()) (br (a1 ≤ (1 : Int32)) (fixN (fun _ _ => none) (fun (s12 : Int32 → Int32 → Option (Int32 × Mem)) (v10 : Int32) (v11 : Int32) => cp (f_X12_cells y a0 M2) fun (r14 : Int32) => br (r14 ≤ v11) (jn (fun (v17 : Int32) => some (v17, M2)) fun j18 => br (a1 = 0) (cp (f_X12_streakFrom y a0 v10 M2) fun (r21 : Int32) => j18 r21) (j18 v10)) (cp (f_X12_streakFrom y a0 v11 M2) fun (r22 : Int32) => cp (f_X12_streakFrom y a0 v10 M2) fun (r23 : Int32) => jn (fun (v24 : Int32) => lt (v11 + (1 : Int32)) fun (v26 : Int32) => s12 v24 v26) fun j25 => br (r22 ≤ r23) (j25 v10) (j25 v11))) FUEL (0 : Int32) (1 : Int32)) (j3 ())))
theorem w_X12_streak {g : GX} {l : Launch} (hG : GF g l) (y : Lay) (a0 : Nat) (a1 : Int32) (M : Mem) : C0 g l yX12_streak cX12_streak 4 (some .int) 2 y [.ref a0, .int a1] M (f_X12_streak y a0 a1 M) := by
  refine C0_of hG (by decide) [some (.ref a0), some (.int a1), none, none] rfl rfl (fun out h x Q C R => ?_)
  unfold f_X12_streak at h
  refine g_aload_n C tb_X12_streak_0_ok (i := 0) rfl rfl ?_
  refine g_iconstv C tb_X12_streak_0_ok (i := 1) 0 rfl k_iconstv_0 ?_
  obtain ⟨k1, h⟩ := gK_e h
  refine g_putI C tb_X12_streak_0_ok (i := 2) rfl fl_X12_150 ft_12_4 rfl k1 ?_
  refine g_mem (fun M2 eM2 => ?_)
  have h := lt_e eM2 h
  refine g_iload_n C tb_X12_streak_0_ok (i := 3) rfl rfl ?_
  obtain ⟨j3, ej3, h⟩ := jn_e h
  have J14 : ∀ (_u : Unit), j3 _u = some out → GG g x 4 Q 0 0 y M2 14 [some (.ref a0), none, none, none] [] := by
    intro _u h; subst ej3
    refine g_aload_n C tb_X12_streak_0_ok (i := 8) rfl rfl ?_
    refine g_iconstv C tb_X12_streak_0_ok (i := 9) 1 rfl k_iconstv_1 ?_
    obtain ⟨r4, M5, er4, h⟩ := c0_e h
    refine g_callV0 C tb_X12_streak_0_ok (i := 10) [.int (1 : Int32)] rfl mw_X12_fail mv_X12_fail ml_X12_318 k1 rfl rfl rfl rfl (w_X12_fail C.G y a0 (1 : Int32) M2) er4 rfl rfl rfl ?_
    cases h
    exact g_iret0 C R tb_X12_streak_0_ok (i := 11) rfl
  obtain ⟨t6, f7⟩ := br_e h
  refine g_if_lt C tb_X12_streak_0_ok (i := 4) 14 rfl rfl (fun c => ?_) (fun c => ?_)
  · have h := t6 c
    exact g_less (L' := [some (.ref a0), none, none, none]) ⟨rfl, trivial⟩ (J14 () h)
  · have h := f7 c
    refine g_iload_n C tb_X12_streak_0_ok (i := 5) rfl rfl ?_
    refine g_iconstv C tb_X12_streak_0_ok (i := 6) 1 rfl k_iconstv_1 ?_
    obtain ⟨t8, f9⟩ := br_e h
    refine g_icmp_le C tb_X12_streak_0_ok (i := 7) 20 rfl rfl (fun c => ?_) (fun c => ?_)
    · have h := t8 c
      refine g_iconstv C tb_X12_streak_0_ok (i := 12) 0 rfl k_iconstv_0 ?_
      refine g_istore_n C tb_X12_streak_0_ok (i := 13) rfl rfl rfl ?_
      refine g_iconstv C tb_X12_streak_0_ok (i := 14) 1 rfl k_iconstv_1 ?_
      refine g_istore_n C tb_X12_streak_0_ok (i := 15) rfl rfl rfl ?_
      refine g_less (L' := [some (.ref a0), some (.int a1), some (.int (0 : Int32)), some (.int (1 : Int32))]) ⟨rfl, ⟨rfl, ⟨rfl, ⟨rfl, trivial⟩⟩⟩⟩ ?_
      refine fix_i (P := fun (f : Int32 → Int32 → Option (Int32 × Mem)) => ∀ (v10 : Int32) (v11 : Int32), f v10 v11 = some out → GG g x 4 Q 0 0 y M2 24 [some (.ref a0), some (.int a1), some (.int v10), some (.int v11)] []) ?_ ?_ _ (0 : Int32) (1 : Int32) h
      · intro v10 v11 h; exact (nn_e h).elim
      · intro s12 ih13 v10 v11 h
        refine g_iload_n C tb_X12_streak_0_ok (i := 16) rfl rfl ?_
        refine g_aload_n C tb_X12_streak_0_ok (i := 17) rfl rfl ?_
        obtain ⟨r14, er14, h⟩ := cp_e h
        refine g_callV0 C tb_X12_streak_0_ok (i := 18) [] rfl mw_X12_cells mv_X12_cells ml_X12_153 k1 rfl rfl rfl rfl (w_X12_cells C.G y a0 M2) (pm_s er14) rfl rfl rfl ?_
        obtain ⟨t15, f16⟩ := br_e h
        refine g_icmp_ge C tb_X12_streak_0_ok (i := 19) 53 rfl rfl (fun c => ?_) (fun c => ?_)
        · have h := t15 c
          refine g_iload_n C tb_X12_streak_0_ok (i := 31) rfl rfl ?_
          obtain ⟨j18, ej18, h⟩ := jn_e h
          have J66 : ∀ (v17 : Int32), j18 v17 = some out → GG g x 4 Q 0 0 y M2 66 [none, none, none, none] [.int v17] := by
            intro v17 h; subst ej18
            cases h
            exact g_iret0 C R tb_X12_streak_0_ok (i := 38) rfl
          obtain ⟨t19, f20⟩ := br_e h
          refine g_if_ne C tb_X12_streak_0_ok (i := 32) 65 rfl rfl (fun c => ?_) (fun c => ?_)
          · have h := f20 c
            refine g_iload_n C tb_X12_streak_0_ok (i := 37) rfl rfl ?_
            exact g_less (L' := [none, none, none, none]) trivial (J66 v10 h)
          · have h := t19 c
            refine g_aload_n C tb_X12_streak_0_ok (i := 33) rfl rfl ?_
            refine g_iload_n C tb_X12_streak_0_ok (i := 34) rfl rfl ?_
            obtain ⟨r21, er21, h⟩ := cp_e h
            refine g_callV0 C tb_X12_streak_0_ok (i := 35) [.int v10] rfl mw_X12_streakFrom mv_X12_streakFrom ml_X12_458 k1 rfl rfl rfl rfl (w_X12_streakFrom C.G y a0 v10 M2) (pm_s er21) rfl rfl rfl ?_
            refine g_goto C tb_X12_streak_0_ok (i := 36) 66 rfl rfl ?_
            exact g_less (L' := [none, none, none, none]) trivial (J66 r21 h)
        · have h := f16 c
          refine g_aload_n C tb_X12_streak_0_ok (i := 20) rfl rfl ?_
          refine g_iload_n C tb_X12_streak_0_ok (i := 21) rfl rfl ?_
          obtain ⟨r22, er22, h⟩ := cp_e h
          refine g_callV0 C tb_X12_streak_0_ok (i := 22) [.int v11] rfl mw_X12_streakFrom mv_X12_streakFrom ml_X12_458 k1 rfl rfl rfl rfl (w_X12_streakFrom C.G y a0 v11 M2) (pm_s er22) rfl rfl rfl ?_
          refine g_aload_n C tb_X12_streak_0_ok (i := 23) rfl rfl ?_
          refine g_iload_n C tb_X12_streak_0_ok (i := 24) rfl rfl ?_
          obtain ⟨r23, er23, h⟩ := cp_e h
          refine g_callV0 C tb_X12_streak_0_ok (i := 25) [.int v10] rfl mw_X12_streakFrom mv_X12_streakFrom ml_X12_458 k1 rfl rfl rfl rfl (w_X12_streakFrom C.G y a0 v10 M2) (pm_s er23) rfl rfl rfl ?_
          obtain ⟨j25, ej25, h⟩ := jn_e h
          have J47 : ∀ (v24 : Int32), j25 v24 = some out → GG g x 4 Q 0 0 y M2 47 [some (.ref a0), some (.int a1), some (.int v24), some (.int v11)] [] := by
            intro v24 h; subst ej25
            obtain ⟨v26, ev26⟩ : ∃ w : Int32, w = v11 + (1 : Int32) := ⟨_, rfl⟩
            have h := lt_e ev26 h
            refine g_iincv C tb_X12_streak_0_ok (i := 29) (1 : Int32) ev26 rfl rfl k_iconstv_1 rfl rfl ?_
            refine g_goto C tb_X12_streak_0_ok (i := 30) 24 rfl rfl ?_
            exact g_less (L' := [some (.ref a0), some (.int a1), some (.int v24), some (.int v26)]) ⟨rfl, ⟨rfl, ⟨rfl, ⟨rfl, trivial⟩⟩⟩⟩ (ih13 v24 v26 h)
          obtain ⟨t27, f28⟩ := br_e h
          refine g_icmp_le C tb_X12_streak_0_ok (i := 26) 47 rfl rfl (fun c => ?_) (fun c => ?_)
          · have h := t27 c
            exact g_less (L' := [some (.ref a0), some (.int a1), some (.int v10), some (.int v11)]) ⟨rfl, ⟨rfl, ⟨rfl, ⟨rfl, trivial⟩⟩⟩⟩ (J47 v10 h)
          · have h := f28 c
            refine g_iload_n C tb_X12_streak_0_ok (i := 27) rfl rfl ?_
            refine g_istore_n C tb_X12_streak_0_ok (i := 28) rfl rfl rfl ?_
            exact g_less (L' := [some (.ref a0), some (.int a1), some (.int v11), some (.int v11)]) ⟨rfl, ⟨rfl, ⟨rfl, ⟨rfl, trivial⟩⟩⟩⟩ (J47 v11 h)
    · have h := f9 c
      exact g_less (L' := [some (.ref a0), none, none, none]) ⟨rfl, trivial⟩ (J14 () h)
def f_X12_patch (y : Lay) (a0 : Nat) (a1 : Int32) (a2 : Int32) (M : Mem) : Option (Int32 × Mem) := gK y a0 (0, 12) (lt (wI M a0 4 (0 : Int32)) fun (M2 : Mem) => cp (f_X12_isCell y a0 a1 M2) fun (r3 : Int32) => br (r3 = 0) (c0 (f_X12_fail y a0 (1 : Int32) M2) fun (r15 : Int32) (M16 : Mem) => some (r15, M16)) (cp (f_X12_isIn y (a2.toInt64) (0 : Int64) (99 : Int64) M2) fun (r6 : Int32) => jn (fun (v7 : Int32) (M8 : Mem) => some (v7, M8)) fun j9 => br (r6 = 0) (c0 (f_X12_fail y a0 (2 : Int32) M2) fun (r12 : Int32) (M13 : Mem) => j9 r12 M13) (cp (f_X12_patchOf y a0 a1 a2 M2) fun (r14 : Int32) => j9 r14 M2)))
theorem w_X12_patch {g : GX} {l : Launch} (hG : GF g l) (y : Lay) (a0 : Nat) (a1 : Int32) (a2 : Int32) (M : Mem) : C0 g l yX12_patch cX12_patch 3 (some .int) 4 y [.ref a0, .int a1, .int a2] M (f_X12_patch y a0 a1 a2 M) := by
  refine C0_of hG (by decide) [some (.ref a0), some (.int a1), some (.int a2)] rfl rfl (fun out h x Q C R => ?_)
  unfold f_X12_patch at h
  refine g_aload_n C tb_X12_patch_0_ok (i := 0) rfl rfl ?_
  refine g_iconstv C tb_X12_patch_0_ok (i := 1) 0 rfl k_iconstv_0 ?_
  obtain ⟨k1, h⟩ := gK_e h
  refine g_putI C tb_X12_patch_0_ok (i := 2) rfl fl_X12_150 ft_12_4 rfl k1 ?_
  refine g_mem (fun M2 eM2 => ?_)
  have h := lt_e eM2 h
  refine g_aload_n C tb_X12_patch_0_ok (i := 3) rfl rfl ?_
  refine g_iload_n C tb_X12_patch_0_ok (i := 4) rfl rfl ?_
  obtain ⟨r3, er3, h⟩ := cp_e h
  refine g_callV0 C tb_X12_patch_0_ok (i := 5) [.int a1] rfl mw_X12_isCell mv_X12_isCell ml_X12_408 k1 rfl rfl rfl rfl (w_X12_isCell C.G y a0 a1 M2) (pm_s er3) rfl rfl rfl ?_
  obtain ⟨t4, f5⟩ := br_e h
  refine g_if_ne C tb_X12_patch_0_ok (i := 6) 19 rfl rfl (fun c => ?_) (fun c => ?_)
  · have h := f5 c
    refine g_iload_n C tb_X12_patch_0_ok (i := 11) rfl rfl ?_
    refine g_i2l C tb_X12_patch_0_ok (i := 12) rfl ?_
    refine g_lconst C tb_X12_patch_0_ok (i := 13) 0 rfl rfl ?_
    refine g_ldc2 C tb_X12_patch_0_ok (i := 14) rfl cl_X12_461 ?_
    obtain ⟨r6, er6, h⟩ := cp_e h
    refine g_callS0 C tb_X12_patch_0_ok (i := 15) [.long (a2.toInt64), .long (0 : Int64), .long (99 : Int64)] rfl mw_X12_isIn mst_X12_isIn ml_X12_157 rfl rfl rfl rfl (w_X12_isIn C.G y (a2.toInt64) (0 : Int64) (99 : Int64) M2) (pm_s er6) rfl rfl rfl ?_
    obtain ⟨j9, ej9, h⟩ := jn_e h
    have J45 : ∀ (v7 : Int32) (M8 : Mem), j9 v7 M8 = some out → GG g x 3 Q 0 0 y M8 45 [none, none, none] [.int v7] := by
      intro v7 M8 h; subst ej9
      cases h
      exact g_iret0 C R tb_X12_patch_0_ok (i := 25) rfl
    obtain ⟨t10, f11⟩ := br_e h
    refine g_if_eq C tb_X12_patch_0_ok (i := 16) 40 rfl rfl (fun c => ?_) (fun c => ?_)
    · have h := t10 c
      refine g_aload_n C tb_X12_patch_0_ok (i := 22) rfl rfl ?_
      refine g_iconstv C tb_X12_patch_0_ok (i := 23) 2 rfl k_iconstv_2 ?_
      obtain ⟨r12, M13, er12, h⟩ := c0_e h
      refine g_callV0 C tb_X12_patch_0_ok (i := 24) [.int (2 : Int32)] rfl mw_X12_fail mv_X12_fail ml_X12_318 k1 rfl rfl rfl rfl (w_X12_fail C.G y a0 (2 : Int32) M2) er12 rfl rfl rfl ?_
      exact g_less (L' := [none, none, none]) trivial (J45 r12 M13 h)
    · have h := f11 c
      refine g_aload_n C tb_X12_patch_0_ok (i := 17) rfl rfl ?_
      refine g_iload_n C tb_X12_patch_0_ok (i := 18) rfl rfl ?_
      refine g_iload_n C tb_X12_patch_0_ok (i := 19) rfl rfl ?_
      obtain ⟨r14, er14, h⟩ := cp_e h
      refine g_callV0 C tb_X12_patch_0_ok (i := 20) [.int a1, .int a2] rfl mw_X12_patchOf mv_X12_patchOf ml_X12_414 k1 rfl rfl rfl rfl (w_X12_patchOf C.G y a0 a1 a2 M2) (pm_s er14) rfl rfl rfl ?_
      refine g_goto C tb_X12_patch_0_ok (i := 21) 45 rfl rfl ?_
      exact g_less (L' := [none, none, none]) trivial (J45 r14 M2 h)
  · have h := t4 c
    refine g_aload_n C tb_X12_patch_0_ok (i := 7) rfl rfl ?_
    refine g_iconstv C tb_X12_patch_0_ok (i := 8) 1 rfl k_iconstv_1 ?_
    obtain ⟨r15, M16, er15, h⟩ := c0_e h
    refine g_callV0 C tb_X12_patch_0_ok (i := 9) [.int (1 : Int32)] rfl mw_X12_fail mv_X12_fail ml_X12_318 k1 rfl rfl rfl rfl (w_X12_fail C.G y a0 (1 : Int32) M2) er15 rfl rfl rfl ?_
    cases h
    exact g_iret0 C R tb_X12_patch_0_ok (i := 10) rfl
def f_X12_patches (y : Lay) (a0 : Nat) (a1 : Int32) (M : Mem) : Option (Int32 × Mem) := gK y a0 (0, 12) (lt (wI M a0 4 (0 : Int32)) fun (M2 : Mem) => cp (f_X12_isIn y (a1.toInt64) (0 : Int64) (99 : Int64) M2) fun (r3 : Int32) => br (r3 = 0) (c0 (f_X12_fail y a0 (1 : Int32) M2) fun (r24 : Int32) (M25 : Mem) => some (r24, M25)) (fixN (fun _ _ _ => none) (fun (s9 : Int32 → Int32 → Int32 → Option (Int32 × Mem)) (v6 : Int32) (v7 : Int32) (v8 : Int32) => cp (f_X12_cells y a0 M2) fun (r11 : Int32) => br (r11 ≤ v8) (some (v6, M2)) (cp (f_X12_isOf y v7 v8 M2) fun (r14 : Int32) => jn (fun (v15 : Int32) (v16 : Int32) => lt (v8 + (1 : Int32)) fun (v18 : Int32) => s9 v15 v16 v18) fun j17 => br (r14 = 0) (cp (f_X12_patchOf y a0 v8 a1 M2) fun (r21 : Int32) => lt (v7 ||| r21) fun (v22 : Int32) => lt (v6 + (1 : Int32)) fun (v23 : Int32) => j17 v23 v22) (j17 v6 v7))) FUEL (0 : Int32) (0 : Int32) (0 : Int32)))
theorem w_X12_patches {g : GX} {l : Launch} (hG : GF g l) (y : Lay) (a0 : Nat) (a1 : Int32) (M : Mem) : C0 g l yX12_patches cX12_patches 5 (some .int) 4 y [.ref a0, .int a1] M (f_X12_patches y a0 a1 M) := by
  refine C0_of hG (by decide) [some (.ref a0), some (.int a1), none, none, none] rfl rfl (fun out h x Q C R => ?_)
  unfold f_X12_patches at h
  refine g_aload_n C tb_X12_patches_0_ok (i := 0) rfl rfl ?_
  refine g_iconstv C tb_X12_patches_0_ok (i := 1) 0 rfl k_iconstv_0 ?_
  obtain ⟨k1, h⟩ := gK_e h
  refine g_putI C tb_X12_patches_0_ok (i := 2) rfl fl_X12_150 ft_12_4 rfl k1 ?_
  refine g_mem (fun M2 eM2 => ?_)
  have h := lt_e eM2 h
  refine g_iload_n C tb_X12_patches_0_ok (i := 3) rfl rfl ?_
  refine g_i2l C tb_X12_patches_0_ok (i := 4) rfl ?_
  refine g_lconst C tb_X12_patches_0_ok (i := 5) 0 rfl rfl ?_
  refine g_ldc2 C tb_X12_patches_0_ok (i := 6) rfl cl_X12_461 ?_
  obtain ⟨r3, er3, h⟩ := cp_e h
  refine g_callS0 C tb_X12_patches_0_ok (i := 7) [.long (a1.toInt64), .long (0 : Int64), .long (99 : Int64)] rfl mw_X12_isIn mst_X12_isIn ml_X12_157 rfl rfl rfl rfl (w_X12_isIn C.G y (a1.toInt64) (0 : Int64) (99 : Int64) M2) (pm_s er3) rfl rfl rfl ?_
  obtain ⟨t4, f5⟩ := br_e h
  refine g_if_ne C tb_X12_patches_0_ok (i := 8) 23 rfl rfl (fun c => ?_) (fun c => ?_)
  · have h := f5 c
    refine g_iconstv C tb_X12_patches_0_ok (i := 13) 0 rfl k_iconstv_0 ?_
    refine g_istore_n C tb_X12_patches_0_ok (i := 14) rfl rfl rfl ?_
    refine g_iconstv C tb_X12_patches_0_ok (i := 15) 0 rfl k_iconstv_0 ?_
    refine g_istore_n C tb_X12_patches_0_ok (i := 16) rfl rfl rfl ?_
    refine g_iconstv C tb_X12_patches_0_ok (i := 17) 0 rfl k_iconstv_0 ?_
    refine g_istore C tb_X12_patches_0_ok (i := 18) rfl rfl rfl ?_
    refine g_less (L' := [some (.ref a0), some (.int a1), some (.int (0 : Int32)), some (.int (0 : Int32)), some (.int (0 : Int32))]) ⟨rfl, ⟨rfl, ⟨rfl, ⟨rfl, ⟨rfl, trivial⟩⟩⟩⟩⟩ ?_
    refine fix_i (P := fun (f : Int32 → Int32 → Int32 → Option (Int32 × Mem)) => ∀ (v6 : Int32) (v7 : Int32) (v8 : Int32), f v6 v7 v8 = some out → GG g x 5 Q 0 0 y M2 30 [some (.ref a0), some (.int a1), some (.int v6), some (.int v7), some (.int v8)] []) ?_ ?_ _ (0 : Int32) (0 : Int32) (0 : Int32) h
    · intro v6 v7 v8 h; exact (nn_e h).elim
    · intro s9 ih10 v6 v7 v8 h
      refine g_iload C tb_X12_patches_0_ok (i := 19) rfl rfl ?_
      refine g_aload_n C tb_X12_patches_0_ok (i := 20) rfl rfl ?_
      obtain ⟨r11, er11, h⟩ := cp_e h
      refine g_callV0 C tb_X12_patches_0_ok (i := 21) [] rfl mw_X12_cells mv_X12_cells ml_X12_153 k1 rfl rfl rfl rfl (w_X12_cells C.G y a0 M2) (pm_s er11) rfl rfl rfl ?_
      obtain ⟨t12, f13⟩ := br_e h
      refine g_icmp_ge C tb_X12_patches_0_ok (i := 22) 70 rfl rfl (fun c => ?_) (fun c => ?_)
      · have h := t12 c
        refine g_iload_n C tb_X12_patches_0_ok (i := 38) rfl rfl ?_
        cases h
        exact g_iret0 C R tb_X12_patches_0_ok (i := 39) rfl
      · have h := f13 c
        refine g_iload_n C tb_X12_patches_0_ok (i := 23) rfl rfl ?_
        refine g_iload C tb_X12_patches_0_ok (i := 24) rfl rfl ?_
        obtain ⟨r14, er14, h⟩ := cp_e h
        refine g_callS0 C tb_X12_patches_0_ok (i := 25) [.int v7, .int v8] rfl mw_X12_isOf mst_X12_isOf ml_X12_232 rfl rfl rfl rfl (w_X12_isOf C.G y v7 v8 M2) (pm_s er14) rfl rfl rfl ?_
        obtain ⟨j17, ej17, h⟩ := jn_e h
        have J64 : ∀ (v15 : Int32) (v16 : Int32), j17 v15 v16 = some out → GG g x 5 Q 0 0 y M2 64 [some (.ref a0), some (.int a1), some (.int v15), some (.int v16), some (.int v8)] [] := by
          intro v15 v16 h; subst ej17
          obtain ⟨v18, ev18⟩ : ∃ w : Int32, w = v8 + (1 : Int32) := ⟨_, rfl⟩
          have h := lt_e ev18 h
          refine g_iincv C tb_X12_patches_0_ok (i := 36) (1 : Int32) ev18 rfl rfl k_iconstv_1 rfl rfl ?_
          refine g_goto C tb_X12_patches_0_ok (i := 37) 30 rfl rfl ?_
          exact g_less (L' := [some (.ref a0), some (.int a1), some (.int v15), some (.int v16), some (.int v18)]) ⟨rfl, ⟨rfl, ⟨rfl, ⟨rfl, ⟨rfl, trivial⟩⟩⟩⟩⟩ (ih10 v15 v16 v18 h)
        obtain ⟨t19, f20⟩ := br_e h
        refine g_if_eq C tb_X12_patches_0_ok (i := 26) 51 rfl rfl (fun c => ?_) (fun c => ?_)
        · have h := t19 c
          refine g_iload_n C tb_X12_patches_0_ok (i := 28) rfl rfl ?_
          refine g_aload_n C tb_X12_patches_0_ok (i := 29) rfl rfl ?_
          refine g_iload C tb_X12_patches_0_ok (i := 30) rfl rfl ?_
          refine g_iload_n C tb_X12_patches_0_ok (i := 31) rfl rfl ?_
          obtain ⟨r21, er21, h⟩ := cp_e h
          refine g_callV0 C tb_X12_patches_0_ok (i := 32) [.int v8, .int a1] rfl mw_X12_patchOf mv_X12_patchOf ml_X12_414 k1 rfl rfl rfl rfl (w_X12_patchOf C.G y a0 v8 a1 M2) (pm_s er21) rfl rfl rfl ?_
          refine g_ior C tb_X12_patches_0_ok (i := 33) rfl ?_
          refine g_topi (fun v22 ev22 => ?_)
          have h := lt_e ev22 h
          refine g_istore_n C tb_X12_patches_0_ok (i := 34) rfl rfl rfl ?_
          obtain ⟨v23, ev23⟩ : ∃ w : Int32, w = v6 + (1 : Int32) := ⟨_, rfl⟩
          have h := lt_e ev23 h
          refine g_iincv C tb_X12_patches_0_ok (i := 35) (1 : Int32) ev23 rfl rfl k_iconstv_1 rfl rfl ?_
          exact g_less (L' := [some (.ref a0), some (.int a1), some (.int v23), some (.int v22), some (.int v8)]) ⟨rfl, ⟨rfl, ⟨rfl, ⟨rfl, ⟨rfl, trivial⟩⟩⟩⟩⟩ (J64 v23 v22 h)
        · have h := f20 c
          refine g_goto C tb_X12_patches_0_ok (i := 27) 64 rfl rfl ?_
          exact g_less (L' := [some (.ref a0), some (.int a1), some (.int v6), some (.int v7), some (.int v8)]) ⟨rfl, ⟨rfl, ⟨rfl, ⟨rfl, ⟨rfl, trivial⟩⟩⟩⟩⟩ (J64 v6 v7 h)
  · have h := t4 c
    refine g_aload_n C tb_X12_patches_0_ok (i := 9) rfl rfl ?_
    refine g_iconstv C tb_X12_patches_0_ok (i := 10) 1 rfl k_iconstv_1 ?_
    obtain ⟨r24, M25, er24, h⟩ := c0_e h
    refine g_callV0 C tb_X12_patches_0_ok (i := 11) [.int (1 : Int32)] rfl mw_X12_fail mv_X12_fail ml_X12_318 k1 rfl rfl rfl rfl (w_X12_fail C.G y a0 (1 : Int32) M2) er24 rfl rfl rfl ?_
    cases h
    exact g_iret0 C R tb_X12_patches_0_ok (i := 12) rfl
def f_X12_way (y : Lay) (a0 : Nat) (a1 : Int32) (a2 : Int32) (M : Mem) : Option (Int32 × Mem) := gK y a0 (0, 12) (lt (wI M a0 4 (0 : Int32)) fun (M2 : Mem) => cp (f_X12_isCell y a0 a1 M2) fun (r3 : Int32) => jn (fun (_u : Unit) => c0 (f_X12_fail y a0 (1 : Int32) M2) fun (r5 : Int32) (M6 : Mem) => some (r5, M6)) fun j4 => br (r3 = 0) (j4 ()) (cp (f_X12_isCell y a0 a2 M2) fun (r9 : Int32) => br (r9 = 0) (j4 ()) (lt (((1 : Int32) <<< (a1 &&& 31)) &&& ((M2.1 a0 34) ^^^ ((-1) : Int32))) fun (v12 : Int32) => fixN (fun _ _ => none) (fun (s15 : Int32 → Int32 → Option (Int32 × Mem)) (v13 : Int32) (v14 : Int32) => br ((30 : Int32) ≤ v14) (some (((-1) : Int32), M2)) (cp (f_X12_isOf y v13 a2 M2) fun (r19 : Int32) => br (r19 = 0) (fixN (fun _ _ => none) (fun (s24 : Int32 → Int32 → Option (Int32 × Mem)) (v22 : Int32) (v23 : Int32) => cp (f_X12_cells y a0 M2) fun (r26 : Int32) => br (r26 ≤ v23) (lt (v22 &&& ((M2.1 a0 34) ^^^ ((-1) : Int32))) fun (v29 : Int32) => lt (v14 + (1 : Int32)) fun (v30 : Int32) => s15 v29 v30) (cp (f_X12_isOf y v13 v23 M2) fun (r31 : Int32) => jn (fun (v32 : Int32) => lt (v22 ||| v32) fun (v34 : Int32) => lt (v23 + (1 : Int32)) fun (v35 : Int32) => s24 v34 v35) fun j33 => br (r31 = 0) (j33 (0 : Int32)) (cp (f_X12_besideOf y a0 v23 M2) fun (r38 : Int32) => j33 r38))) FUEL v13 (0 : Int32)) (some (v14, M2)))) FUEL v12 (0 : Int32))))
theorem w_X12_way {g : GX} {l : Launch} (hG : GF g l) (y : Lay) (a0 : Nat) (a1 : Int32) (a2 : Int32) (M : Mem) : C0 g l yX12_way cX12_way 7 (some .int) 3 y [.ref a0, .int a1, .int a2] M (f_X12_way y a0 a1 a2 M) := by
  refine C0_of hG (by decide) [some (.ref a0), some (.int a1), some (.int a2), none, none, none, none] rfl rfl (fun out h x Q C R => ?_)
  unfold f_X12_way at h
  refine g_aload_n C tb_X12_way_0_ok (i := 0) rfl rfl ?_
  refine g_iconstv C tb_X12_way_0_ok (i := 1) 0 rfl k_iconstv_0 ?_
  obtain ⟨k1, h⟩ := gK_e h
  refine g_putI C tb_X12_way_0_ok (i := 2) rfl fl_X12_150 ft_12_4 rfl k1 ?_
  refine g_mem (fun M2 eM2 => ?_)
  have h := lt_e eM2 h
  refine g_aload_n C tb_X12_way_0_ok (i := 3) rfl rfl ?_
  refine g_iload_n C tb_X12_way_0_ok (i := 4) rfl rfl ?_
  obtain ⟨r3, er3, h⟩ := cp_e h
  refine g_callV0 C tb_X12_way_0_ok (i := 5) [.int a1] rfl mw_X12_isCell mv_X12_isCell ml_X12_408 k1 rfl rfl rfl rfl (w_X12_isCell C.G y a0 a1 M2) (pm_s er3) rfl rfl rfl ?_
  obtain ⟨j4, ej4, h⟩ := jn_e h
  have J21 : ∀ (_u : Unit), j4 _u = some out → GG g x 7 Q 0 0 y M2 21 [some (.ref a0), none, none, none, none, none, none] [] := by
    intro _u h; subst ej4
    refine g_aload_n C tb_X12_way_0_ok (i := 11) rfl rfl ?_
    refine g_iconstv C tb_X12_way_0_ok (i := 12) 1 rfl k_iconstv_1 ?_
    obtain ⟨r5, M6, er5, h⟩ := c0_e h
    refine g_callV0 C tb_X12_way_0_ok (i := 13) [.int (1 : Int32)] rfl mw_X12_fail mv_X12_fail ml_X12_318 k1 rfl rfl rfl rfl (w_X12_fail C.G y a0 (1 : Int32) M2) er5 rfl rfl rfl ?_
    cases h
    exact g_iret0 C R tb_X12_way_0_ok (i := 14) rfl
  obtain ⟨t7, f8⟩ := br_e h
  refine g_if_eq C tb_X12_way_0_ok (i := 6) 21 rfl rfl (fun c => ?_) (fun c => ?_)
  · have h := t7 c
    exact g_less (L' := [some (.ref a0), none, none, none, none, none, none]) ⟨rfl, trivial⟩ (J21 () h)
  · have h := f8 c
    refine g_aload_n C tb_X12_way_0_ok (i := 7) rfl rfl ?_
    refine g_iload_n C tb_X12_way_0_ok (i := 8) rfl rfl ?_
    obtain ⟨r9, er9, h⟩ := cp_e h
    refine g_callV0 C tb_X12_way_0_ok (i := 9) [.int a2] rfl mw_X12_isCell mv_X12_isCell ml_X12_408 k1 rfl rfl rfl rfl (w_X12_isCell C.G y a0 a2 M2) (pm_s er9) rfl rfl rfl ?_
    obtain ⟨t10, f11⟩ := br_e h
    refine g_if_ne C tb_X12_way_0_ok (i := 10) 27 rfl rfl (fun c => ?_) (fun c => ?_)
    · have h := f11 c
      refine g_iconstv C tb_X12_way_0_ok (i := 15) 1 rfl k_iconstv_1 ?_
      refine g_iload_n C tb_X12_way_0_ok (i := 16) rfl rfl ?_
      refine g_ishl C tb_X12_way_0_ok (i := 17) rfl ?_
      refine g_aload_n C tb_X12_way_0_ok (i := 18) rfl rfl ?_
      refine g_getI C tb_X12_way_0_ok (i := 19) rfl fl_X12_336 rfl k1 ?_
      refine g_iconstv C tb_X12_way_0_ok (i := 20) (-1) rfl k_iconstv_m1 ?_
      refine g_ixor C tb_X12_way_0_ok (i := 21) rfl ?_
      refine g_iand C tb_X12_way_0_ok (i := 22) rfl ?_
      refine g_topi (fun v12 ev12 => ?_)
      have h := lt_e ev12 h
      refine g_istore_n C tb_X12_way_0_ok (i := 23) rfl rfl rfl ?_
      refine g_iconstv C tb_X12_way_0_ok (i := 24) 0 rfl k_iconstv_0 ?_
      refine g_istore C tb_X12_way_0_ok (i := 25) rfl rfl rfl ?_
      refine g_less (L' := [some (.ref a0), none, some (.int a2), some (.int v12), some (.int (0 : Int32)), none, none]) ⟨rfl, ⟨rfl, ⟨rfl, ⟨rfl, trivial⟩⟩⟩⟩ ?_
      refine fix_i (P := fun (f : Int32 → Int32 → Option (Int32 × Mem)) => ∀ (v13 : Int32) (v14 : Int32), f v13 v14 = some out → GG g x 7 Q 0 0 y M2 41 [some (.ref a0), none, some (.int a2), some (.int v13), some (.int v14), none, none] []) ?_ ?_ _ v12 (0 : Int32) h
      · intro v13 v14 h; exact (nn_e h).elim
      · intro s15 ih16 v13 v14 h
        refine g_iload C tb_X12_way_0_ok (i := 26) rfl rfl ?_
        refine g_bipushv C tb_X12_way_0_ok (i := 27) 30 rfl k_bipushv_30 ?_
        obtain ⟨t17, f18⟩ := br_e h
        refine g_icmp_ge C tb_X12_way_0_ok (i := 28) 120 rfl rfl (fun c => ?_) (fun c => ?_)
        · have h := t17 c
          refine g_iconstv C tb_X12_way_1_ok (i := 26) (-1) rfl k_iconstv_m1 ?_
          cases h
          exact g_iret0 C R tb_X12_way_1_ok (i := 27) rfl
        · have h := f18 c
          refine g_iload_n C tb_X12_way_0_ok (i := 29) rfl rfl ?_
          refine g_iload_n C tb_X12_way_0_ok (i := 30) rfl rfl ?_
          obtain ⟨r19, er19, h⟩ := cp_e h
          refine g_callS0 C tb_X12_way_0_ok (i := 31) [.int v13, .int a2] rfl mw_X12_isOf mst_X12_isOf ml_X12_232 rfl rfl rfl rfl (w_X12_isOf C.G y v13 a2 M2) (pm_s er19) rfl rfl rfl ?_
          obtain ⟨t20, f21⟩ := br_e h
          refine g_if_eq C tb_X12_way_0_ok (i := 32) 59 rfl rfl (fun c => ?_) (fun c => ?_)
          · have h := t20 c
            refine g_iload_n C tb_X12_way_0_ok (i := 35) rfl rfl ?_
            refine g_istore C tb_X12_way_0_ok (i := 36) rfl rfl rfl ?_
            refine g_iconstv C tb_X12_way_0_ok (i := 37) 0 rfl k_iconstv_0 ?_
            refine g_istore C tb_X12_way_0_ok (i := 38) rfl rfl rfl ?_
            refine g_less (L' := [some (.ref a0), none, some (.int a2), some (.int v13), some (.int v14), some (.int v13), some (.int (0 : Int32))]) ⟨rfl, ⟨rfl, ⟨rfl, ⟨rfl, ⟨rfl, ⟨rfl, trivial⟩⟩⟩⟩⟩⟩ ?_
            refine fix_i (P := fun (f : Int32 → Int32 → Option (Int32 × Mem)) => ∀ (v22 : Int32) (v23 : Int32), f v22 v23 = some out → GG g x 7 Q 0 0 y M2 65 [some (.ref a0), none, some (.int a2), some (.int v13), some (.int v14), some (.int v22), some (.int v23)] []) ?_ ?_ _ v13 (0 : Int32) h
            · intro v22 v23 h; exact (nn_e h).elim
            · intro s24 ih25 v22 v23 h
              refine g_iload C tb_X12_way_0_ok (i := 39) rfl rfl ?_
              refine g_aload_n C tb_X12_way_1_ok (i := 0) rfl rfl ?_
              obtain ⟨r26, er26, h⟩ := cp_e h
              refine g_callV0 C tb_X12_way_1_ok (i := 1) [] rfl mw_X12_cells mv_X12_cells ml_X12_153 k1 rfl rfl rfl rfl (w_X12_cells C.G y a0 M2) (pm_s er26) rfl rfl rfl ?_
              obtain ⟨t27, f28⟩ := br_e h
              refine g_icmp_ge C tb_X12_way_1_ok (i := 2) 104 rfl rfl (fun c => ?_) (fun c => ?_)
              · have h := t27 c
                refine g_iload C tb_X12_way_1_ok (i := 17) rfl rfl ?_
                refine g_aload_n C tb_X12_way_1_ok (i := 18) rfl rfl ?_
                refine g_getI C tb_X12_way_1_ok (i := 19) rfl fl_X12_336 rfl k1 ?_
                refine g_iconstv C tb_X12_way_1_ok (i := 20) (-1) rfl k_iconstv_m1 ?_
                refine g_ixor C tb_X12_way_1_ok (i := 21) rfl ?_
                refine g_iand C tb_X12_way_1_ok (i := 22) rfl ?_
                refine g_topi (fun v29 ev29 => ?_)
                have h := lt_e ev29 h
                refine g_istore_n C tb_X12_way_1_ok (i := 23) rfl rfl rfl ?_
                obtain ⟨v30, ev30⟩ : ∃ w : Int32, w = v14 + (1 : Int32) := ⟨_, rfl⟩
                have h := lt_e ev30 h
                refine g_iincv C tb_X12_way_1_ok (i := 24) (1 : Int32) ev30 rfl rfl k_iconstv_1 rfl rfl ?_
                refine g_goto C tb_X12_way_1_ok (i := 25) 41 rfl rfl ?_
                exact g_less (L' := [some (.ref a0), none, some (.int a2), some (.int v29), some (.int v30), none, none]) ⟨rfl, ⟨rfl, ⟨rfl, ⟨rfl, trivial⟩⟩⟩⟩ (ih16 v29 v30 h)
              · have h := f28 c
                refine g_iload C tb_X12_way_1_ok (i := 3) rfl rfl ?_
                refine g_iload_n C tb_X12_way_1_ok (i := 4) rfl rfl ?_
                refine g_iload C tb_X12_way_1_ok (i := 5) rfl rfl ?_
                obtain ⟨r31, er31, h⟩ := cp_e h
                refine g_callS0 C tb_X12_way_1_ok (i := 6) [.int v13, .int v23] rfl mw_X12_isOf mst_X12_isOf ml_X12_232 rfl rfl rfl rfl (w_X12_isOf C.G y v13 v23 M2) (pm_s er31) rfl rfl rfl ?_
                obtain ⟨j33, ej33, h⟩ := jn_e h
                have J95 : ∀ (v32 : Int32), j33 v32 = some out → GG g x 7 Q 0 0 y M2 95 [some (.ref a0), none, some (.int a2), some (.int v13), some (.int v14), none, some (.int v23)] [.int v32, .int v22] := by
                  intro v32 h; subst ej33
                  refine g_ior C tb_X12_way_1_ok (i := 13) rfl ?_
                  refine g_topi (fun v34 ev34 => ?_)
                  have h := lt_e ev34 h
                  refine g_istore C tb_X12_way_1_ok (i := 14) rfl rfl rfl ?_
                  obtain ⟨v35, ev35⟩ : ∃ w : Int32, w = v23 + (1 : Int32) := ⟨_, rfl⟩
                  have h := lt_e ev35 h
                  refine g_iincv C tb_X12_way_1_ok (i := 15) (1 : Int32) ev35 rfl rfl k_iconstv_1 rfl rfl ?_
                  refine g_goto C tb_X12_way_1_ok (i := 16) 65 rfl rfl ?_
                  exact g_less (L' := [some (.ref a0), none, some (.int a2), some (.int v13), some (.int v14), some (.int v34), some (.int v35)]) ⟨rfl, ⟨rfl, ⟨rfl, ⟨rfl, ⟨rfl, ⟨rfl, trivial⟩⟩⟩⟩⟩⟩ (ih25 v34 v35 h)
                obtain ⟨t36, f37⟩ := br_e h
                refine g_if_eq C tb_X12_way_1_ok (i := 7) 94 rfl rfl (fun c => ?_) (fun c => ?_)
                · have h := t36 c
                  refine g_iconstv C tb_X12_way_1_ok (i := 12) 0 rfl k_iconstv_0 ?_
                  exact g_less (L' := [some (.ref a0), none, some (.int a2), some (.int v13), some (.int v14), none, some (.int v23)]) ⟨rfl, ⟨rfl, ⟨rfl, ⟨rfl, ⟨rfl, trivial⟩⟩⟩⟩⟩ (J95 (0 : Int32) h)
                · have h := f37 c
                  refine g_aload_n C tb_X12_way_1_ok (i := 8) rfl rfl ?_
                  refine g_iload C tb_X12_way_1_ok (i := 9) rfl rfl ?_
                  obtain ⟨r38, er38, h⟩ := cp_e h
                  refine g_callV0 C tb_X12_way_1_ok (i := 10) [.int v23] rfl mw_X12_besideOf mv_X12_besideOf ml_X12_363 k1 rfl rfl rfl rfl (w_X12_besideOf C.G y a0 v23 M2) (pm_s er38) rfl rfl rfl ?_
                  refine g_goto C tb_X12_way_1_ok (i := 11) 95 rfl rfl ?_
                  exact g_less (L' := [some (.ref a0), none, some (.int a2), some (.int v13), some (.int v14), none, some (.int v23)]) ⟨rfl, ⟨rfl, ⟨rfl, ⟨rfl, ⟨rfl, trivial⟩⟩⟩⟩⟩ (J95 r38 h)
          · have h := f21 c
            refine g_iload C tb_X12_way_0_ok (i := 33) rfl rfl ?_
            cases h
            exact g_iret0 C R tb_X12_way_0_ok (i := 34) rfl
    · have h := t10 c
      exact g_less (L' := [some (.ref a0), none, none, none, none, none, none]) ⟨rfl, trivial⟩ (J21 () h)
def f_X12_unevenNext (y : Lay) (a0 : Nat) (M : Mem) : Option (Int32 × Mem) := gK y a0 (0, 12) (gN (y.2.1 a0 42) (c0 (f_X12_pack y a0 (y.2.1 a0 42) (0 : Int32) M) fun (r3 : Int32) (M4 : Mem) => c0 (f_X12_aDay y a0 M4) fun (r5 : Int32) (M6 : Mem) => cp (f_X12_uneven y a0 M6) fun (r7 : Int32) => c0 (f_X12_unpack y a0 (y.2.1 a0 42) (0 : Int32) M6) fun (r8 : Int32) (M9 : Mem) => some (r7, M9)))
theorem w_X12_unevenNext {g : GX} {l : Launch} (hG : GF g l) (y : Lay) (a0 : Nat) (M : Mem) : C0 g l yX12_unevenNext cX12_unevenNext 2 (some .int) 8 y [.ref a0] M (f_X12_unevenNext y a0 M) := by
  refine C0_of hG (by decide) [some (.ref a0), none] rfl rfl (fun out h x Q C R => ?_)
  unfold f_X12_unevenNext at h
  refine g_aload_n C tb_X12_unevenNext_0_ok (i := 0) rfl rfl ?_
  refine g_aload_n C tb_X12_unevenNext_0_ok (i := 1) rfl rfl ?_
  obtain ⟨k1, h⟩ := gK_e h
  obtain ⟨n2, h⟩ := gN_e h
  refine g_getR C tb_X12_unevenNext_0_ok (i := 2) rfl fl_X12_92 rfl k1 n2 ?_
  refine g_iconstv C tb_X12_unevenNext_0_ok (i := 3) 0 rfl k_iconstv_0 ?_
  obtain ⟨r3, M4, er3, h⟩ := c0_e h
  refine g_callV0 C tb_X12_unevenNext_0_ok (i := 4) [.ref (y.2.1 a0 42), .int (0 : Int32)] rfl mw_X12_pack mv_X12_pack ml_X12_420 k1 rfl rfl rfl rfl (w_X12_pack C.G y a0 (y.2.1 a0 42) (0 : Int32) M) er3 rfl rfl rfl ?_
  refine g_aload_n C tb_X12_unevenNext_0_ok (i := 5) rfl rfl ?_
  obtain ⟨r5, M6, er5, h⟩ := c0_e h
  refine g_callV0 C tb_X12_unevenNext_0_ok (i := 6) [] rfl mw_X12_aDay mv_X12_aDay ml_X12_402 k1 rfl rfl rfl rfl (w_X12_aDay C.G y a0 M4) er5 rfl rfl rfl ?_
  refine g_aload_n C tb_X12_unevenNext_0_ok (i := 7) rfl rfl ?_
  obtain ⟨r7, er7, h⟩ := cp_e h
  refine g_callV0 C tb_X12_unevenNext_0_ok (i := 8) [] rfl mw_X12_uneven mv_X12_uneven ml_X12_451 k1 rfl rfl rfl rfl (w_X12_uneven C.G y a0 M6) (pm_s er7) rfl rfl rfl ?_
  refine g_istore_n C tb_X12_unevenNext_0_ok (i := 9) rfl rfl rfl ?_
  refine g_aload_n C tb_X12_unevenNext_0_ok (i := 10) rfl rfl ?_
  refine g_aload_n C tb_X12_unevenNext_0_ok (i := 11) rfl rfl ?_
  refine g_getR C tb_X12_unevenNext_0_ok (i := 12) rfl fl_X12_92 rfl k1 n2 ?_
  refine g_iconstv C tb_X12_unevenNext_0_ok (i := 13) 0 rfl k_iconstv_0 ?_
  obtain ⟨r8, M9, er8, h⟩ := c0_e h
  refine g_callV0 C tb_X12_unevenNext_0_ok (i := 14) [.ref (y.2.1 a0 42), .int (0 : Int32)] rfl mw_X12_unpack mv_X12_unpack ml_X12_440 k1 rfl rfl rfl rfl (w_X12_unpack C.G y a0 (y.2.1 a0 42) (0 : Int32) M6) er8 rfl rfl rfl ?_
  refine g_iload_n C tb_X12_unevenNext_0_ok (i := 15) rfl rfl ?_
  cases h
  exact g_iret0 C R tb_X12_unevenNext_0_ok (i := 16) rfl
def f_X12_toRest (y : Lay) (a0 : Nat) (M : Mem) : Option (Int32 × Mem) := gK y a0 (0, 12) (lt (wI M a0 4 (0 : Int32)) fun (M2 : Mem) => lt ((-1) : Int32) fun (v3 : Int32) => c0 (f_X12_unevenNext y a0 M2) fun (r4 : Int32) (M5 : Mem) => lt (M5.1 a0 35) fun (v6 : Int32) => fixN (fun _ _ _ _ => none) (fun (s11 : Int32 → Int32 → Int32 → Mem → Option (Int32 × Mem)) (v7 : Int32) (v8 : Int32) (v9 : Int32) (M10 : Mem) => gN (y.2.1 a0 5) (gA y (y.2.1 a0 5) 1 (2 : Int32) (br ((M10.1 (y.2.1 a0 5) (2 : Int32).toNatClampNeg) ≤ v9) (some (v7, M10)) (cp (f_X12_isOf y v6 v9 M10) fun (r17 : Int32) => jn (fun (v18 : Int32) (v19 : Int32) (M20 : Mem) => lt (v9 + (1 : Int32)) fun (v22 : Int32) => s11 v18 v19 v22 M20) fun j21 => br (r17 = 0) (lt (wI M10 a0 35 (v6 ||| ((1 : Int32) <<< (v9 &&& 31)))) fun (M25 : Mem) => c0 (f_X12_unevenNext y a0 M25) fun (r26 : Int32) (M27 : Mem) => lt (wI M27 a0 35 v6) fun (M28 : Mem) => br (r26 < v8) (j21 v9 r26 M28) (j21 v7 v8 M28)) (j21 v7 v8 M10))))) FUEL v3 r4 (0 : Int32) M5)
theorem w_X12_toRest {g : GX} {l : Launch} (hG : GF g l) (y : Lay) (a0 : Nat) (M : Mem) : C0 g l yX12_toRest cX12_toRest 6 (some .int) 9 y [.ref a0] M (f_X12_toRest y a0 M) := by
  refine C0_of hG (by decide) [some (.ref a0), none, none, none, none, none] rfl rfl (fun out h x Q C R => ?_)
  unfold f_X12_toRest at h
  refine g_aload_n C tb_X12_toRest_0_ok (i := 0) rfl rfl ?_
  refine g_iconstv C tb_X12_toRest_0_ok (i := 1) 0 rfl k_iconstv_0 ?_
  obtain ⟨k1, h⟩ := gK_e h
  refine g_putI C tb_X12_toRest_0_ok (i := 2) rfl fl_X12_150 ft_12_4 rfl k1 ?_
  refine g_mem (fun M2 eM2 => ?_)
  have h := lt_e eM2 h
  refine g_iconstv C tb_X12_toRest_0_ok (i := 3) (-1) rfl k_iconstv_m1 ?_
  refine g_topi (fun v3 ev3 => ?_)
  have h := lt_e ev3 h
  refine g_istore_n C tb_X12_toRest_0_ok (i := 4) rfl rfl rfl ?_
  refine g_aload_n C tb_X12_toRest_0_ok (i := 5) rfl rfl ?_
  obtain ⟨r4, M5, er4, h⟩ := c0_e h
  refine g_callV0 C tb_X12_toRest_0_ok (i := 6) [] rfl mw_X12_unevenNext mv_X12_unevenNext ml_X12_463 k1 rfl rfl rfl rfl (w_X12_unevenNext C.G y a0 M2) er4 rfl rfl rfl ?_
  refine g_istore_n C tb_X12_toRest_0_ok (i := 7) rfl rfl rfl ?_
  refine g_aload_n C tb_X12_toRest_0_ok (i := 8) rfl rfl ?_
  refine g_getI C tb_X12_toRest_0_ok (i := 9) rfl fl_X12_339 rfl k1 ?_
  refine g_topi (fun v6 ev6 => ?_)
  have h := lt_e ev6 h
  refine g_istore_n C tb_X12_toRest_0_ok (i := 10) rfl rfl rfl ?_
  refine g_iconstv C tb_X12_toRest_0_ok (i := 11) 0 rfl k_iconstv_0 ?_
  refine g_istore C tb_X12_toRest_0_ok (i := 12) rfl rfl rfl ?_
  refine g_less (L' := [some (.ref a0), some (.int v3), some (.int r4), some (.int v6), some (.int (0 : Int32)), none]) ⟨rfl, ⟨rfl, ⟨rfl, ⟨rfl, ⟨rfl, trivial⟩⟩⟩⟩⟩ ?_
  refine fix_i (P := fun (f : Int32 → Int32 → Int32 → Mem → Option (Int32 × Mem)) => ∀ (v7 : Int32) (v8 : Int32) (v9 : Int32) (M10 : Mem), f v7 v8 v9 M10 = some out → GG g x 6 Q 0 0 y M10 20 [some (.ref a0), some (.int v7), some (.int v8), some (.int v6), some (.int v9), none] []) ?_ ?_ _ v3 r4 (0 : Int32) M5 h
  · intro v7 v8 v9 M10 h; exact (nn_e h).elim
  · intro s11 ih12 v7 v8 v9 M10 h
    refine g_iload C tb_X12_toRest_0_ok (i := 13) rfl rfl ?_
    refine g_aload_n C tb_X12_toRest_0_ok (i := 14) rfl rfl ?_
    obtain ⟨n13, h⟩ := gN_e h
    refine g_getR C tb_X12_toRest_0_ok (i := 15) rfl fl_X12_40 rfl k1 n13 ?_
    refine g_iconstv C tb_X12_toRest_0_ok (i := 16) 2 rfl k_iconstv_2 ?_
    obtain ⟨b14, h⟩ := gA_e h
    refine g_iald C tb_X12_toRest_0_ok (i := 17) rfl b14 ?_
    obtain ⟨t15, f16⟩ := br_e h
    refine g_icmp_ge C tb_X12_toRest_0_ok (i := 18) 85 rfl rfl (fun c => ?_) (fun c => ?_)
    · have h := t15 c
      refine g_iload_n C tb_X12_toRest_1_ok (i := 7) rfl rfl ?_
      cases h
      exact g_iret0 C R tb_X12_toRest_1_ok (i := 8) rfl
    · have h := f16 c
      refine g_iload_n C tb_X12_toRest_0_ok (i := 19) rfl rfl ?_
      refine g_iload C tb_X12_toRest_0_ok (i := 20) rfl rfl ?_
      obtain ⟨r17, er17, h⟩ := cp_e h
      refine g_callS0 C tb_X12_toRest_0_ok (i := 21) [.int v6, .int v9] rfl mw_X12_isOf mst_X12_isOf ml_X12_232 rfl rfl rfl rfl (w_X12_isOf C.G y v6 v9 M10) (pm_s er17) rfl rfl rfl ?_
      obtain ⟨j21, ej21, h⟩ := jn_e h
      have J79 : ∀ (v18 : Int32) (v19 : Int32) (M20 : Mem), j21 v18 v19 M20 = some out → GG g x 6 Q 0 0 y M20 79 [some (.ref a0), some (.int v18), some (.int v19), some (.int v6), some (.int v9), none] [] := by
        intro v18 v19 M20 h; subst ej21
        obtain ⟨v22, ev22⟩ : ∃ w : Int32, w = v9 + (1 : Int32) := ⟨_, rfl⟩
        have h := lt_e ev22 h
        refine g_iincv C tb_X12_toRest_1_ok (i := 5) (1 : Int32) ev22 rfl rfl k_iconstv_1 rfl rfl ?_
        refine g_goto C tb_X12_toRest_1_ok (i := 6) 20 rfl rfl ?_
        exact g_less (L' := [some (.ref a0), some (.int v18), some (.int v19), some (.int v6), some (.int v22), none]) ⟨rfl, ⟨rfl, ⟨rfl, ⟨rfl, ⟨rfl, trivial⟩⟩⟩⟩⟩ (ih12 v18 v19 v22 M20 h)
      obtain ⟨t23, f24⟩ := br_e h
      refine g_if_eq C tb_X12_toRest_0_ok (i := 22) 43 rfl rfl (fun c => ?_) (fun c => ?_)
      · have h := t23 c
        refine g_aload_n C tb_X12_toRest_0_ok (i := 24) rfl rfl ?_
        refine g_iload_n C tb_X12_toRest_0_ok (i := 25) rfl rfl ?_
        refine g_iconstv C tb_X12_toRest_0_ok (i := 26) 1 rfl k_iconstv_1 ?_
        refine g_iload C tb_X12_toRest_0_ok (i := 27) rfl rfl ?_
        refine g_ishl C tb_X12_toRest_0_ok (i := 28) rfl ?_
        refine g_ior C tb_X12_toRest_0_ok (i := 29) rfl ?_
        refine g_putI C tb_X12_toRest_0_ok (i := 30) rfl fl_X12_339 ft_12_35 rfl k1 ?_
        refine g_mem (fun M25 eM25 => ?_)
        have h := lt_e eM25 h
        refine g_aload_n C tb_X12_toRest_0_ok (i := 31) rfl rfl ?_
        obtain ⟨r26, M27, er26, h⟩ := c0_e h
        refine g_callV0 C tb_X12_toRest_0_ok (i := 32) [] rfl mw_X12_unevenNext mv_X12_unevenNext ml_X12_463 k1 rfl rfl rfl rfl (w_X12_unevenNext C.G y a0 M25) er26 rfl rfl rfl ?_
        refine g_istore C tb_X12_toRest_0_ok (i := 33) rfl rfl rfl ?_
        refine g_aload_n C tb_X12_toRest_0_ok (i := 34) rfl rfl ?_
        refine g_iload_n C tb_X12_toRest_0_ok (i := 35) rfl rfl ?_
        refine g_putI C tb_X12_toRest_0_ok (i := 36) rfl fl_X12_339 ft_12_35 rfl k1 ?_
        refine g_mem (fun M28 eM28 => ?_)
        have h := lt_e eM28 h
        refine g_iload C tb_X12_toRest_0_ok (i := 37) rfl rfl ?_
        refine g_iload_n C tb_X12_toRest_0_ok (i := 38) rfl rfl ?_
        obtain ⟨t29, f30⟩ := br_e h
        refine g_icmp_lt C tb_X12_toRest_0_ok (i := 39) 73 rfl rfl (fun c => ?_) (fun c => ?_)
        · have h := t29 c
          refine g_iload C tb_X12_toRest_1_ok (i := 1) rfl rfl ?_
          refine g_istore_n C tb_X12_toRest_1_ok (i := 2) rfl rfl rfl ?_
          refine g_iload C tb_X12_toRest_1_ok (i := 3) rfl rfl ?_
          refine g_istore_n C tb_X12_toRest_1_ok (i := 4) rfl rfl rfl ?_
          exact g_less (L' := [some (.ref a0), some (.int v9), some (.int r26), some (.int v6), some (.int v9), none]) ⟨rfl, ⟨rfl, ⟨rfl, ⟨rfl, ⟨rfl, trivial⟩⟩⟩⟩⟩ (J79 v9 r26 M28 h)
        · have h := f30 c
          refine g_goto C tb_X12_toRest_1_ok (i := 0) 79 rfl rfl ?_
          exact g_less (L' := [some (.ref a0), some (.int v7), some (.int v8), some (.int v6), some (.int v9), none]) ⟨rfl, ⟨rfl, ⟨rfl, ⟨rfl, ⟨rfl, trivial⟩⟩⟩⟩⟩ (J79 v7 v8 M28 h)
      · have h := f24 c
        refine g_goto C tb_X12_toRest_0_ok (i := 23) 79 rfl rfl ?_
        exact g_less (L' := [some (.ref a0), some (.int v7), some (.int v8), some (.int v6), some (.int v9), none]) ⟨rfl, ⟨rfl, ⟨rfl, ⟨rfl, ⟨rfl, trivial⟩⟩⟩⟩⟩ (J79 v7 v8 M10 h)
def f_X12_toStand (y : Lay) (a0 : Nat) (a1 : Int32) (a2 : Int32) (M : Mem) : Option (Int32 × Mem) := gK y a0 (0, 12) (lt (wI M a0 4 (0 : Int32)) fun (M2 : Mem) => cp (f_X12_isGirl y a0 a1 M2) fun (r3 : Int32) => jn (fun (_u : Unit) => c0 (f_X12_fail y a0 (1 : Int32) M2) fun (r5 : Int32) (M6 : Mem) => some (r5, M6)) fun j4 => br (r3 = 0) (j4 ()) (br (a2 < 0) (j4 ()) (br (a2 ≤ (1 : Int32)) (gN (y.2.1 a0 29) (gA y (y.2.1 a0 29) 1 a1 (lt (M2.1 (y.2.1 a0 29) a1.toNatClampNeg) fun (v15 : Int32) => lt ((-1) : Int32) fun (v16 : Int32) => fixN (fun _ _ _ _ => none) (fun (s21 : Int32 → Int32 → Int32 → Mem → Option (Int32 × Mem)) (v17 : Int32) (v18 : Int32) (v19 : Int32) (M20 : Mem) => cp (f_X12_cells y a0 M20) fun (r23 : Int32) => br (r23 ≤ v19) (gA y (y.2.1 a0 29) 1 a1 (lt (wI M20 (y.2.1 a0 29) a1.toNatClampNeg v15) fun (M27 : Mem) => jn (fun (v28 : Int32) => some (v28, M27)) fun j29 => br (a2 = 0) (j29 v17) (j29 v18))) (gA y (y.2.1 a0 29) 1 a1 (lt (wI M20 (y.2.1 a0 29) a1.toNatClampNeg v19) fun (M33 : Mem) => c0 (f_X12_unevenNext y a0 M33) fun (r34 : Int32) (M35 : Mem) => jn (fun (v36 : Int32) (v37 : Int32) => lt (v19 + (1 : Int32)) fun (v39 : Int32) => s21 v36 v37 v39 M35) fun j38 => jn (fun (_u : Unit) => j38 v19 r34) fun j40 => br (v17 = ((-1) : Int32)) (j40 ()) (br (r34 < v18) (j40 ()) (j38 v17 v18))))) FUEL v16 (0 : Int32) (0 : Int32) M2))) (j4 ()))))
theorem w_X12_toStand {g : GX} {l : Launch} (hG : GF g l) (y : Lay) (a0 : Nat) (a1 : Int32) (a2 : Int32) (M : Mem) : C0 g l yX12_toStand cX12_toStand 8 (some .int) 9 y [.ref a0, .int a1, .int a2] M (f_X12_toStand y a0 a1 a2 M) := by
  refine C0_of hG (by decide) [some (.ref a0), some (.int a1), some (.int a2), none, none, none, none, none] rfl rfl (fun out h x Q C R => ?_)
  unfold f_X12_toStand at h
  refine g_aload_n C tb_X12_toStand_0_ok (i := 0) rfl rfl ?_
  refine g_iconstv C tb_X12_toStand_0_ok (i := 1) 0 rfl k_iconstv_0 ?_
  obtain ⟨k1, h⟩ := gK_e h
  refine g_putI C tb_X12_toStand_0_ok (i := 2) rfl fl_X12_150 ft_12_4 rfl k1 ?_
  refine g_mem (fun M2 eM2 => ?_)
  have h := lt_e eM2 h
  refine g_aload_n C tb_X12_toStand_0_ok (i := 3) rfl rfl ?_
  refine g_iload_n C tb_X12_toStand_0_ok (i := 4) rfl rfl ?_
  obtain ⟨r3, er3, h⟩ := cp_e h
  refine g_callV0 C tb_X12_toStand_0_ok (i := 5) [.int a1] rfl mw_X12_isGirl mv_X12_isGirl ml_X12_417 k1 rfl rfl rfl rfl (w_X12_isGirl C.G y a0 a1 M2) (pm_s er3) rfl rfl rfl ?_
  obtain ⟨j4, ej4, h⟩ := jn_e h
  have J22 : ∀ (_u : Unit), j4 _u = some out → GG g x 8 Q 0 0 y M2 22 [some (.ref a0), none, none, none, none, none, none, none] [] := by
    intro _u h; subst ej4
    refine g_aload_n C tb_X12_toStand_0_ok (i := 12) rfl rfl ?_
    refine g_iconstv C tb_X12_toStand_0_ok (i := 13) 1 rfl k_iconstv_1 ?_
    obtain ⟨r5, M6, er5, h⟩ := c0_e h
    refine g_callV0 C tb_X12_toStand_0_ok (i := 14) [.int (1 : Int32)] rfl mw_X12_fail mv_X12_fail ml_X12_318 k1 rfl rfl rfl rfl (w_X12_fail C.G y a0 (1 : Int32) M2) er5 rfl rfl rfl ?_
    cases h
    exact g_iret0 C R tb_X12_toStand_0_ok (i := 15) rfl
  obtain ⟨t7, f8⟩ := br_e h
  refine g_if_eq C tb_X12_toStand_0_ok (i := 6) 22 rfl rfl (fun c => ?_) (fun c => ?_)
  · have h := t7 c
    exact g_less (L' := [some (.ref a0), none, none, none, none, none, none, none]) ⟨rfl, trivial⟩ (J22 () h)
  · have h := f8 c
    refine g_iload_n C tb_X12_toStand_0_ok (i := 7) rfl rfl ?_
    obtain ⟨t9, f10⟩ := br_e h
    refine g_if_lt C tb_X12_toStand_0_ok (i := 8) 22 rfl rfl (fun c => ?_) (fun c => ?_)
    · have h := t9 c
      exact g_less (L' := [some (.ref a0), none, none, none, none, none, none, none]) ⟨rfl, trivial⟩ (J22 () h)
    · have h := f10 c
      refine g_iload_n C tb_X12_toStand_0_ok (i := 9) rfl rfl ?_
      refine g_iconstv C tb_X12_toStand_0_ok (i := 10) 1 rfl k_iconstv_1 ?_
      obtain ⟨t11, f12⟩ := br_e h
      refine g_icmp_le C tb_X12_toStand_0_ok (i := 11) 28 rfl rfl (fun c => ?_) (fun c => ?_)
      · have h := t11 c
        refine g_aload_n C tb_X12_toStand_0_ok (i := 16) rfl rfl ?_
        obtain ⟨n13, h⟩ := gN_e h
        refine g_getR C tb_X12_toStand_0_ok (i := 17) rfl fl_X12_77 rfl k1 n13 ?_
        refine g_iload_n C tb_X12_toStand_0_ok (i := 18) rfl rfl ?_
        obtain ⟨b14, h⟩ := gA_e h
        refine g_iald C tb_X12_toStand_0_ok (i := 19) rfl b14 ?_
        refine g_topi (fun v15 ev15 => ?_)
        have h := lt_e ev15 h
        refine g_istore_n C tb_X12_toStand_0_ok (i := 20) rfl rfl rfl ?_
        refine g_iconstv C tb_X12_toStand_0_ok (i := 21) (-1) rfl k_iconstv_m1 ?_
        refine g_topi (fun v16 ev16 => ?_)
        have h := lt_e ev16 h
        refine g_istore C tb_X12_toStand_0_ok (i := 22) rfl rfl rfl ?_
        refine g_iconstv C tb_X12_toStand_0_ok (i := 23) 0 rfl k_iconstv_0 ?_
        refine g_istore C tb_X12_toStand_0_ok (i := 24) rfl rfl rfl ?_
        refine g_iconstv C tb_X12_toStand_0_ok (i := 25) 0 rfl k_iconstv_0 ?_
        refine g_istore C tb_X12_toStand_0_ok (i := 26) rfl rfl rfl ?_
        refine g_less (L' := [some (.ref a0), some (.int a1), some (.int a2), some (.int v15), some (.int v16), some (.int (0 : Int32)), some (.int (0 : Int32)), none]) ⟨rfl, ⟨rfl, ⟨rfl, ⟨rfl, ⟨rfl, ⟨rfl, ⟨rfl, trivial⟩⟩⟩⟩⟩⟩⟩ ?_
        refine fix_i (P := fun (f : Int32 → Int32 → Int32 → Mem → Option (Int32 × Mem)) => ∀ (v17 : Int32) (v18 : Int32) (v19 : Int32) (M20 : Mem), f v17 v18 v19 M20 = some out → GG g x 8 Q 0 0 y M20 44 [some (.ref a0), some (.int a1), some (.int a2), some (.int v15), some (.int v17), some (.int v18), some (.int v19), none] []) ?_ ?_ _ v16 (0 : Int32) (0 : Int32) M2 h
        · intro v17 v18 v19 M20 h; exact (nn_e h).elim
        · intro s21 ih22 v17 v18 v19 M20 h
          refine g_iload C tb_X12_toStand_0_ok (i := 27) rfl rfl ?_
          refine g_aload_n C tb_X12_toStand_0_ok (i := 28) rfl rfl ?_
          obtain ⟨r23, er23, h⟩ := cp_e h
          refine g_callV0 C tb_X12_toStand_0_ok (i := 29) [] rfl mw_X12_cells mv_X12_cells ml_X12_153 k1 rfl rfl rfl rfl (w_X12_cells C.G y a0 M20) (pm_s er23) rfl rfl rfl ?_
          obtain ⟨t24, f25⟩ := br_e h
          refine g_icmp_ge C tb_X12_toStand_0_ok (i := 30) 97 rfl rfl (fun c => ?_) (fun c => ?_)
          · have h := t24 c
            refine g_aload_n C tb_X12_toStand_1_ok (i := 12) rfl rfl ?_
            refine g_getR C tb_X12_toStand_1_ok (i := 13) rfl fl_X12_77 rfl k1 n13 ?_
            refine g_iload_n C tb_X12_toStand_1_ok (i := 14) rfl rfl ?_
            refine g_iload_n C tb_X12_toStand_1_ok (i := 15) rfl rfl ?_
            obtain ⟨b26, h⟩ := gA_e h
            refine g_iast C tb_X12_toStand_1_ok (i := 16) rfl b26 ?_
            refine g_mem (fun M27 eM27 => ?_)
            have h := lt_e eM27 h
            refine g_iload_n C tb_X12_toStand_1_ok (i := 17) rfl rfl ?_
            obtain ⟨j29, ej29, h⟩ := jn_e h
            have J115 : ∀ (v28 : Int32), j29 v28 = some out → GG g x 8 Q 0 0 y M27 115 [none, none, none, none, none, none, none, none] [.int v28] := by
              intro v28 h; subst ej29
              cases h
              exact g_iret0 C R tb_X12_toStand_1_ok (i := 22) rfl
            obtain ⟨t30, f31⟩ := br_e h
            refine g_if_ne C tb_X12_toStand_1_ok (i := 18) 113 rfl rfl (fun c => ?_) (fun c => ?_)
            · have h := f31 c
              refine g_iload C tb_X12_toStand_1_ok (i := 21) rfl rfl ?_
              exact g_less (L' := [none, none, none, none, none, none, none, none]) trivial (J115 v18 h)
            · have h := t30 c
              refine g_iload C tb_X12_toStand_1_ok (i := 19) rfl rfl ?_
              refine g_goto C tb_X12_toStand_1_ok (i := 20) 115 rfl rfl ?_
              exact g_less (L' := [none, none, none, none, none, none, none, none]) trivial (J115 v17 h)
          · have h := f25 c
            refine g_aload_n C tb_X12_toStand_0_ok (i := 31) rfl rfl ?_
            refine g_getR C tb_X12_toStand_0_ok (i := 32) rfl fl_X12_77 rfl k1 n13 ?_
            refine g_iload_n C tb_X12_toStand_0_ok (i := 33) rfl rfl ?_
            refine g_iload C tb_X12_toStand_0_ok (i := 34) rfl rfl ?_
            obtain ⟨b32, h⟩ := gA_e h
            refine g_iast C tb_X12_toStand_0_ok (i := 35) rfl b32 ?_
            refine g_mem (fun M33 eM33 => ?_)
            have h := lt_e eM33 h
            refine g_aload_n C tb_X12_toStand_0_ok (i := 36) rfl rfl ?_
            obtain ⟨r34, M35, er34, h⟩ := c0_e h
            refine g_callV0 C tb_X12_toStand_0_ok (i := 37) [] rfl mw_X12_unevenNext mv_X12_unevenNext ml_X12_463 k1 rfl rfl rfl rfl (w_X12_unevenNext C.G y a0 M33) er34 rfl rfl rfl ?_
            refine g_istore C tb_X12_toStand_0_ok (i := 38) rfl rfl rfl ?_
            refine g_iload C tb_X12_toStand_0_ok (i := 39) rfl rfl ?_
            refine g_iconstv C tb_X12_toStand_1_ok (i := 0) (-1) rfl k_iconstv_m1 ?_
            obtain ⟨j38, ej38, h⟩ := jn_e h
            have J91 : ∀ (v36 : Int32) (v37 : Int32), j38 v36 v37 = some out → GG g x 8 Q 0 0 y M35 91 [some (.ref a0), some (.int a1), some (.int a2), some (.int v15), some (.int v36), some (.int v37), some (.int v19), none] [] := by
              intro v36 v37 h; subst ej38
              obtain ⟨v39, ev39⟩ : ∃ w : Int32, w = v19 + (1 : Int32) := ⟨_, rfl⟩
              have h := lt_e ev39 h
              refine g_iincv C tb_X12_toStand_1_ok (i := 10) (1 : Int32) ev39 rfl rfl k_iconstv_1 rfl rfl ?_
              refine g_goto C tb_X12_toStand_1_ok (i := 11) 44 rfl rfl ?_
              exact g_less (L' := [some (.ref a0), some (.int a1), some (.int a2), some (.int v15), some (.int v36), some (.int v37), some (.int v39), none]) ⟨rfl, ⟨rfl, ⟨rfl, ⟨rfl, ⟨rfl, ⟨rfl, ⟨rfl, trivial⟩⟩⟩⟩⟩⟩⟩ (ih22 v36 v37 v39 M35 h)
            obtain ⟨j40, ej40, h⟩ := jn_e h
            have J83 : ∀ (_u : Unit), j40 _u = some out → GG g x 8 Q 0 0 y M35 83 [some (.ref a0), some (.int a1), some (.int a2), some (.int v15), none, none, some (.int v19), some (.int r34)] [] := by
              intro _u h; subst ej40
              refine g_iload C tb_X12_toStand_1_ok (i := 6) rfl rfl ?_
              refine g_istore C tb_X12_toStand_1_ok (i := 7) rfl rfl rfl ?_
              refine g_iload C tb_X12_toStand_1_ok (i := 8) rfl rfl ?_
              refine g_istore C tb_X12_toStand_1_ok (i := 9) rfl rfl rfl ?_
              exact g_less (L' := [some (.ref a0), some (.int a1), some (.int a2), some (.int v15), some (.int v19), some (.int r34), some (.int v19), none]) ⟨rfl, ⟨rfl, ⟨rfl, ⟨rfl, ⟨rfl, ⟨rfl, ⟨rfl, trivial⟩⟩⟩⟩⟩⟩⟩ (J91 v19 r34 h)
            obtain ⟨t41, f42⟩ := br_e h
            refine g_icmp_eq C tb_X12_toStand_1_ok (i := 1) 83 rfl rfl (fun c => ?_) (fun c => ?_)
            · have h := t41 c
              exact g_less (L' := [some (.ref a0), some (.int a1), some (.int a2), some (.int v15), none, none, some (.int v19), some (.int r34)]) ⟨rfl, ⟨rfl, ⟨rfl, ⟨rfl, ⟨rfl, ⟨rfl, trivial⟩⟩⟩⟩⟩⟩ (J83 () h)
            · have h := f42 c
              refine g_iload C tb_X12_toStand_1_ok (i := 2) rfl rfl ?_
              refine g_iload C tb_X12_toStand_1_ok (i := 3) rfl rfl ?_
              obtain ⟨t43, f44⟩ := br_e h
              refine g_icmp_lt C tb_X12_toStand_1_ok (i := 4) 83 rfl rfl (fun c => ?_) (fun c => ?_)
              · have h := t43 c
                exact g_less (L' := [some (.ref a0), some (.int a1), some (.int a2), some (.int v15), none, none, some (.int v19), some (.int r34)]) ⟨rfl, ⟨rfl, ⟨rfl, ⟨rfl, ⟨rfl, ⟨rfl, trivial⟩⟩⟩⟩⟩⟩ (J83 () h)
              · have h := f44 c
                refine g_goto C tb_X12_toStand_1_ok (i := 5) 91 rfl rfl ?_
                exact g_less (L' := [some (.ref a0), some (.int a1), some (.int a2), some (.int v15), some (.int v17), some (.int v18), some (.int v19), none]) ⟨rfl, ⟨rfl, ⟨rfl, ⟨rfl, ⟨rfl, ⟨rfl, ⟨rfl, trivial⟩⟩⟩⟩⟩⟩⟩ (J91 v17 v18 h)
      · have h := f12 c
        exact g_less (L' := [some (.ref a0), none, none, none, none, none, none, none]) ⟨rfl, trivial⟩ (J22 () h)
def f_X12_toSwish (y : Lay) (a0 : Nat) (a1 : Int32) (a2 : Int32) (M : Mem) : Option (Int32 × Mem) := gK y a0 (0, 12) (lt (wI M a0 4 (0 : Int32)) fun (M2 : Mem) => cp (f_X12_isGirl y a0 a1 M2) fun (r3 : Int32) => br (r3 = 0) (c0 (f_X12_fail y a0 (1 : Int32) M2) fun (r36 : Int32) (M37 : Mem) => some (r36, M37)) (cp (f_X12_isIn y (a2.toInt64) (0 : Int64) (99 : Int64) M2) fun (r6 : Int32) => br (r6 = 0) (c0 (f_X12_fail y a0 (2 : Int32) M2) fun (r34 : Int32) (M35 : Mem) => some (r34, M35)) (gN (y.2.1 a0 42) (c0 (f_X12_pack y a0 (y.2.1 a0 42) (0 : Int32) M2) fun (r10 : Int32) (M11 : Mem) => fixN (fun _ _ => none) (fun (s14 : Int32 → Mem → Option (Int32 × Mem)) (v12 : Int32) (M13 : Mem) => jn (fun (_u : Unit) => c0 (f_X12_unpack y a0 (y.2.1 a0 42) (0 : Int32) M13) fun (r17 : Int32) (M18 : Mem) => jn (fun (v19 : Int32) => some (v19, M18)) fun j20 => br (v12 ≤ (20 : Int32)) (j20 v12) (j20 ((-1) : Int32))) fun j16 => br ((20 : Int32) < v12) (j16 ()) (gN (y.2.1 a0 28) (gN (y.2.1 a0 29) (gA y (y.2.1 a0 29) 1 a1 (gA y (y.2.1 a0 28) 1 (M13.1 (y.2.1 a0 29) a1.toNatClampNeg) (br (a2 ≤ (M13.1 (y.2.1 a0 28) (M13.1 (y.2.1 a0 29) a1.toNatClampNeg).toNatClampNeg)) (j16 ()) (c0 (f_X12_swish y a0 a1 (M13.1 a0 32) M13) fun (r31 : Int32) (M32 : Mem) => lt (v12 + (1 : Int32)) fun (v33 : Int32) => s14 v33 M32))))))) FUEL (0 : Int32) M11))))
theorem w_X12_toSwish {g : GX} {l : Launch} (hG : GF g l) (y : Lay) (a0 : Nat) (a1 : Int32) (a2 : Int32) (M : Mem) : C0 g l yX12_toSwish cX12_toSwish 4 (some .int) 7 y [.ref a0, .int a1, .int a2] M (f_X12_toSwish y a0 a1 a2 M) := by
  refine C0_of hG (by decide) [some (.ref a0), some (.int a1), some (.int a2), none] rfl rfl (fun out h x Q C R => ?_)
  unfold f_X12_toSwish at h
  refine g_aload_n C tb_X12_toSwish_0_ok (i := 0) rfl rfl ?_
  refine g_iconstv C tb_X12_toSwish_0_ok (i := 1) 0 rfl k_iconstv_0 ?_
  obtain ⟨k1, h⟩ := gK_e h
  refine g_putI C tb_X12_toSwish_0_ok (i := 2) rfl fl_X12_150 ft_12_4 rfl k1 ?_
  refine g_mem (fun M2 eM2 => ?_)
  have h := lt_e eM2 h
  refine g_aload_n C tb_X12_toSwish_0_ok (i := 3) rfl rfl ?_
  refine g_iload_n C tb_X12_toSwish_0_ok (i := 4) rfl rfl ?_
  obtain ⟨r3, er3, h⟩ := cp_e h
  refine g_callV0 C tb_X12_toSwish_0_ok (i := 5) [.int a1] rfl mw_X12_isGirl mv_X12_isGirl ml_X12_417 k1 rfl rfl rfl rfl (w_X12_isGirl C.G y a0 a1 M2) (pm_s er3) rfl rfl rfl ?_
  obtain ⟨t4, f5⟩ := br_e h
  refine g_if_ne C tb_X12_toSwish_0_ok (i := 6) 19 rfl rfl (fun c => ?_) (fun c => ?_)
  · have h := f5 c
    refine g_iload_n C tb_X12_toSwish_0_ok (i := 11) rfl rfl ?_
    refine g_i2l C tb_X12_toSwish_0_ok (i := 12) rfl ?_
    refine g_lconst C tb_X12_toSwish_0_ok (i := 13) 0 rfl rfl ?_
    refine g_ldc2 C tb_X12_toSwish_0_ok (i := 14) rfl cl_X12_461 ?_
    obtain ⟨r6, er6, h⟩ := cp_e h
    refine g_callS0 C tb_X12_toSwish_0_ok (i := 15) [.long (a2.toInt64), .long (0 : Int64), .long (99 : Int64)] rfl mw_X12_isIn mst_X12_isIn ml_X12_157 rfl rfl rfl rfl (w_X12_isIn C.G y (a2.toInt64) (0 : Int64) (99 : Int64) M2) (pm_s er6) rfl rfl rfl ?_
    obtain ⟨t7, f8⟩ := br_e h
    refine g_if_ne C tb_X12_toSwish_0_ok (i := 16) 37 rfl rfl (fun c => ?_) (fun c => ?_)
    · have h := f8 c
      refine g_aload_n C tb_X12_toSwish_0_ok (i := 21) rfl rfl ?_
      refine g_aload_n C tb_X12_toSwish_0_ok (i := 22) rfl rfl ?_
      obtain ⟨n9, h⟩ := gN_e h
      refine g_getR C tb_X12_toSwish_0_ok (i := 23) rfl fl_X12_92 rfl k1 n9 ?_
      refine g_iconstv C tb_X12_toSwish_0_ok (i := 24) 0 rfl k_iconstv_0 ?_
      obtain ⟨r10, M11, er10, h⟩ := c0_e h
      refine g_callV0 C tb_X12_toSwish_0_ok (i := 25) [.ref (y.2.1 a0 42), .int (0 : Int32)] rfl mw_X12_pack mv_X12_pack ml_X12_420 k1 rfl rfl rfl rfl (w_X12_pack C.G y a0 (y.2.1 a0 42) (0 : Int32) M2) er10 rfl rfl rfl ?_
      refine g_iconstv C tb_X12_toSwish_0_ok (i := 26) 0 rfl k_iconstv_0 ?_
      refine g_istore_n C tb_X12_toSwish_0_ok (i := 27) rfl rfl rfl ?_
      refine g_less (L' := [some (.ref a0), some (.int a1), some (.int a2), some (.int (0 : Int32))]) ⟨rfl, ⟨rfl, ⟨rfl, ⟨rfl, trivial⟩⟩⟩⟩ ?_
      refine fix_i (P := fun (f : Int32 → Mem → Option (Int32 × Mem)) => ∀ (v12 : Int32) (M13 : Mem), f v12 M13 = some out → GG g x 4 Q 0 0 y M13 48 [some (.ref a0), some (.int a1), some (.int a2), some (.int v12)] []) ?_ ?_ _ (0 : Int32) M11 h
      · intro v12 M13 h; exact (nn_e h).elim
      · intro s14 ih15 v12 M13 h
        refine g_iload_n C tb_X12_toSwish_0_ok (i := 28) rfl rfl ?_
        refine g_bipushv C tb_X12_toSwish_0_ok (i := 29) 20 rfl k_bipushv_20 ?_
        obtain ⟨j16, ej16, h⟩ := jn_e h
        have J84 : ∀ (_u : Unit), j16 _u = some out → GG g x 4 Q 0 0 y M13 84 [some (.ref a0), none, none, some (.int v12)] [] := by
          intro _u h; subst ej16
          refine g_aload_n C tb_X12_toSwish_1_ok (i := 7) rfl rfl ?_
          refine g_aload_n C tb_X12_toSwish_1_ok (i := 8) rfl rfl ?_
          refine g_getR C tb_X12_toSwish_1_ok (i := 9) rfl fl_X12_92 rfl k1 n9 ?_
          refine g_iconstv C tb_X12_toSwish_1_ok (i := 10) 0 rfl k_iconstv_0 ?_
          obtain ⟨r17, M18, er17, h⟩ := c0_e h
          refine g_callV0 C tb_X12_toSwish_1_ok (i := 11) [.ref (y.2.1 a0 42), .int (0 : Int32)] rfl mw_X12_unpack mv_X12_unpack ml_X12_440 k1 rfl rfl rfl rfl (w_X12_unpack C.G y a0 (y.2.1 a0 42) (0 : Int32) M13) er17 rfl rfl rfl ?_
          refine g_iload_n C tb_X12_toSwish_1_ok (i := 12) rfl rfl ?_
          refine g_bipushv C tb_X12_toSwish_1_ok (i := 13) 20 rfl k_bipushv_20 ?_
          obtain ⟨j20, ej20, h⟩ := jn_e h
          have J104 : ∀ (v19 : Int32), j20 v19 = some out → GG g x 4 Q 0 0 y M18 104 [none, none, none, none] [.int v19] := by
            intro v19 h; subst ej20
            cases h
            exact g_iret0 C R tb_X12_toSwish_1_ok (i := 18) rfl
          obtain ⟨t21, f22⟩ := br_e h
          refine g_icmp_le C tb_X12_toSwish_1_ok (i := 14) 103 rfl rfl (fun c => ?_) (fun c => ?_)
          · have h := t21 c
            refine g_iload_n C tb_X12_toSwish_1_ok (i := 17) rfl rfl ?_
            exact g_less (L' := [none, none, none, none]) trivial (J104 v12 h)
          · have h := f22 c
            refine g_iconstv C tb_X12_toSwish_1_ok (i := 15) (-1) rfl k_iconstv_m1 ?_
            refine g_goto C tb_X12_toSwish_1_ok (i := 16) 104 rfl rfl ?_
            exact g_less (L' := [none, none, none, none]) trivial (J104 ((-1) : Int32) h)
        obtain ⟨t23, f24⟩ := br_e h
        refine g_icmp_gt C tb_X12_toSwish_0_ok (i := 30) 84 rfl rfl (fun c => ?_) (fun c => ?_)
        · have h := t23 c
          exact g_less (L' := [some (.ref a0), none, none, some (.int v12)]) ⟨rfl, ⟨rfl, trivial⟩⟩ (J84 () h)
        · have h := f24 c
          refine g_aload_n C tb_X12_toSwish_0_ok (i := 31) rfl rfl ?_
          obtain ⟨n25, h⟩ := gN_e h
          refine g_getR C tb_X12_toSwish_0_ok (i := 32) rfl fl_X12_75 rfl k1 n25 ?_
          refine g_aload_n C tb_X12_toSwish_0_ok (i := 33) rfl rfl ?_
          obtain ⟨n26, h⟩ := gN_e h
          refine g_getR C tb_X12_toSwish_0_ok (i := 34) rfl fl_X12_77 rfl k1 n26 ?_
          refine g_iload_n C tb_X12_toSwish_0_ok (i := 35) rfl rfl ?_
          obtain ⟨b27, h⟩ := gA_e h
          refine g_iald C tb_X12_toSwish_0_ok (i := 36) rfl b27 ?_
          obtain ⟨b28, h⟩ := gA_e h
          refine g_iald C tb_X12_toSwish_0_ok (i := 37) rfl b28 ?_
          refine g_iload_n C tb_X12_toSwish_0_ok (i := 38) rfl rfl ?_
          obtain ⟨t29, f30⟩ := br_e h
          refine g_icmp_ge C tb_X12_toSwish_0_ok (i := 39) 84 rfl rfl (fun c => ?_) (fun c => ?_)
          · have h := t29 c
            exact g_less (L' := [some (.ref a0), none, none, some (.int v12)]) ⟨rfl, ⟨rfl, trivial⟩⟩ (J84 () h)
          · have h := f30 c
            refine g_aload_n C tb_X12_toSwish_1_ok (i := 0) rfl rfl ?_
            refine g_iload_n C tb_X12_toSwish_1_ok (i := 1) rfl rfl ?_
            refine g_aload_n C tb_X12_toSwish_1_ok (i := 2) rfl rfl ?_
            refine g_getI C tb_X12_toSwish_1_ok (i := 3) rfl fl_X12_147 rfl k1 ?_
            obtain ⟨r31, M32, er31, h⟩ := c0_e h
            refine g_callV0 C tb_X12_toSwish_1_ok (i := 4) [.int a1, .int (M13.1 a0 32)] rfl mw_X12_swish mv_X12_swish ml_X12_390 k1 rfl rfl rfl rfl (w_X12_swish C.G y a0 a1 (M13.1 a0 32) M13) er31 rfl rfl rfl ?_
            obtain ⟨v33, ev33⟩ : ∃ w : Int32, w = v12 + (1 : Int32) := ⟨_, rfl⟩
            have h := lt_e ev33 h
            refine g_iincv C tb_X12_toSwish_1_ok (i := 5) (1 : Int32) ev33 rfl rfl k_iconstv_1 rfl rfl ?_
            refine g_goto C tb_X12_toSwish_1_ok (i := 6) 48 rfl rfl ?_
            exact g_less (L' := [some (.ref a0), some (.int a1), some (.int a2), some (.int v33)]) ⟨rfl, ⟨rfl, ⟨rfl, ⟨rfl, trivial⟩⟩⟩⟩ (ih15 v33 M32 h)
    · have h := t7 c
      refine g_aload_n C tb_X12_toSwish_0_ok (i := 17) rfl rfl ?_
      refine g_iconstv C tb_X12_toSwish_0_ok (i := 18) 2 rfl k_iconstv_2 ?_
      obtain ⟨r34, M35, er34, h⟩ := c0_e h
      refine g_callV0 C tb_X12_toSwish_0_ok (i := 19) [.int (2 : Int32)] rfl mw_X12_fail mv_X12_fail ml_X12_318 k1 rfl rfl rfl rfl (w_X12_fail C.G y a0 (2 : Int32) M2) er34 rfl rfl rfl ?_
      cases h
      exact g_iret0 C R tb_X12_toSwish_0_ok (i := 20) rfl
  · have h := t4 c
    refine g_aload_n C tb_X12_toSwish_0_ok (i := 7) rfl rfl ?_
    refine g_iconstv C tb_X12_toSwish_0_ok (i := 8) 1 rfl k_iconstv_1 ?_
    obtain ⟨r36, M37, er36, h⟩ := c0_e h
    refine g_callV0 C tb_X12_toSwish_0_ok (i := 9) [.int (1 : Int32)] rfl mw_X12_fail mv_X12_fail ml_X12_318 k1 rfl rfl rfl rfl (w_X12_fail C.G y a0 (1 : Int32) M2) er36 rfl rfl rfl ?_
    cases h
    exact g_iret0 C R tb_X12_toSwish_0_ok (i := 10) rfl
