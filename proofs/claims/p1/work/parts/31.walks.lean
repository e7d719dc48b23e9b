def f_X9_init (y : Lay) (a0 : Nat) (M : Mem) : Option (Lay × Mem) := gd (y.2.2 + 2 ≤ 1000) (lt (psh y (2, 700)) fun (y2 : Lay) => lt (zM M (y.2.2 + 1)) fun (M3 : Mem) => gK y2 a0 (0, 9) (gN (y.2.2 + 1) (lt (wF y2 a0 0 (y.2.2 + 1)) fun (y6 : Lay) => some (y6, M3))))
theorem w_X9_init {g : GX} {l : Launch} (hG : GF g l) (y : Lay) (a0 : Nat) (M : Mem) : CIt g l yX9_init cX9_init 1 0 1 700 y [.ref a0] M (f_X9_init y a0 M) := by
  refine CI_of hG (by decide) rfl [some (.ref a0)] rfl rfl (fun out h x Q C R hz => ?_)
  have hz0 := hz
  unfold f_X9_init at h
  refine g_aload_n C tb_X9_init_0_ok (i := 0) rfl rfl ?_
  refine g_objI C tb_X9_init_0_ok (i := 1) rfl oi_X9_3 obj_w rfl ?_
  refine g_aload_n C tb_X9_init_0_ok (i := 2) rfl rfl ?_
  refine g_sipushv C tb_X9_init_0_ok (i := 3) 700 rfl k_sipushv_700 ?_
  obtain ⟨g1, h⟩ := gd_e h
  refine g_newaB C tb_X9_init_0_ok (i := 4) (N := 700) hz rfl acl_byte (by decide) (by decide) rfl g1 rfl rfl (fun hz => ?_)
  refine g_nm (fun y2 ey2 M3 eM3 => ?_)
  have h := lt_e eM3 (lt_e ey2 h)
  rw [← ey2] at hz
  obtain ⟨k4, h⟩ := gK_e h
  obtain ⟨n5, h⟩ := gN_e h
  refine g_putF C tb_X9_init_0_ok R (i := 5) rfl ff_X9_9 ft_9_0 (Or.inr ⟨_, rfl⟩) rfl n5 k4 ?_
  refine g_nmy (fun y6 ey6 => ?_)
  have h := lt_e ey6 h
  have hz : HZ g x _ y6 := by rw [ey6]; exact hz
  cases h
  exact g_vretI C R hz rfl (by have h8 : x.2.2.2.2.1.heap.size + 0 = bs g + y.2.2 := hz0; have h9 : x.2.2.2.2.1.heap.size + _ = bs g + _ := hz; omega) rfl tb_X9_init_0_ok (i := 6) rfl
def f_X5_init (y : Lay) (a0 : Nat) (M : Mem) : Option (Lay × Mem) := gd (y.2.2 + 2 ≤ 1000) (lt (psh y (1, 700)) fun (y2 : Lay) => lt (zM M (y.2.2 + 1)) fun (M3 : Mem) => gK y2 a0 (0, 5) (gN (y.2.2 + 1) (lt (wF y2 a0 0 (y.2.2 + 1)) fun (y6 : Lay) => gd (y6.2.2 + 2 ≤ 1000) (lt (psh y6 (1, 40)) fun (y8 : Lay) => lt (zM M3 (y6.2.2 + 1)) fun (M9 : Mem) => gK y8 a0 (0, 5) (gN (y6.2.2 + 1) (lt (wF y8 a0 1 (y6.2.2 + 1)) fun (y12 : Lay) => some (y12, M9)))))))
theorem w_X5_init {g : GX} {l : Launch} (hG : GF g l) (y : Lay) (a0 : Nat) (M : Mem) : CIt g l yX5_init cX5_init 1 0 2 740 y [.ref a0] M (f_X5_init y a0 M) := by
  refine CI_of hG (by decide) rfl [some (.ref a0)] rfl rfl (fun out h x Q C R hz => ?_)
  have hz0 := hz
  unfold f_X5_init at h
  refine g_aload_n C tb_X5_init_0_ok (i := 0) rfl rfl ?_
  refine g_objI C tb_X5_init_0_ok (i := 1) rfl oi_X5_3 obj_w rfl ?_
  refine g_aload_n C tb_X5_init_0_ok (i := 2) rfl rfl ?_
  refine g_sipushv C tb_X5_init_0_ok (i := 3) 700 rfl k_sipushv_700 ?_
  obtain ⟨g1, h⟩ := gd_e h
  refine g_newaI C tb_X5_init_0_ok (i := 4) (N := 700) hz rfl acl_int (by decide) (by decide) rfl g1 rfl rfl (fun hz => ?_)
  refine g_nm (fun y2 ey2 M3 eM3 => ?_)
  have h := lt_e eM3 (lt_e ey2 h)
  rw [← ey2] at hz
  obtain ⟨k4, h⟩ := gK_e h
  obtain ⟨n5, h⟩ := gN_e h
  refine g_putF C tb_X5_init_0_ok R (i := 5) rfl ff_X5_9 ft_5_0 (Or.inr ⟨_, rfl⟩) rfl n5 k4 ?_
  refine g_nmy (fun y6 ey6 => ?_)
  have h := lt_e ey6 h
  have hz : HZ g x _ y6 := by rw [ey6]; exact hz
  refine g_aload_n C tb_X5_init_0_ok (i := 6) rfl rfl ?_
  refine g_bipushv C tb_X5_init_0_ok (i := 7) 40 rfl k_bipushv_40 ?_
  obtain ⟨g7, h⟩ := gd_e h
  refine g_newaI C tb_X5_init_0_ok (i := 8) (N := 40) hz rfl acl_int (by decide) (by decide) rfl g7 rfl rfl (fun hz => ?_)
  refine g_nm (fun y8 ey8 M9 eM9 => ?_)
  have h := lt_e eM9 (lt_e ey8 h)
  rw [← ey8] at hz
  obtain ⟨k10, h⟩ := gK_e h
  obtain ⟨n11, h⟩ := gN_e h
  refine g_putF C tb_X5_init_0_ok R (i := 9) rfl ff_X5_15 ft_5_1 (Or.inr ⟨_, rfl⟩) rfl n11 k10 ?_
  refine g_nmy (fun y12 ey12 => ?_)
  have h := lt_e ey12 h
  have hz : HZ g x _ y12 := by rw [ey12]; exact hz
  cases h
  exact g_vretI C R hz rfl (by have h8 : x.2.2.2.2.1.heap.size + 0 = bs g + y.2.2 := hz0; have h9 : x.2.2.2.2.1.heap.size + _ = bs g + _ := hz; omega) rfl tb_X5_init_0_ok (i := 10) rfl
def f_X1_cells (y : Lay) (a0 : Nat) (M : Mem) : Option Int32 := gK y a0 (0, 1) (some ((M.1 a0 0) * (M.1 a0 1)))
theorem w_X1_cells {g : GX} {l : Launch} (hG : GF g l) (y : Lay) (a0 : Nat) (M : Mem) : C0 g l yX1_cells cX1_cells 1 (some .int) 0 y [.ref a0] M (pm M (f_X1_cells y a0 M)) := by
  refine CP_of hG (by decide) [some (.ref a0)] rfl rfl (fun out h x Q C R => ?_)
  unfold f_X1_cells at h
  refine g_aload_n C tb_X1_cells_0_ok (i := 0) rfl rfl ?_
  obtain ⟨k1, h⟩ := gK_e h
  refine g_getI C tb_X1_cells_0_ok (i := 1) rfl fl_X1_48 rfl k1 ?_
  refine g_aload_n C tb_X1_cells_0_ok (i := 2) rfl rfl ?_
  refine g_getI C tb_X1_cells_0_ok (i := 3) rfl fl_X1_51 rfl k1 ?_
  refine g_imul C tb_X1_cells_0_ok (i := 4) rfl ?_
  cases h
  exact g_iret0 C R tb_X1_cells_0_ok (i := 5) rfl
def f_X1_columnOf (y : Lay) (a0 : Nat) (a1 : Int32) (M : Mem) : Option Int32 := gK y a0 (0, 1) (jn (fun (v2 : Int32) => some v2) fun j3 => br ((M.1 a0 0) ≤ 0) (j3 (0 : Int32)) (gd (¬ (M.1 a0 0) = 0) (j3 (a1 - a1 / (M.1 a0 0) * (M.1 a0 0)))))
theorem w_X1_columnOf {g : GX} {l : Launch} (hG : GF g l) (y : Lay) (a0 : Nat) (a1 : Int32) (M : Mem) : C0 g l yX1_columnOf cX1_columnOf 2 (some .int) 0 y [.ref a0, .int a1] M (pm M (f_X1_columnOf y a0 a1 M)) := by
  refine CP_of hG (by decide) [some (.ref a0), some (.int a1)] rfl rfl (fun out h x Q C R => ?_)
  unfold f_X1_columnOf at h
  refine g_aload_n C tb_X1_columnOf_0_ok (i := 0) rfl rfl ?_
  obtain ⟨k1, h⟩ := gK_e h
  refine g_getI C tb_X1_columnOf_0_ok (i := 1) rfl fl_X1_48 rfl k1 ?_
  obtain ⟨j3, ej3, h⟩ := jn_e h
  have J17 : ∀ (v2 : Int32), j3 v2 = some out → GG g x 2 Q 0 0 y M 17 [none, none] [.int v2] := by
    intro v2 h; subst ej3
    cases h
    exact g_iret0 C R tb_X1_columnOf_0_ok (i := 9) rfl
  obtain ⟨t4, f5⟩ := br_e h
  refine g_if_le C tb_X1_columnOf_0_ok (i := 2) 16 rfl rfl (fun c => ?_) (fun c => ?_)
  · have h := t4 c
    refine g_iconstv C tb_X1_columnOf_0_ok (i := 8) 0 rfl k_iconstv_0 ?_
    exact g_less (L' := [none, none]) trivial (J17 (0 : Int32) h)
  · have h := f5 c
    refine g_iload_n C tb_X1_columnOf_0_ok (i := 3) rfl rfl ?_
    refine g_aload_n C tb_X1_columnOf_0_ok (i := 4) rfl rfl ?_
    refine g_getI C tb_X1_columnOf_0_ok (i := 5) rfl fl_X1_48 rfl k1 ?_
    obtain ⟨n6, h⟩ := gd_e h
    refine g_irem C tb_X1_columnOf_0_ok (i := 6) rfl n6 ?_
    refine g_goto C tb_X1_columnOf_0_ok (i := 7) 17 rfl rfl ?_
    exact g_less (L' := [none, none]) trivial (J17 (a1 - a1 / (M.1 a0 0) * (M.1 a0 0)) h)
def f_X1_bitsBeside (y : Lay) (a0 : Nat) (a1 : Int32) (M : Mem) : Option Int32 := gK y a0 (0, 1) (jn (fun (v2 : Int32) => cp (f_X1_cells y a0 M) fun (r4 : Int32) => jn (fun (v5 : Int32) => cp (f_X1_columnOf y a0 a1 M) fun (r7 : Int32) => jn (fun (v8 : Int32) => cp (f_X1_columnOf y a0 a1 M) fun (r10 : Int32) => jn (fun (v11 : Int32) => some v11) fun j12 => br (((M.1 a0 0) - (1 : Int32)) ≤ r10) (j12 v8) (lt (v8 ||| ((1 : Int32) <<< ((a1 + (1 : Int32)) &&& 31))) fun (v15 : Int32) => j12 v15)) fun j9 => br (r7 ≤ 0) (j9 v5) (lt (v5 ||| ((1 : Int32) <<< ((a1 - (1 : Int32)) &&& 31))) fun (v18 : Int32) => j9 v18)) fun j6 => br (r4 ≤ (a1 + (M.1 a0 0))) (j6 v2) (lt (v2 ||| ((1 : Int32) <<< ((a1 + (M.1 a0 0)) &&& 31))) fun (v21 : Int32) => j6 v21)) fun j3 => br (a1 < (M.1 a0 0)) (j3 (0 : Int32)) (lt ((0 : Int32) ||| ((1 : Int32) <<< ((a1 - (M.1 a0 0)) &&& 31))) fun (v24 : Int32) => j3 v24))
theorem w_X1_bitsBeside {g : GX} {l : Launch} (hG : GF g l) (y : Lay) (a0 : Nat) (a1 : Int32) (M : Mem) : C0 g l yX1_bitsBeside cX1_bitsBeside 3 (some .int) 1 y [.ref a0, .int a1] M (pm M (f_X1_bitsBeside y a0 a1 M)) := by
  refine CP_of hG (by decide) [some (.ref a0), some (.int a1), none] rfl rfl (fun out h x Q C R => ?_)
  unfold f_X1_bitsBeside at h
  refine g_iconstv C tb_X1_bitsBeside_0_ok (i := 0) 0 rfl k_iconstv_0 ?_
  refine g_istore_n C tb_X1_bitsBeside_0_ok (i := 1) rfl rfl rfl ?_
  refine g_iload_n C tb_X1_bitsBeside_0_ok (i := 2) rfl rfl ?_
  refine g_aload_n C tb_X1_bitsBeside_0_ok (i := 3) rfl rfl ?_
  obtain ⟨k1, h⟩ := gK_e h
  refine g_getI C tb_X1_bitsBeside_0_ok (i := 4) rfl fl_X1_48 rfl k1 ?_
  obtain ⟨j3, ej3, h⟩ := jn_e h
  have J21 : ∀ (v2 : Int32), j3 v2 = some out → GG g x 3 Q 0 0 y M 21 [some (.ref a0), some (.int a1), some (.int v2)] [] := by
    intro v2 h; subst ej3
    refine g_iload_n C tb_X1_bitsBeside_0_ok (i := 15) rfl rfl ?_
    refine g_aload_n C tb_X1_bitsBeside_0_ok (i := 16) rfl rfl ?_
    refine g_getI C tb_X1_bitsBeside_0_ok (i := 17) rfl fl_X1_48 rfl k1 ?_
    refine g_iadd C tb_X1_bitsBeside_0_ok (i := 18) rfl ?_
    refine g_aload_n C tb_X1_bitsBeside_0_ok (i := 19) rfl rfl ?_
    obtain ⟨r4, er4, h⟩ := cp_e h
    refine g_callV0 C tb_X1_bitsBeside_0_ok (i := 20) [] rfl mw_X1_cells mv_X1_cells ml_X1_54 k1 rfl rfl rfl rfl (w_X1_cells C.G y a0 M) (pm_s er4) rfl rfl rfl ?_
    obtain ⟨j6, ej6, h⟩ := jn_e h
    have J45 : ∀ (v5 : Int32), j6 v5 = some out → GG g x 3 Q 0 0 y M 45 [some (.ref a0), some (.int a1), some (.int v5)] [] := by
      intro v5 h; subst ej6
      refine g_aload_n C tb_X1_bitsBeside_0_ok (i := 31) rfl rfl ?_
      refine g_iload_n C tb_X1_bitsBeside_0_ok (i := 32) rfl rfl ?_
      obtain ⟨r7, er7, h⟩ := cp_e h
      refine g_callV0 C tb_X1_bitsBeside_0_ok (i := 33) [.int a1] rfl mw_X1_columnOf mv_X1_columnOf ml_X1_62 k1 rfl rfl rfl rfl (w_X1_columnOf C.G y a0 a1 M) (pm_s er7) rfl rfl rfl ?_
      obtain ⟨j9, ej9, h⟩ := jn_e h
      have J61 : ∀ (v8 : Int32), j9 v8 = some out → GG g x 3 Q 0 0 y M 61 [some (.ref a0), some (.int a1), some (.int v8)] [] := by
        intro v8 h; subst ej9
        refine g_aload_n C tb_X1_bitsBeside_1_ok (i := 3) rfl rfl ?_
        refine g_iload_n C tb_X1_bitsBeside_1_ok (i := 4) rfl rfl ?_
        obtain ⟨r10, er10, h⟩ := cp_e h
        refine g_callV0 C tb_X1_bitsBeside_1_ok (i := 5) [.int a1] rfl mw_X1_columnOf mv_X1_columnOf ml_X1_62 k1 rfl rfl rfl rfl (w_X1_columnOf C.G y a0 a1 M) (pm_s er10) rfl rfl rfl ?_
        refine g_aload_n C tb_X1_bitsBeside_1_ok (i := 6) rfl rfl ?_
        refine g_getI C tb_X1_bitsBeside_1_ok (i := 7) rfl fl_X1_48 rfl k1 ?_
        refine g_iconstv C tb_X1_bitsBeside_1_ok (i := 8) 1 rfl k_iconstv_1 ?_
        refine g_isub C tb_X1_bitsBeside_1_ok (i := 9) rfl ?_
        obtain ⟨j12, ej12, h⟩ := jn_e h
        have J83 : ∀ (v11 : Int32), j12 v11 = some out → GG g x 3 Q 0 0 y M 83 [none, none, some (.int v11)] [] := by
          intro v11 h; subst ej12
          refine g_iload_n C tb_X1_bitsBeside_1_ok (i := 19) rfl rfl ?_
          cases h
          exact g_iret0 C R tb_X1_bitsBeside_1_ok (i := 20) rfl
        obtain ⟨t13, f14⟩ := br_e h
        refine g_icmp_ge C tb_X1_bitsBeside_1_ok (i := 10) 83 rfl rfl (fun c => ?_) (fun c => ?_)
        · have h := t13 c
          exact g_less (L' := [none, none, some (.int v8)]) ⟨rfl, trivial⟩ (J83 v8 h)
        · have h := f14 c
          refine g_iload_n C tb_X1_bitsBeside_1_ok (i := 11) rfl rfl ?_
          refine g_iconstv C tb_X1_bitsBeside_1_ok (i := 12) 1 rfl k_iconstv_1 ?_
          refine g_iload_n C tb_X1_bitsBeside_1_ok (i := 13) rfl rfl ?_
          refine g_iconstv C tb_X1_bitsBeside_1_ok (i := 14) 1 rfl k_iconstv_1 ?_
          refine g_iadd C tb_X1_bitsBeside_1_ok (i := 15) rfl ?_
          refine g_ishl C tb_X1_bitsBeside_1_ok (i := 16) rfl ?_
          refine g_ior C tb_X1_bitsBeside_1_ok (i := 17) rfl ?_
          refine g_topi (fun v15 ev15 => ?_)
          have h := lt_e ev15 h
          refine g_istore_n C tb_X1_bitsBeside_1_ok (i := 18) rfl rfl rfl ?_
          exact g_less (L' := [none, none, some (.int v15)]) ⟨rfl, trivial⟩ (J83 v15 h)
      obtain ⟨t16, f17⟩ := br_e h
      refine g_if_le C tb_X1_bitsBeside_0_ok (i := 34) 61 rfl rfl (fun c => ?_) (fun c => ?_)
      · have h := t16 c
        exact g_less (L' := [some (.ref a0), some (.int a1), some (.int v5)]) ⟨rfl, ⟨rfl, ⟨rfl, trivial⟩⟩⟩ (J61 v5 h)
      · have h := f17 c
        refine g_iload_n C tb_X1_bitsBeside_0_ok (i := 35) rfl rfl ?_
        refine g_iconstv C tb_X1_bitsBeside_0_ok (i := 36) 1 rfl k_iconstv_1 ?_
        refine g_iload_n C tb_X1_bitsBeside_0_ok (i := 37) rfl rfl ?_
        refine g_iconstv C tb_X1_bitsBeside_0_ok (i := 38) 1 rfl k_iconstv_1 ?_
        refine g_isub C tb_X1_bitsBeside_0_ok (i := 39) rfl ?_
        refine g_ishl C tb_X1_bitsBeside_1_ok (i := 0) rfl ?_
        refine g_ior C tb_X1_bitsBeside_1_ok (i := 1) rfl ?_
        refine g_topi (fun v18 ev18 => ?_)
        have h := lt_e ev18 h
        refine g_istore_n C tb_X1_bitsBeside_1_ok (i := 2) rfl rfl rfl ?_
        exact g_less (L' := [some (.ref a0), some (.int a1), some (.int v18)]) ⟨rfl, ⟨rfl, ⟨rfl, trivial⟩⟩⟩ (J61 v18 h)
    obtain ⟨t19, f20⟩ := br_e h
    refine g_icmp_ge C tb_X1_bitsBeside_0_ok (i := 21) 45 rfl rfl (fun c => ?_) (fun c => ?_)
    · have h := t19 c
      exact g_less (L' := [some (.ref a0), some (.int a1), some (.int v2)]) ⟨rfl, ⟨rfl, ⟨rfl, trivial⟩⟩⟩ (J45 v2 h)
    · have h := f20 c
      refine g_iload_n C tb_X1_bitsBeside_0_ok (i := 22) rfl rfl ?_
      refine g_iconstv C tb_X1_bitsBeside_0_ok (i := 23) 1 rfl k_iconstv_1 ?_
      refine g_iload_n C tb_X1_bitsBeside_0_ok (i := 24) rfl rfl ?_
      refine g_aload_n C tb_X1_bitsBeside_0_ok (i := 25) rfl rfl ?_
      refine g_getI C tb_X1_bitsBeside_0_ok (i := 26) rfl fl_X1_48 rfl k1 ?_
      refine g_iadd C tb_X1_bitsBeside_0_ok (i := 27) rfl ?_
      refine g_ishl C tb_X1_bitsBeside_0_ok (i := 28) rfl ?_
      refine g_ior C tb_X1_bitsBeside_0_ok (i := 29) rfl ?_
      refine g_topi (fun v21 ev21 => ?_)
      have h := lt_e ev21 h
      refine g_istore_n C tb_X1_bitsBeside_0_ok (i := 30) rfl rfl rfl ?_
      exact g_less (L' := [some (.ref a0), some (.int a1), some (.int v21)]) ⟨rfl, ⟨rfl, ⟨rfl, trivial⟩⟩⟩ (J45 v21 h)
  obtain ⟨t22, f23⟩ := br_e h
  refine g_icmp_lt C tb_X1_bitsBeside_0_ok (i := 5) 21 rfl rfl (fun c => ?_) (fun c => ?_)
  · have h := t22 c
    exact g_less (L' := [some (.ref a0), some (.int a1), some (.int (0 : Int32))]) ⟨rfl, ⟨rfl, ⟨rfl, trivial⟩⟩⟩ (J21 (0 : Int32) h)
  · have h := f23 c
    refine g_iload_n C tb_X1_bitsBeside_0_ok (i := 6) rfl rfl ?_
    refine g_iconstv C tb_X1_bitsBeside_0_ok (i := 7) 1 rfl k_iconstv_1 ?_
    refine g_iload_n C tb_X1_bitsBeside_0_ok (i := 8) rfl rfl ?_
    refine g_aload_n C tb_X1_bitsBeside_0_ok (i := 9) rfl rfl ?_
    refine g_getI C tb_X1_bitsBeside_0_ok (i := 10) rfl fl_X1_48 rfl k1 ?_
    refine g_isub C tb_X1_bitsBeside_0_ok (i := 11) rfl ?_
    refine g_ishl C tb_X1_bitsBeside_0_ok (i := 12) rfl ?_
    refine g_ior C tb_X1_bitsBeside_0_ok (i := 13) rfl ?_
    refine g_topi (fun v24 ev24 => ?_)
    have h := lt_e ev24 h
    refine g_istore_n C tb_X1_bitsBeside_0_ok (i := 14) rfl rfl rfl ?_
    exact g_less (L' := [some (.ref a0), some (.int a1), some (.int v24)]) ⟨rfl, ⟨rfl, ⟨rfl, trivial⟩⟩⟩ (J21 v24 h)
def f_X1_shape (y : Lay) (a0 : Nat) (a1 : Int32) (a2 : Int32) (M : Mem) : Option (Int32 × Mem) := gK y a0 (0, 1) (lt (wI M a0 0 a1) fun (M2 : Mem) => lt (wI M2 a0 1 a2) fun (M3 : Mem) => fixN (fun _ _ => none) (fun (s6 : Int32 → Mem → Option (Int32 × Mem)) (v4 : Int32) (M5 : Mem) => br ((30 : Int32) ≤ v4) (some (0, M5)) (gN (y.2.1 a0 6) (cp (f_X1_cells y a0 M5) fun (r11 : Int32) => jn (fun (v12 : Int32) => gA y (y.2.1 a0 6) 1 v4 (lt (wI M5 (y.2.1 a0 6) v4.toNatClampNeg v12) fun (M15 : Mem) => lt (v4 + (1 : Int32)) fun (v16 : Int32) => s6 v16 M15)) fun j13 => br (r11 ≤ v4) (j13 (0 : Int32)) (cp (f_X1_bitsBeside y a0 v4 M5) fun (r19 : Int32) => j13 r19)))) FUEL (0 : Int32) M3)
theorem w_X1_shape {g : GX} {l : Launch} (hG : GF g l) (y : Lay) (a0 : Nat) (a1 : Int32) (a2 : Int32) (M : Mem) : C0 g l yX1_shape cX1_shape 4 none 2 y [.ref a0, .int a1, .int a2] M (f_X1_shape y a0 a1 a2 M) := by
  refine C0_of hG (by decide) [some (.ref a0), some (.int a1), some (.int a2), none] rfl rfl (fun out h x Q C R => ?_)
  unfold f_X1_shape at h
  refine g_aload_n C tb_X1_shape_0_ok (i := 0) rfl rfl ?_
  refine g_iload_n C tb_X1_shape_0_ok (i := 1) rfl rfl ?_
  obtain ⟨k1, h⟩ := gK_e h
  refine g_putI C tb_X1_shape_0_ok (i := 2) rfl fl_X1_48 ft_1_0 rfl k1 ?_
  refine g_mem (fun M2 eM2 => ?_)
  have h := lt_e eM2 h
  refine g_aload_n C tb_X1_shape_0_ok (i := 3) rfl rfl ?_
  refine g_iload_n C tb_X1_shape_0_ok (i := 4) rfl rfl ?_
  refine g_putI C tb_X1_shape_0_ok (i := 5) rfl fl_X1_51 ft_1_1 rfl k1 ?_
  refine g_mem (fun M3 eM3 => ?_)
  have h := lt_e eM3 h
  refine g_iconstv C tb_X1_shape_0_ok (i := 6) 0 rfl k_iconstv_0 ?_
  refine g_istore_n C tb_X1_shape_0_ok (i := 7) rfl rfl rfl ?_
  refine g_less (L' := [some (.ref a0), none, none, some (.int (0 : Int32))]) ⟨rfl, ⟨rfl, trivial⟩⟩ ?_
  refine fix_i (P := fun (f : Int32 → Mem → Option (Int32 × Mem)) => ∀ (v4 : Int32) (M5 : Mem), f v4 M5 = some out → GG g x 4 Q 0 0 y M5 12 [some (.ref a0), none, none, some (.int v4)] []) ?_ ?_ _ (0 : Int32) M3 h
  · intro v4 M5 h; exact (nn_e h).elim
  · intro s6 ih7 v4 M5 h
    refine g_iload_n C tb_X1_shape_0_ok (i := 8) rfl rfl ?_
    refine g_bipushv C tb_X1_shape_0_ok (i := 9) 30 rfl k_bipushv_30 ?_
    obtain ⟨t8, f9⟩ := br_e h
    refine g_icmp_ge C tb_X1_shape_0_ok (i := 10) 47 rfl rfl (fun c => ?_) (fun c => ?_)
    · have h := t8 c
      cases h
      exact g_vret0 C R tb_X1_shape_0_ok (i := 26) rfl
    · have h := f9 c
      refine g_aload_n C tb_X1_shape_0_ok (i := 11) rfl rfl ?_
      obtain ⟨n10, h⟩ := gN_e h
      refine g_getR C tb_X1_shape_0_ok (i := 12) rfl fl_X1_9 rfl k1 n10 ?_
      refine g_iload_n C tb_X1_shape_0_ok (i := 13) rfl rfl ?_
      refine g_iload_n C tb_X1_shape_0_ok (i := 14) rfl rfl ?_
      refine g_aload_n C tb_X1_shape_0_ok (i := 15) rfl rfl ?_
      obtain ⟨r11, er11, h⟩ := cp_e h
      refine g_callV0 C tb_X1_shape_0_ok (i := 16) [] rfl mw_X1_cells mv_X1_cells ml_X1_54 k1 rfl rfl rfl rfl (w_X1_cells C.G y a0 M5) (pm_s er11) rfl rfl rfl ?_
      obtain ⟨j13, ej13, h⟩ := jn_e h
      have J40 : ∀ (v12 : Int32), j13 v12 = some out → GG g x 4 Q 0 0 y M5 40 [some (.ref a0), none, none, some (.int v4)] [.int v12, .int v4, .ref (y.2.1 a0 6)] := by
        intro v12 h; subst ej13
        obtain ⟨b14, h⟩ := gA_e h
        refine g_iast C tb_X1_shape_0_ok (i := 23) rfl b14 ?_
        refine g_mem (fun M15 eM15 => ?_)
        have h := lt_e eM15 h
        obtain ⟨v16, ev16⟩ : ∃ w : Int32, w = v4 + (1 : Int32) := ⟨_, rfl⟩
        have h := lt_e ev16 h
        refine g_iincv C tb_X1_shape_0_ok (i := 24) (1 : Int32) ev16 rfl rfl k_iconstv_1 rfl rfl ?_
        refine g_goto C tb_X1_shape_0_ok (i := 25) 12 rfl rfl ?_
        exact g_less (L' := [some (.ref a0), none, none, some (.int v16)]) ⟨rfl, ⟨rfl, trivial⟩⟩ (ih7 v16 M15 h)
      obtain ⟨t17, f18⟩ := br_e h
      refine g_icmp_ge C tb_X1_shape_0_ok (i := 17) 39 rfl rfl (fun c => ?_) (fun c => ?_)
      · have h := t17 c
        refine g_iconstv C tb_X1_shape_0_ok (i := 22) 0 rfl k_iconstv_0 ?_
        exact g_less (L' := [some (.ref a0), none, none, some (.int v4)]) ⟨rfl, ⟨rfl, trivial⟩⟩ (J40 (0 : Int32) h)
      · have h := f18 c
        refine g_aload_n C tb_X1_shape_0_ok (i := 18) rfl rfl ?_
        refine g_iload_n C tb_X1_shape_0_ok (i := 19) rfl rfl ?_
        obtain ⟨r19, er19, h⟩ := cp_e h
        refine g_callV0 C tb_X1_shape_0_ok (i := 20) [.int v4] rfl mw_X1_bitsBeside mv_X1_bitsBeside ml_X1_58 k1 rfl rfl rfl rfl (w_X1_bitsBeside C.G y a0 v4 M5) (pm_s er19) rfl rfl rfl ?_
        refine g_goto C tb_X1_shape_0_ok (i := 21) 40 rfl rfl ?_
        exact g_less (L' := [some (.ref a0), none, none, some (.int v4)]) ⟨rfl, ⟨rfl, trivial⟩⟩ (J40 r19 h)
def f_X5_clear (y : Lay) (a0 : Nat) (M : Mem) : Option (Int32 × Mem) := gK y a0 (0, 5) (lt (wI M a0 2 (0 : Int32)) fun (M2 : Mem) => some (0, M2))
theorem w_X5_clear {g : GX} {l : Launch} (hG : GF g l) (y : Lay) (a0 : Nat) (M : Mem) : C0 g l yX5_clear cX5_clear 1 none 0 y [.ref a0] M (f_X5_clear y a0 M) := by
  refine C0_of hG (by decide) [some (.ref a0)] rfl rfl (fun out h x Q C R => ?_)
  unfold f_X5_clear at h
  refine g_aload_n C tb_X5_clear_0_ok (i := 0) rfl rfl ?_
  refine g_iconstv C tb_X5_clear_0_ok (i := 1) 0 rfl k_iconstv_0 ?_
  obtain ⟨k1, h⟩ := gK_e h
  refine g_putI C tb_X5_clear_0_ok (i := 2) rfl fl_X5_18 ft_5_2 rfl k1 ?_
  refine g_mem (fun M2 eM2 => ?_)
  have h := lt_e eM2 h
  cases h
  exact g_vret0 C R tb_X5_clear_0_ok (i := 3) rfl
def f_X1_begin (y : Lay) (a0 : Nat) (M : Mem) : Option (Int32 × Mem) := gK y a0 (0, 1) (c0 (f_X1_shape y a0 (3 : Int32) (3 : Int32) M) fun (r2 : Int32) (M3 : Mem) => lt (wI M3 a0 2 (2 : Int32)) fun (M4 : Mem) => lt (wI M4 a0 3 (60 : Int32)) fun (M5 : Mem) => lt (wI M5 a0 4 (0 : Int32)) fun (M6 : Mem) => lt (wI M6 a0 5 (0 : Int32)) fun (M7 : Mem) => gN (y.2.1 a0 7) (gK y (y.2.1 a0 7) (0, 5) (c0 (f_X5_clear y (y.2.1 a0 7) M7) fun (r10 : Int32) (M11 : Mem) => gN (y.2.1 a0 8) (gK y (y.2.1 a0 8) (0, 5) (c0 (f_X5_clear y (y.2.1 a0 8) M11) fun (r14 : Int32) (M15 : Mem) => some (0, M15))))))
theorem w_X1_begin {g : GX} {l : Launch} (hG : GF g l) (y : Lay) (a0 : Nat) (M : Mem) : C0 g l yX1_begin cX1_begin 1 none 3 y [.ref a0] M (f_X1_begin y a0 M) := by
  refine C0_of hG (by decide) [some (.ref a0)] rfl rfl (fun out h x Q C R => ?_)
  unfold f_X1_begin at h
  refine g_aload_n C tb_X1_begin_0_ok (i := 0) rfl rfl ?_
  refine g_iconstv C tb_X1_begin_0_ok (i := 1) 3 rfl k_iconstv_3 ?_
  refine g_iconstv C tb_X1_begin_0_ok (i := 2) 3 rfl k_iconstv_3 ?_
  obtain ⟨k1, h⟩ := gK_e h
  obtain ⟨r2, M3, er2, h⟩ := c0_e h
  refine g_callV0 C tb_X1_begin_0_ok (i := 3) [.int (3 : Int32), .int (3 : Int32)] rfl mw_X1_shape mv_X1_shape ml_X1_28 k1 rfl rfl rfl rfl (w_X1_shape C.G y a0 (3 : Int32) (3 : Int32) M) er2 rfl rfl rfl ?_
  refine g_aload_n C tb_X1_begin_0_ok (i := 4) rfl rfl ?_
  refine g_iconstv C tb_X1_begin_0_ok (i := 5) 2 rfl k_iconstv_2 ?_
  refine g_putI C tb_X1_begin_0_ok (i := 6) rfl fl_X1_32 ft_1_2 rfl k1 ?_
  refine g_mem (fun M4 eM4 => ?_)
  have h := lt_e eM4 h
  refine g_aload_n C tb_X1_begin_0_ok (i := 7) rfl rfl ?_
  refine g_bipushv C tb_X1_begin_0_ok (i := 8) 60 rfl k_bipushv_60 ?_
  refine g_putI C tb_X1_begin_0_ok (i := 9) rfl fl_X1_36 ft_1_3 rfl k1 ?_
  refine g_mem (fun M5 eM5 => ?_)
  have h := lt_e eM5 h
  refine g_aload_n C tb_X1_begin_0_ok (i := 10) rfl rfl ?_
  refine g_iconstv C tb_X1_begin_0_ok (i := 11) 0 rfl k_iconstv_0 ?_
  refine g_putI C tb_X1_begin_0_ok (i := 12) rfl fl_X1_39 ft_1_4 rfl k1 ?_
  refine g_mem (fun M6 eM6 => ?_)
  have h := lt_e eM6 h
  refine g_aload_n C tb_X1_begin_0_ok (i := 13) rfl rfl ?_
  refine g_iconstv C tb_X1_begin_0_ok (i := 14) 0 rfl k_iconstv_0 ?_
  refine g_putI C tb_X1_begin_0_ok (i := 15) rfl fl_X1_42 ft_1_5 rfl k1 ?_
  refine g_mem (fun M7 eM7 => ?_)
  have h := lt_e eM7 h
  refine g_aload_n C tb_X1_begin_0_ok (i := 16) rfl rfl ?_
  obtain ⟨n8, h⟩ := gN_e h
  refine g_getR C tb_X1_begin_0_ok (i := 17) rfl fl_X1_18 rfl k1 n8 ?_
  obtain ⟨k9, h⟩ := gK_e h
  obtain ⟨r10, M11, er10, h⟩ := c0_e h
  refine g_callV0 C tb_X1_begin_0_ok (i := 18) [] rfl mw_X5_clear mv_X5_clear ml_X1_45 k9 rfl rfl rfl rfl (w_X5_clear C.G y (y.2.1 a0 7) M7) er10 rfl rfl rfl ?_
  refine g_aload_n C tb_X1_begin_0_ok (i := 19) rfl rfl ?_
  obtain ⟨n12, h⟩ := gN_e h
  refine g_getR C tb_X1_begin_0_ok (i := 20) rfl fl_X1_22 rfl k1 n12 ?_
  obtain ⟨k13, h⟩ := gK_e h
  obtain ⟨r14, M15, er14, h⟩ := c0_e h
  refine g_callV0 C tb_X1_begin_0_ok (i := 21) [] rfl mw_X5_clear mv_X5_clear ml_X1_45 k13 rfl rfl rfl rfl (w_X5_clear C.G y (y.2.1 a0 8) M11) er14 rfl rfl rfl ?_
  cases h
  exact g_vret0 C R tb_X1_begin_0_ok (i := 22) rfl
def f_X1_init (y : Lay) (a0 : Nat) (M : Mem) : Option (Lay × Mem) := gd (y.2.2 + 2 ≤ 1000) (lt (psh y (1, 30)) fun (y2 : Lay) => lt (zM M (y.2.2 + 1)) fun (M3 : Mem) => gK y2 a0 (0, 1) (gN (y.2.2 + 1) (lt (wF y2 a0 6 (y.2.2 + 1)) fun (y6 : Lay) => gd (y6.2.2 + 2 ≤ 1000) (lt (psh y6 (0, 5)) fun (y8 : Lay) => lt (zM M3 (y6.2.2 + 1)) fun (M9 : Mem) => ci (f_X5_init y8 (y6.2.2 + 1) M9) fun (y10 : Lay) (M11 : Mem) => gK y10 a0 (0, 1) (gN (y6.2.2 + 1) (lt (wF y10 a0 7 (y6.2.2 + 1)) fun (y14 : Lay) => gd (y14.2.2 + 2 ≤ 1000) (lt (psh y14 (0, 5)) fun (y16 : Lay) => lt (zM M11 (y14.2.2 + 1)) fun (M17 : Mem) => ci (f_X5_init y16 (y14.2.2 + 1) M17) fun (y18 : Lay) (M19 : Mem) => gK y18 a0 (0, 1) (gN (y14.2.2 + 1) (lt (wF y18 a0 8 (y14.2.2 + 1)) fun (y22 : Lay) => gK y22 a0 (0, 1) (c0 (f_X1_begin y22 a0 M19) fun (r24 : Int32) (M25 : Mem) => some (y22, M25)))))))))))
theorem w_X1_init {g : GX} {l : Launch} (hG : GF g l) (y : Lay) (a0 : Nat) (M : Mem) : CIt g l yX1_init cX1_init 1 4 7 1516 y [.ref a0] M (f_X1_init y a0 M) := by
  refine CI_of hG (by decide) rfl [some (.ref a0)] rfl rfl (fun out h x Q C R hz => ?_)
  have hz0 := hz
  unfold f_X1_init at h
  refine g_aload_n C tb_X1_init_0_ok (i := 0) rfl rfl ?_
  refine g_objI C tb_X1_init_0_ok (i := 1) rfl oi_X1_3 obj_w rfl ?_
  refine g_aload_n C tb_X1_init_0_ok (i := 2) rfl rfl ?_
  refine g_bipushv C tb_X1_init_0_ok (i := 3) 30 rfl k_bipushv_30 ?_
  obtain ⟨g1, h⟩ := gd_e h
  refine g_newaI C tb_X1_init_0_ok (i := 4) (N := 30) hz rfl acl_int (by decide) (by decide) rfl g1 rfl rfl (fun hz => ?_)
  refine g_nm (fun y2 ey2 M3 eM3 => ?_)
  have h := lt_e eM3 (lt_e ey2 h)
  rw [← ey2] at hz
  obtain ⟨k4, h⟩ := gK_e h
  obtain ⟨n5, h⟩ := gN_e h
  refine g_putF C tb_X1_init_0_ok R (i := 5) rfl ff_X1_9 ft_1_6 (Or.inr ⟨_, rfl⟩) rfl n5 k4 ?_
  refine g_nmy (fun y6 ey6 => ?_)
  have h := lt_e ey6 h
  have hz : HZ g x _ y6 := by rw [ey6]; exact hz
  refine g_aload_n C tb_X1_init_0_ok (i := 6) rfl rfl ?_
  obtain ⟨g7, h⟩ := gd_e h
  refine g_new C tb_X1_init_0_ok (i := 7) hz rfl cls_5 cnw_5 ck_X1_15 ins_5 ini_5 (Or.inr g7) rfl rfl (fun hz => ?_)
  refine g_nm (fun y8 ey8 M9 eM9 => ?_)
  have h := lt_e eM9 (lt_e ey8 h)
  rw [← ey8] at hz
  refine g_dup C tb_X1_init_0_ok (i := 8) rfl rfl ?_
  obtain ⟨y10, M11, ey10, h⟩ := ci_e h
  refine g_callI C tb_X1_init_0_ok (i := 9) [] hz rfl mw_X5_init mi_X5_init mli_X1_17 rfl rfl rfl rfl (w_X5_init C.G y8 (y6.2.2 + 1) M9) ey10 rfl rfl rfl (fun hz => ?_)
  obtain ⟨k12, h⟩ := gK_e h
  obtain ⟨n13, h⟩ := gN_e h
  refine g_putF C tb_X1_init_0_ok R (i := 10) rfl ff_X1_18 ft_1_7 (Or.inl ⟨_, rfl⟩) rfl n13 k12 ?_
  refine g_nmy (fun y14 ey14 => ?_)
  have h := lt_e ey14 h
  have hz : HZ g x _ y14 := by rw [ey14]; exact hz
  refine g_aload_n C tb_X1_init_0_ok (i := 11) rfl rfl ?_
  obtain ⟨g15, h⟩ := gd_e h
  refine g_new C tb_X1_init_0_ok (i := 12) hz rfl cls_5 cnw_5 ck_X1_15 ins_5 ini_5 (Or.inr g15) rfl rfl (fun hz => ?_)
  refine g_nm (fun y16 ey16 M17 eM17 => ?_)
  have h := lt_e eM17 (lt_e ey16 h)
  rw [← ey16] at hz
  refine g_dup C tb_X1_init_0_ok (i := 13) rfl rfl ?_
  obtain ⟨y18, M19, ey18, h⟩ := ci_e h
  refine g_callI C tb_X1_init_0_ok (i := 14) [] hz rfl mw_X5_init mi_X5_init mli_X1_17 rfl rfl rfl rfl (w_X5_init C.G y16 (y14.2.2 + 1) M17) ey18 rfl rfl rfl (fun hz => ?_)
  obtain ⟨k20, h⟩ := gK_e h
  obtain ⟨n21, h⟩ := gN_e h
  refine g_putF C tb_X1_init_0_ok R (i := 15) rfl ff_X1_22 ft_1_8 (Or.inl ⟨_, rfl⟩) rfl n21 k20 ?_
  refine g_nmy (fun y22 ey22 => ?_)
  have h := lt_e ey22 h
  have hz : HZ g x _ y22 := by rw [ey22]; exact hz
  refine g_aload_n C tb_X1_init_0_ok (i := 16) rfl rfl ?_
  obtain ⟨k23, h⟩ := gK_e h
  obtain ⟨r24, M25, er24, h⟩ := c0_e h
  refine g_callV0 C tb_X1_init_0_ok (i := 17) [] rfl mw_X1_begin mv_X1_begin ml_X1_25 k23 rfl rfl rfl rfl (w_X1_begin C.G y22 a0 M19) er24 rfl rfl rfl ?_
  cases h
  exact g_vretI C R hz rfl (by have h8 : x.2.2.2.2.1.heap.size + 0 = bs g + y.2.2 := hz0; have h9 : x.2.2.2.2.1.heap.size + _ = bs g + _ := hz; omega) rfl tb_X1_init_0_ok (i := 18) rfl
def f_X8_begin (y : Lay) (a0 : Nat) (M : Mem) : Option (Int32 × Mem) := fixN (fun _ _ => none) (fun (s3 : Int32 → Mem → Option (Int32 × Mem)) (v1 : Int32) (M2 : Mem) => br ((30 : Int32) ≤ v1) (fixN (fun _ _ => none) (fun (s9 : Int32 → Mem → Option (Int32 × Mem)) (v7 : Int32) (M8 : Mem) => br ((6 : Int32) ≤ v7) (gK y a0 (0, 8) (lt (wI M8 a0 7 (0 : Int32)) fun (M14 : Mem) => lt (wI M14 a0 8 (0 : Int32)) fun (M15 : Mem) => lt (wI M15 a0 9 (20 : Int32)) fun (M16 : Mem) => lt (wI M16 a0 10 (0 : Int32)) fun (M17 : Mem) => lt (wI M17 a0 11 (0 : Int32)) fun (M18 : Mem) => lt (wI M18 a0 12 (0 : Int32)) fun (M19 : Mem) => some (0, M19))) (gK y a0 (0, 8) (gN (y.2.1 a0 4) (gA y (y.2.1 a0 4) 1 v7 (lt (wI M8 (y.2.1 a0 4) v7.toNatClampNeg (0 : Int32)) fun (M23 : Mem) => gN (y.2.1 a0 5) (gA y (y.2.1 a0 5) 1 v7 (lt (wI M23 (y.2.1 a0 5) v7.toNatClampNeg (0 : Int32)) fun (M26 : Mem) => lt (v7 + (1 : Int32)) fun (v27 : Int32) => s9 v27 M26))))))) FUEL (0 : Int32) M2) (gK y a0 (0, 8) (gN (y.2.1 a0 1) (gA y (y.2.1 a0 1) 1 v1 (lt (wI M2 (y.2.1 a0 1) v1.toNatClampNeg (0 : Int32)) fun (M31 : Mem) => lt (v1 + (1 : Int32)) fun (v32 : Int32) => s3 v32 M31))))) FUEL (0 : Int32) M
theorem w_X8_begin {g : GX} {l : Launch} (hG : GF g l) (y : Lay) (a0 : Nat) (M : Mem) : C0 g l yX8_begin cX8_begin 2 none 0 y [.ref a0] M (f_X8_begin y a0 M) := by
  refine C0_of hG (by decide) [some (.ref a0), none] rfl rfl (fun out h x Q C R => ?_)
  unfold f_X8_begin at h
  refine g_iconstv C tb_X8_begin_0_ok (i := 0) 0 rfl k_iconstv_0 ?_
  refine g_istore_n C tb_X8_begin_0_ok (i := 1) rfl rfl rfl ?_
  refine g_less (L' := [some (.ref a0), some (.int (0 : Int32))]) ⟨rfl, ⟨rfl, trivial⟩⟩ ?_
  refine fix_i (P := fun (f : Int32 → Mem → Option (Int32 × Mem)) => ∀ (v1 : Int32) (M2 : Mem), f v1 M2 = some out → GG g x 2 Q 0 0 y M2 2 [some (.ref a0), some (.int v1)] []) ?_ ?_ _ (0 : Int32) M h
  · intro v1 M2 h; exact (nn_e h).elim
  · intro s3 ih4 v1 M2 h
    refine g_iload_n C tb_X8_begin_0_ok (i := 2) rfl rfl ?_
    refine g_bipushv C tb_X8_begin_0_ok (i := 3) 30 rfl k_bipushv_30 ?_
    obtain ⟨t5, f6⟩ := br_e h
    refine g_icmp_ge C tb_X8_begin_0_ok (i := 4) 21 rfl rfl (fun c => ?_) (fun c => ?_)
    · have h := t5 c
      refine g_iconstv C tb_X8_begin_0_ok (i := 12) 0 rfl k_iconstv_0 ?_
      refine g_istore_n C tb_X8_begin_0_ok (i := 13) rfl rfl rfl ?_
      refine g_less (L' := [some (.ref a0), some (.int (0 : Int32))]) ⟨rfl, ⟨rfl, trivial⟩⟩ ?_
      refine fix_i (P := fun (f : Int32 → Mem → Option (Int32 × Mem)) => ∀ (v7 : Int32) (M8 : Mem), f v7 M8 = some out → GG g x 2 Q 0 0 y M8 23 [some (.ref a0), some (.int v7)] []) ?_ ?_ _ (0 : Int32) M2 h
      · intro v7 M8 h; exact (nn_e h).elim
      · intro s9 ih10 v7 M8 h
        refine g_iload_n C tb_X8_begin_0_ok (i := 14) rfl rfl ?_
        refine g_bipushv C tb_X8_begin_0_ok (i := 15) 6 rfl k_bipushv_6 ?_
        obtain ⟨t11, f12⟩ := br_e h
        refine g_icmp_ge C tb_X8_begin_0_ok (i := 16) 49 rfl rfl (fun c => ?_) (fun c => ?_)
        · have h := t11 c
          refine g_aload_n C tb_X8_begin_0_ok (i := 29) rfl rfl ?_
          refine g_iconstv C tb_X8_begin_0_ok (i := 30) 0 rfl k_iconstv_0 ?_
          obtain ⟨k13, h⟩ := gK_e h
          refine g_putI C tb_X8_begin_0_ok (i := 31) rfl fl_X8_39 ft_8_7 rfl k13 ?_
          refine g_mem (fun M14 eM14 => ?_)
          have h := lt_e eM14 h
          refine g_aload_n C tb_X8_begin_0_ok (i := 32) rfl rfl ?_
          refine g_iconstv C tb_X8_begin_0_ok (i := 33) 0 rfl k_iconstv_0 ?_
          refine g_putI C tb_X8_begin_0_ok (i := 34) rfl fl_X8_43 ft_8_8 rfl k13 ?_
          refine g_mem (fun M15 eM15 => ?_)
          have h := lt_e eM15 h
          refine g_aload_n C tb_X8_begin_0_ok (i := 35) rfl rfl ?_
          refine g_bipushv C tb_X8_begin_0_ok (i := 36) 20 rfl k_bipushv_20 ?_
          refine g_putI C tb_X8_begin_0_ok (i := 37) rfl fl_X8_46 ft_8_9 rfl k13 ?_
          refine g_mem (fun M16 eM16 => ?_)
          have h := lt_e eM16 h
          refine g_aload_n C tb_X8_begin_0_ok (i := 38) rfl rfl ?_
          refine g_iconstv C tb_X8_begin_0_ok (i := 39) 0 rfl k_iconstv_0 ?_
          refine g_putI C tb_X8_begin_1_ok (i := 0) rfl fl_X8_49 ft_8_10 rfl k13 ?_
          refine g_mem (fun M17 eM17 => ?_)
          have h := lt_e eM17 h
          refine g_aload_n C tb_X8_begin_1_ok (i := 1) rfl rfl ?_
          refine g_iconstv C tb_X8_begin_1_ok (i := 2) 0 rfl k_iconstv_0 ?_
          refine g_putI C tb_X8_begin_1_ok (i := 3) rfl fl_X8_52 ft_8_11 rfl k13 ?_
          refine g_mem (fun M18 eM18 => ?_)
          have h := lt_e eM18 h
          refine g_aload_n C tb_X8_begin_1_ok (i := 4) rfl rfl ?_
          refine g_iconstv C tb_X8_begin_1_ok (i := 5) 0 rfl k_iconstv_0 ?_
          refine g_putI C tb_X8_begin_1_ok (i := 6) rfl fl_X8_55 ft_8_12 rfl k13 ?_
          refine g_mem (fun M19 eM19 => ?_)
          have h := lt_e eM19 h
          cases h
          exact g_vret0 C R tb_X8_begin_1_ok (i := 7) rfl
        · have h := f12 c
          refine g_aload_n C tb_X8_begin_0_ok (i := 17) rfl rfl ?_
          obtain ⟨k20, h⟩ := gK_e h
          obtain ⟨n21, h⟩ := gN_e h
          refine g_getR C tb_X8_begin_0_ok (i := 18) rfl fl_X8_21 rfl k20 n21 ?_
          refine g_iload_n C tb_X8_begin_0_ok (i := 19) rfl rfl ?_
          refine g_iconstv C tb_X8_begin_0_ok (i := 20) 0 rfl k_iconstv_0 ?_
          obtain ⟨b22, h⟩ := gA_e h
          refine g_iast C tb_X8_begin_0_ok (i := 21) rfl b22 ?_
          refine g_mem (fun M23 eM23 => ?_)
          have h := lt_e eM23 h
          refine g_aload_n C tb_X8_begin_0_ok (i := 22) rfl rfl ?_
          obtain ⟨n24, h⟩ := gN_e h
          refine g_getR C tb_X8_begin_0_ok (i := 23) rfl fl_X8_24 rfl k20 n24 ?_
          refine g_iload_n C tb_X8_begin_0_ok (i := 24) rfl rfl ?_
          refine g_iconstv C tb_X8_begin_0_ok (i := 25) 0 rfl k_iconstv_0 ?_
          obtain ⟨b25, h⟩ := gA_e h
          refine g_iast C tb_X8_begin_0_ok (i := 26) rfl b25 ?_
          refine g_mem (fun M26 eM26 => ?_)
          have h := lt_e eM26 h
          obtain ⟨v27, ev27⟩ : ∃ w : Int32, w = v7 + (1 : Int32) := ⟨_, rfl⟩
          have h := lt_e ev27 h
          refine g_iincv C tb_X8_begin_0_ok (i := 27) (1 : Int32) ev27 rfl rfl k_iconstv_1 rfl rfl ?_
          refine g_goto C tb_X8_begin_0_ok (i := 28) 23 rfl rfl ?_
          exact g_less (L' := [some (.ref a0), some (.int v27)]) ⟨rfl, ⟨rfl, trivial⟩⟩ (ih10 v27 M26 h)
    · have h := f6 c
      refine g_aload_n C tb_X8_begin_0_ok (i := 5) rfl rfl ?_
      obtain ⟨k28, h⟩ := gK_e h
      obtain ⟨n29, h⟩ := gN_e h
      refine g_getR C tb_X8_begin_0_ok (i := 6) rfl fl_X8_9 rfl k28 n29 ?_
      refine g_iload_n C tb_X8_begin_0_ok (i := 7) rfl rfl ?_
      refine g_iconstv C tb_X8_begin_0_ok (i := 8) 0 rfl k_iconstv_0 ?_
      obtain ⟨b30, h⟩ := gA_e h
      refine g_iast C tb_X8_begin_0_ok (i := 9) rfl b30 ?_
      refine g_mem (fun M31 eM31 => ?_)
      have h := lt_e eM31 h
      obtain ⟨v32, ev32⟩ : ∃ w : Int32, w = v1 + (1 : Int32) := ⟨_, rfl⟩
      have h := lt_e ev32 h
      refine g_iincv C tb_X8_begin_0_ok (i := 10) (1 : Int32) ev32 rfl rfl k_iconstv_1 rfl rfl ?_
      refine g_goto C tb_X8_begin_0_ok (i := 11) 2 rfl rfl ?_
      exact g_less (L' := [some (.ref a0), some (.int v32)]) ⟨rfl, ⟨rfl, trivial⟩⟩ (ih4 v32 M31 h)
def f_X8_init (y : Lay) (a0 : Nat) (a1 : Nat) (M : Mem) : Option (Lay × Mem) := gd (y.2.2 + 2 ≤ 1000) (lt (psh y (1, 30)) fun (y2 : Lay) => lt (zM M (y.2.2 + 1)) fun (M3 : Mem) => gK y2 a0 (0, 8) (gN (y.2.2 + 1) (lt (wF y2 a0 1 (y.2.2 + 1)) fun (y6 : Lay) => gd (y6.2.2 + 2 ≤ 1000) (lt (psh y6 (1, 30)) fun (y8 : Lay) => lt (zM M3 (y6.2.2 + 1)) fun (M9 : Mem) => gK y8 a0 (0, 8) (gN (y6.2.2 + 1) (lt (wF y8 a0 2 (y6.2.2 + 1)) fun (y12 : Lay) => gd (y12.2.2 + 2 ≤ 1000) (lt (psh y12 (1, 30)) fun (y14 : Lay) => lt (zM M9 (y12.2.2 + 1)) fun (M15 : Mem) => gK y14 a0 (0, 8) (gN (y12.2.2 + 1) (lt (wF y14 a0 3 (y12.2.2 + 1)) fun (y18 : Lay) => gd (y18.2.2 + 2 ≤ 1000) (lt (psh y18 (1, 6)) fun (y20 : Lay) => lt (zM M15 (y18.2.2 + 1)) fun (M21 : Mem) => gK y20 a0 (0, 8) (gN (y18.2.2 + 1) (lt (wF y20 a0 4 (y18.2.2 + 1)) fun (y24 : Lay) => gd (y24.2.2 + 2 ≤ 1000) (lt (psh y24 (1, 6)) fun (y26 : Lay) => lt (zM M21 (y24.2.2 + 1)) fun (M27 : Mem) => gK y26 a0 (0, 8) (gN (y24.2.2 + 1) (lt (wF y26 a0 5 (y24.2.2 + 1)) fun (y30 : Lay) => gd (y30.2.2 + 2 ≤ 1000) (lt (psh y30 (1, 6)) fun (y32 : Lay) => lt (zM M27 (y30.2.2 + 1)) fun (M33 : Mem) => gK y32 a0 (0, 8) (gN (y30.2.2 + 1) (lt (wF y32 a0 6 (y30.2.2 + 1)) fun (y36 : Lay) => gK y36 a0 (0, 8) (gN a1 (lt (wF y36 a0 0 a1) fun (y39 : Lay) => gK y39 a0 (0, 8) (c0 (f_X8_begin y39 a0 M33) fun (r41 : Int32) (M42 : Mem) => some (y39, M42))))))))))))))))))))))
theorem w_X8_init {g : GX} {l : Launch} (hG : GF g l) (y : Lay) (a0 : Nat) (a1 : Nat) (M : Mem) : CIt g l yX8_init cX8_init 2 1 6 108 y [.ref a0, .ref a1] M (f_X8_init y a0 a1 M) := by
  refine CI_of hG (by decide) rfl [some (.ref a0), some (.ref a1)] rfl rfl (fun out h x Q C R hz => ?_)
  have hz0 := hz
  unfold f_X8_init at h
  refine g_aload_n C tb_X8_init_0_ok (i := 0) rfl rfl ?_
  refine g_objI C tb_X8_init_0_ok (i := 1) rfl oi_X8_3 obj_w rfl ?_
  refine g_aload_n C tb_X8_init_0_ok (i := 2) rfl rfl ?_
  refine g_bipushv C tb_X8_init_0_ok (i := 3) 30 rfl k_bipushv_30 ?_
  obtain ⟨g1, h⟩ := gd_e h
  refine g_newaI C tb_X8_init_0_ok (i := 4) (N := 30) hz rfl acl_int (by decide) (by decide) rfl g1 rfl rfl (fun hz => ?_)
  refine g_nm (fun y2 ey2 M3 eM3 => ?_)
  have h := lt_e eM3 (lt_e ey2 h)
  rw [← ey2] at hz
  obtain ⟨k4, h⟩ := gK_e h
  obtain ⟨n5, h⟩ := gN_e h
  refine g_putF C tb_X8_init_0_ok R (i := 5) rfl ff_X8_9 ft_8_1 (Or.inr ⟨_, rfl⟩) rfl n5 k4 ?_
  refine g_nmy (fun y6 ey6 => ?_)
  have h := lt_e ey6 h
  have hz : HZ g x _ y6 := by rw [ey6]; exact hz
  refine g_aload_n C tb_X8_init_0_ok (i := 6) rfl rfl ?_
  refine g_bipushv C tb_X8_init_0_ok (i := 7) 30 rfl k_bipushv_30 ?_
  obtain ⟨g7, h⟩ := gd_e h
  refine g_newaI C tb_X8_init_0_ok (i := 8) (N := 30) hz rfl acl_int (by decide) (by decide) rfl g7 rfl rfl (fun hz => ?_)
  refine g_nm (fun y8 ey8 M9 eM9 => ?_)
  have h := lt_e eM9 (lt_e ey8 h)
  rw [← ey8] at hz
  obtain ⟨k10, h⟩ := gK_e h
  obtain ⟨n11, h⟩ := gN_e h
  refine g_putF C tb_X8_init_0_ok R (i := 9) rfl ff_X8_15 ft_8_2 (Or.inr ⟨_, rfl⟩) rfl n11 k10 ?_
  refine g_nmy (fun y12 ey12 => ?_)
  have h := lt_e ey12 h
  have hz : HZ g x _ y12 := by rw [ey12]; exact hz
  refine g_aload_n C tb_X8_init_0_ok (i := 10) rfl rfl ?_
  refine g_bipushv C tb_X8_init_0_ok (i := 11) 30 rfl k_bipushv_30 ?_
  obtain ⟨g13, h⟩ := gd_e h
  refine g_newaI C tb_X8_init_0_ok (i := 12) (N := 30) hz rfl acl_int (by decide) (by decide) rfl g13 rfl rfl (fun hz => ?_)
  refine g_nm (fun y14 ey14 M15 eM15 => ?_)
  have h := lt_e eM15 (lt_e ey14 h)
  rw [← ey14] at hz
  obtain ⟨k16, h⟩ := gK_e h
  obtain ⟨n17, h⟩ := gN_e h
  refine g_putF C tb_X8_init_0_ok R (i := 13) rfl ff_X8_18 ft_8_3 (Or.inr ⟨_, rfl⟩) rfl n17 k16 ?_
  refine g_nmy (fun y18 ey18 => ?_)
  have h := lt_e ey18 h
  have hz : HZ g x _ y18 := by rw [ey18]; exact hz
  refine g_aload_n C tb_X8_init_0_ok (i := 14) rfl rfl ?_
  refine g_bipushv C tb_X8_init_0_ok (i := 15) 6 rfl k_bipushv_6 ?_
  obtain ⟨g19, h⟩ := gd_e h
  refine g_newaI C tb_X8_init_0_ok (i := 16) (N := 6) hz rfl acl_int (by decide) (by decide) rfl g19 rfl rfl (fun hz => ?_)
  refine g_nm (fun y20 ey20 M21 eM21 => ?_)
  have h := lt_e eM21 (lt_e ey20 h)
  rw [← ey20] at hz
  obtain ⟨k22, h⟩ := gK_e h
  obtain ⟨n23, h⟩ := gN_e h
  refine g_putF C tb_X8_init_0_ok R (i := 17) rfl ff_X8_21 ft_8_4 (Or.inr ⟨_, rfl⟩) rfl n23 k22 ?_
  refine g_nmy (fun y24 ey24 => ?_)
  have h := lt_e ey24 h
  have hz : HZ g x _ y24 := by rw [ey24]; exact hz
  refine g_aload_n C tb_X8_init_0_ok (i := 18) rfl rfl ?_
  refine g_bipushv C tb_X8_init_0_ok (i := 19) 6 rfl k_bipushv_6 ?_
  obtain ⟨g25, h⟩ := gd_e h
  refine g_newaI C tb_X8_init_0_ok (i := 20) (N := 6) hz rfl acl_int (by decide) (by decide) rfl g25 rfl rfl (fun hz => ?_)
  refine g_nm (fun y26 ey26 M27 eM27 => ?_)
  have h := lt_e eM27 (lt_e ey26 h)
  rw [← ey26] at hz
  obtain ⟨k28, h⟩ := gK_e h
  obtain ⟨n29, h⟩ := gN_e h
  refine g_putF C tb_X8_init_0_ok R (i := 21) rfl ff_X8_24 ft_8_5 (Or.inr ⟨_, rfl⟩) rfl n29 k28 ?_
  refine g_nmy (fun y30 ey30 => ?_)
  have h := lt_e ey30 h
  have hz : HZ g x _ y30 := by rw [ey30]; exact hz
  refine g_aload_n C tb_X8_init_0_ok (i := 22) rfl rfl ?_
  refine g_bipushv C tb_X8_init_0_ok (i := 23) 6 rfl k_bipushv_6 ?_
  obtain ⟨g31, h⟩ := gd_e h
  refine g_newaI C tb_X8_init_0_ok (i := 24) (N := 6) hz rfl acl_int (by decide) (by decide) rfl g31 rfl rfl (fun hz => ?_)
  refine g_nm (fun y32 ey32 M33 eM33 => ?_)
  have h := lt_e eM33 (lt_e ey32 h)
  rw [← ey32] at hz
  obtain ⟨k34, h⟩ := gK_e h
  obtain ⟨n35, h⟩ := gN_e h
  refine g_putF C tb_X8_init_0_ok R (i := 25) rfl ff_X8_29 ft_8_6 (Or.inr ⟨_, rfl⟩) rfl n35 k34 ?_
  refine g_nmy (fun y36 ey36 => ?_)
  have h := lt_e ey36 h
  have hz : HZ g x _ y36 := by rw [ey36]; exact hz
  refine g_aload_n C tb_X8_init_0_ok (i := 26) rfl rfl ?_
  refine g_aload_n C tb_X8_init_0_ok (i := 27) rfl rfl ?_
  obtain ⟨k37, h⟩ := gK_e h
  obtain ⟨n38, h⟩ := gN_e h
  refine g_putF C tb_X8_init_0_ok R (i := 28) rfl ff_X8_32 ft_8_0 (Or.inl ⟨_, rfl⟩) rfl n38 k37 ?_
  refine g_nmy (fun y39 ey39 => ?_)
  have h := lt_e ey39 h
  have hz : HZ g x _ y39 := by rw [ey39]; exact hz
  refine g_aload_n C tb_X8_init_0_ok (i := 29) rfl rfl ?_
  obtain ⟨k40, h⟩ := gK_e h
  obtain ⟨r41, M42, er41, h⟩ := c0_e h
  refine g_callV0 C tb_X8_init_0_ok (i := 30) [] rfl mw_X8_begin mv_X8_begin ml_X8_36 k40 rfl rfl rfl rfl (w_X8_begin C.G y39 a0 M33) er41 rfl rfl rfl ?_
  cases h
  exact g_vretI C R hz rfl (by have h8 : x.2.2.2.2.1.heap.size + 0 = bs g + y.2.2 := hz0; have h9 : x.2.2.2.2.1.heap.size + _ = bs g + _ := hz; omega) rfl tb_X8_init_0_ok (i := 31) rfl
def f_X10_init (y : Lay) (a0 : Nat) (a1 : Nat) (M : Mem) : Option (Lay × Mem) := gK y a0 (0, 10) (gN a1 (lt (wF y a0 0 a1) fun (y3 : Lay) => some (y3, M)))
theorem w_X10_init {g : GX} {l : Launch} (hG : GF g l) (y : Lay) (a0 : Nat) (a1 : Nat) (M : Mem) : CIt g l yX10_init cX10_init 2 0 0 0 y [.ref a0, .ref a1] M (f_X10_init y a0 a1 M) := by
  refine CI_of hG (by decide) rfl [some (.ref a0), some (.ref a1)] rfl rfl (fun out h x Q C R hz => ?_)
  have hz0 := hz
  unfold f_X10_init at h
  refine g_aload_n C tb_X10_init_0_ok (i := 0) rfl rfl ?_
  refine g_objI C tb_X10_init_0_ok (i := 1) rfl oi_X10_3 obj_w rfl ?_
  refine g_aload_n C tb_X10_init_0_ok (i := 2) rfl rfl ?_
  refine g_aload_n C tb_X10_init_0_ok (i := 3) rfl rfl ?_
  obtain ⟨k1, h⟩ := gK_e h
  obtain ⟨n2, h⟩ := gN_e h
  refine g_putF C tb_X10_init_0_ok R (i := 4) rfl ff_X10_9 ft_10_0 (Or.inl ⟨_, rfl⟩) rfl n2 k1 ?_
  refine g_nmy (fun y3 ey3 => ?_)
  have h := lt_e ey3 h
  have hz : HZ g x _ y3 := by rw [ey3]; exact hz
  cases h
  exact g_vretI C R hz rfl (by have h8 : x.2.2.2.2.1.heap.size + 0 = bs g + y.2.2 := hz0; have h9 : x.2.2.2.2.1.heap.size + _ = bs g + _ := hz; omega) rfl tb_X10_init_0_ok (i := 5) rfl
def f_X6_init (y : Lay) (a0 : Nat) (a1 : Nat) (a2 : Nat) (M : Mem) : Option (Lay × Mem) := gK y a0 (0, 6) (gN a1 (lt (wF y a0 0 a1) fun (y3 : Lay) => gK y3 a0 (0, 6) (gN a2 (lt (wR M a0 1 a2) fun (M6 : Mem) => some (y3, M6)))))
theorem w_X6_init {g : GX} {l : Launch} (hG : GF g l) (y : Lay) (a0 : Nat) (a1 : Nat) (a2 : Nat) (M : Mem) : CIt g l yX6_init cX6_init 3 0 0 0 y [.ref a0, .ref a1, .ref a2] M (f_X6_init y a0 a1 a2 M) := by
  refine CI_of hG (by decide) rfl [some (.ref a0), some (.ref a1), some (.ref a2)] rfl rfl (fun out h x Q C R hz => ?_)
  have hz0 := hz
  unfold f_X6_init at h
  refine g_aload_n C tb_X6_init_0_ok (i := 0) rfl rfl ?_
  refine g_objI C tb_X6_init_0_ok (i := 1) rfl oi_X6_3 obj_w rfl ?_
  refine g_aload_n C tb_X6_init_0_ok (i := 2) rfl rfl ?_
  refine g_aload_n C tb_X6_init_0_ok (i := 3) rfl rfl ?_
  obtain ⟨k1, h⟩ := gK_e h
  obtain ⟨n2, h⟩ := gN_e h
  refine g_putF C tb_X6_init_0_ok R (i := 4) rfl ff_X6_9 ft_6_0 (Or.inl ⟨_, rfl⟩) rfl n2 k1 ?_
  refine g_nmy (fun y3 ey3 => ?_)
  have h := lt_e ey3 h
  have hz : HZ g x _ y3 := by rw [ey3]; exact hz
  refine g_aload_n C tb_X6_init_0_ok (i := 5) rfl rfl ?_
  refine g_aload_n C tb_X6_init_0_ok (i := 6) rfl rfl ?_
  obtain ⟨k4, h⟩ := gK_e h
  obtain ⟨n5, h⟩ := gN_e h
  refine g_putM C tb_X6_init_0_ok (i := 7) rfl fl_X6_15 ft_6_1 (Or.inl ⟨_, rfl⟩) rfl n5 k4 ?_
  refine g_mem (fun M6 eM6 => ?_)
  have h := lt_e eM6 h
  cases h
  exact g_vretI C R hz rfl (by have h8 : x.2.2.2.2.1.heap.size + 0 = bs g + y.2.2 := hz0; have h9 : x.2.2.2.2.1.heap.size + _ = bs g + _ := hz; omega) rfl tb_X6_init_0_ok (i := 8) rfl
def f_X2_init (y : Lay) (a0 : Nat) (a1 : Nat) (M : Mem) : Option (Lay × Mem) := gd (y.2.2 + 2 ≤ 1000) (lt (psh y (0, 1)) fun (y2 : Lay) => lt (zM M (y.2.2 + 1)) fun (M3 : Mem) => ci (f_X1_init y2 (y.2.2 + 1) M3) fun (y4 : Lay) (M5 : Mem) => gK y4 a0 (0, 2) (gN (y.2.2 + 1) (lt (wF y4 a0 2 (y.2.2 + 1)) fun (y8 : Lay) => gd (y8.2.2 + 2 ≤ 1000) (lt (psh y8 (0, 8)) fun (y10 : Lay) => lt (zM M5 (y8.2.2 + 1)) fun (M11 : Mem) => gK y10 a0 (0, 2) (gN (y10.2.1 a0 2) (ci (f_X8_init y10 (y8.2.2 + 1) (y10.2.1 a0 2) M11) fun (y14 : Lay) (M15 : Mem) => gK y14 a0 (0, 2) (gN (y8.2.2 + 1) (lt (wF y14 a0 3 (y8.2.2 + 1)) fun (y18 : Lay) => gd (y18.2.2 + 2 ≤ 1000) (lt (psh y18 (0, 10)) fun (y20 : Lay) => lt (zM M15 (y18.2.2 + 1)) fun (M21 : Mem) => ci (f_X10_init y20 (y18.2.2 + 1) a1 M21) fun (y22 : Lay) (M23 : Mem) => gK y22 a0 (0, 2) (gN (y18.2.2 + 1) (lt (wF y22 a0 0 (y18.2.2 + 1)) fun (y26 : Lay) => gd (y26.2.2 + 2 ≤ 1000) (lt (psh y26 (0, 6)) fun (y28 : Lay) => lt (zM M23 (y26.2.2 + 1)) fun (M29 : Mem) => gK y28 a0 (0, 2) (gN (y28.2.1 a0 0) (gN (y28.2.1 a0 2) (gK y28 (y28.2.1 a0 2) (0, 1) (gN (y28.2.1 (y28.2.1 a0 2) 7) (ci (f_X6_init y28 (y26.2.2 + 1) (y28.2.1 a0 0) (y28.2.1 (y28.2.1 a0 2) 7) M29) fun (y35 : Lay) (M36 : Mem) => gK y35 a0 (0, 2) (gN (y26.2.2 + 1) (lt (wF y35 a0 1 (y26.2.2 + 1)) fun (y39 : Lay) => some (y39, M36))))))))))))))))))))
theorem w_X2_init {g : GX} {l : Launch} (hG : GF g l) (y : Lay) (a0 : Nat) (a1 : Nat) (M : Mem) : CIt g l yX2_init cX2_init 2 5 17 1657 y [.ref a0, .ref a1] M (f_X2_init y a0 a1 M) := by
  refine CI_of hG (by decide) rfl [some (.ref a0), some (.ref a1)] rfl rfl (fun out h x Q C R hz => ?_)
  have hz0 := hz
  unfold f_X2_init at h
  refine g_aload_n C tb_X2_init_0_ok (i := 0) rfl rfl ?_
  refine g_objI C tb_X2_init_0_ok (i := 1) rfl oi_X2_3 obj_w rfl ?_
  refine g_aload_n C tb_X2_init_0_ok (i := 2) rfl rfl ?_
  obtain ⟨g1, h⟩ := gd_e h
  refine g_new C tb_X2_init_0_ok (i := 3) hz rfl cls_1 cnw_1 ck_X2_9 ins_1 ini_1 (Or.inr g1) rfl rfl (fun hz => ?_)
  refine g_nm (fun y2 ey2 M3 eM3 => ?_)
  have h := lt_e eM3 (lt_e ey2 h)
  rw [← ey2] at hz
  refine g_dup C tb_X2_init_0_ok (i := 4) rfl rfl ?_
  obtain ⟨y4, M5, ey4, h⟩ := ci_e h
  refine g_callI C tb_X2_init_0_ok (i := 5) [] hz rfl mw_X1_init mi_X1_init mli_X2_11 rfl rfl rfl rfl (w_X1_init C.G y2 (y.2.2 + 1) M3) ey4 rfl rfl rfl (fun hz => ?_)
  obtain ⟨k6, h⟩ := gK_e h
  obtain ⟨n7, h⟩ := gN_e h
  refine g_putF C tb_X2_init_0_ok R (i := 6) rfl ff_X2_12 ft_2_2 (Or.inl ⟨_, rfl⟩) rfl n7 k6 ?_
  refine g_nmy (fun y8 ey8 => ?_)
  have h := lt_e ey8 h
  have hz : HZ g x _ y8 := by rw [ey8]; exact hz
  refine g_aload_n C tb_X2_init_0_ok (i := 7) rfl rfl ?_
  obtain ⟨g9, h⟩ := gd_e h
  refine g_new C tb_X2_init_0_ok (i := 8) hz rfl cls_8 cnw_8 ck_X2_18 ins_8 ini_8 (Or.inr g9) rfl rfl (fun hz => ?_)
  refine g_nm (fun y10 ey10 M11 eM11 => ?_)
  have h := lt_e eM11 (lt_e ey10 h)
  rw [← ey10] at hz
  refine g_dup C tb_X2_init_0_ok (i := 9) rfl rfl ?_
  refine g_aload_n C tb_X2_init_0_ok (i := 10) rfl rfl ?_
  obtain ⟨k12, h⟩ := gK_e h
  obtain ⟨n13, h⟩ := gN_e h
  refine g_getR C tb_X2_init_0_ok (i := 11) rfl fl_X2_12 rfl k12 n13 ?_
  obtain ⟨y14, M15, ey14, h⟩ := ci_e h
  refine g_callI C tb_X2_init_0_ok (i := 12) [.ref (y10.2.1 a0 2)] hz rfl mw_X8_init mi_X8_init mli_X2_20 rfl rfl rfl rfl (w_X8_init C.G y10 (y8.2.2 + 1) (y10.2.1 a0 2) M11) ey14 rfl rfl rfl (fun hz => ?_)
  obtain ⟨k16, h⟩ := gK_e h
  obtain ⟨n17, h⟩ := gN_e h
  refine g_putF C tb_X2_init_0_ok R (i := 13) rfl ff_X2_23 ft_2_3 (Or.inl ⟨_, rfl⟩) rfl n17 k16 ?_
  refine g_nmy (fun y18 ey18 => ?_)
  have h := lt_e ey18 h
  have hz : HZ g x _ y18 := by rw [ey18]; exact hz
  refine g_aload_n C tb_X2_init_0_ok (i := 14) rfl rfl ?_
  obtain ⟨g19, h⟩ := gd_e h
  refine g_new C tb_X2_init_0_ok (i := 15) hz rfl cls_10 cnw_10 ck_X2_27 ins_10 ini_10 (Or.inr g19) rfl rfl (fun hz => ?_)
  refine g_nm (fun y20 ey20 M21 eM21 => ?_)
  have h := lt_e eM21 (lt_e ey20 h)
  rw [← ey20] at hz
  refine g_dup C tb_X2_init_0_ok (i := 16) rfl rfl ?_
  refine g_aload_n C tb_X2_init_0_ok (i := 17) rfl rfl ?_
  obtain ⟨y22, M23, ey22, h⟩ := ci_e h
  refine g_callI C tb_X2_init_0_ok (i := 18) [.ref a1] hz rfl mw_X10_init mi_X10_init mli_X2_29 rfl rfl rfl rfl (w_X10_init C.G y20 (y18.2.2 + 1) a1 M21) ey22 rfl rfl rfl (fun hz => ?_)
  obtain ⟨k24, h⟩ := gK_e h
  obtain ⟨n25, h⟩ := gN_e h
  refine g_putF C tb_X2_init_0_ok R (i := 19) rfl ff_X2_32 ft_2_0 (Or.inl ⟨_, rfl⟩) rfl n25 k24 ?_
  refine g_nmy (fun y26 ey26 => ?_)
  have h := lt_e ey26 h
  have hz : HZ g x _ y26 := by rw [ey26]; exact hz
  refine g_aload_n C tb_X2_init_0_ok (i := 20) rfl rfl ?_
  obtain ⟨g27, h⟩ := gd_e h
  refine g_new C tb_X2_init_0_ok (i := 21) hz rfl cls_6 cnw_6 ck_X2_36 ins_6 ini_6 (Or.inr g27) rfl rfl (fun hz => ?_)
  refine g_nm (fun y28 ey28 M29 eM29 => ?_)
  have h := lt_e eM29 (lt_e ey28 h)
  rw [← ey28] at hz
  refine g_dup C tb_X2_init_0_ok (i := 22) rfl rfl ?_
  refine g_aload_n C tb_X2_init_0_ok (i := 23) rfl rfl ?_
  obtain ⟨k30, h⟩ := gK_e h
  obtain ⟨n31, h⟩ := gN_e h
  refine g_getR C tb_X2_init_0_ok (i := 24) rfl fl_X2_32 rfl k30 n31 ?_
  refine g_aload_n C tb_X2_init_0_ok (i := 25) rfl rfl ?_
  obtain ⟨n32, h⟩ := gN_e h
  refine g_getR C tb_X2_init_0_ok (i := 26) rfl fl_X2_12 rfl k30 n32 ?_
  obtain ⟨k33, h⟩ := gK_e h
  obtain ⟨n34, h⟩ := gN_e h
  refine g_getR C tb_X2_init_0_ok (i := 27) rfl fl_X2_38 rfl k33 n34 ?_
  obtain ⟨y35, M36, ey35, h⟩ := ci_e h
  refine g_callI C tb_X2_init_0_ok (i := 28) [.ref (y28.2.1 a0 0), .ref (y28.2.1 (y28.2.1 a0 2) 7)] hz rfl mw_X6_init mi_X6_init mli_X2_42 rfl rfl rfl rfl (w_X6_init C.G y28 (y26.2.2 + 1) (y28.2.1 a0 0) (y28.2.1 (y28.2.1 a0 2) 7) M29) ey35 rfl rfl rfl (fun hz => ?_)
  obtain ⟨k37, h⟩ := gK_e h
  obtain ⟨n38, h⟩ := gN_e h
  refine g_putF C tb_X2_init_0_ok R (i := 29) rfl ff_X2_45 ft_2_1 (Or.inl ⟨_, rfl⟩) rfl n38 k37 ?_
  refine g_nmy (fun y39 ey39 => ?_)
  have h := lt_e ey39 h
  have hz : HZ g x _ y39 := by rw [ey39]; exact hz
  cases h
  exact g_vretI C R hz rfl (by have h8 : x.2.2.2.2.1.heap.size + 0 = bs g + y.2.2 := hz0; have h9 : x.2.2.2.2.1.heap.size + _ = bs g + _ := hz; omega) rfl tb_X2_init_0_ok (i := 30) rfl
def f_X0_init (y : Lay) (a0 : Nat) (M : Mem) : Option (Lay × Mem) := gd (y.2.2 + 2 ≤ 1000) (lt (psh y (1, 1640)) fun (y2 : Lay) => lt (zM M (y.2.2 + 1)) fun (M3 : Mem) => gK y2 a0 (0, 0) (gN (y.2.2 + 1) (lt (wF y2 a0 0 (y.2.2 + 1)) fun (y6 : Lay) => some (y6, M3))))
theorem w_X0_init {g : GX} {l : Launch} (hG : GF g l) (y : Lay) (a0 : Nat) (M : Mem) : CIt g l yX0_init cX0_init 1 0 1 1640 y [.ref a0] M (f_X0_init y a0 M) := by
  refine CI_of hG (by decide) rfl [some (.ref a0)] rfl rfl (fun out h x Q C R hz => ?_)
  have hz0 := hz
  unfold f_X0_init at h
  refine g_aload_n C tb_X0_init_0_ok (i := 0) rfl rfl ?_
  refine g_objI C tb_X0_init_0_ok (i := 1) rfl oi_X0_3 obj_w rfl ?_
  refine g_aload_n C tb_X0_init_0_ok (i := 2) rfl rfl ?_
  refine g_sipushv C tb_X0_init_0_ok (i := 3) 1640 rfl k_sipushv_1640 ?_
  obtain ⟨g1, h⟩ := gd_e h
  refine g_newaI C tb_X0_init_0_ok (i := 4) (N := 1640) hz rfl acl_int (by decide) (by decide) rfl g1 rfl rfl (fun hz => ?_)
  refine g_nm (fun y2 ey2 M3 eM3 => ?_)
  have h := lt_e eM3 (lt_e ey2 h)
  rw [← ey2] at hz
  obtain ⟨k4, h⟩ := gK_e h
  obtain ⟨n5, h⟩ := gN_e h
  refine g_putF C tb_X0_init_0_ok R (i := 5) rfl ff_X0_11 ft_0_0 (Or.inr ⟨_, rfl⟩) rfl n5 k4 ?_
  refine g_nmy (fun y6 ey6 => ?_)
  have h := lt_e ey6 h
  have hz : HZ g x _ y6 := by rw [ey6]; exact hz
  cases h
  exact g_vretI C R hz rfl (by have h8 : x.2.2.2.2.1.heap.size + 0 = bs g + y.2.2 := hz0; have h9 : x.2.2.2.2.1.heap.size + _ = bs g + _ := hz; omega) rfl tb_X0_init_0_ok (i := 6) rfl
def f_X4_init (y : Lay) (a0 : Nat) (a1 : Nat) (M : Mem) : Option (Lay × Mem) := gd (y.2.2 + 2 ≤ 1000) (lt (psh y (0, 0)) fun (y2 : Lay) => lt (zM M (y.2.2 + 1)) fun (M3 : Mem) => ci (f_X0_init y2 (y.2.2 + 1) M3) fun (y4 : Lay) (M5 : Mem) => gK y4 a0 (0, 4) (gN (y.2.2 + 1) (lt (wF y4 a0 1 (y.2.2 + 1)) fun (y8 : Lay) => gd (y8.2.2 + 2 ≤ 1000) (lt (psh y8 (1, 8)) fun (y10 : Lay) => lt (zM M5 (y8.2.2 + 1)) fun (M11 : Mem) => gK y10 a0 (0, 4) (gN (y8.2.2 + 1) (lt (wF y10 a0 2 (y8.2.2 + 1)) fun (y14 : Lay) => gd (y14.2.2 + 2 ≤ 1000) (lt (psh y14 (1, 8)) fun (y16 : Lay) => lt (zM M11 (y14.2.2 + 1)) fun (M17 : Mem) => gK y16 a0 (0, 4) (gN (y14.2.2 + 1) (lt (wF y16 a0 3 (y14.2.2 + 1)) fun (y20 : Lay) => gd (y20.2.2 + 2 ≤ 1000) (lt (psh y20 (1, 8)) fun (y22 : Lay) => lt (zM M17 (y20.2.2 + 1)) fun (M23 : Mem) => gK y22 a0 (0, 4) (gN (y20.2.2 + 1) (lt (wF y22 a0 4 (y20.2.2 + 1)) fun (y26 : Lay) => gd (y26.2.2 + 2 ≤ 1000) (lt (psh y26 (1, 3)) fun (y28 : Lay) => lt (zM M23 (y26.2.2 + 1)) fun (M29 : Mem) => gK y28 a0 (0, 4) (gN (y26.2.2 + 1) (lt (wF y28 a0 5 (y26.2.2 + 1)) fun (y32 : Lay) => gd (y32.2.2 + 2 ≤ 1000) (lt (psh y32 (0, 8)) fun (y34 : Lay) => lt (zM M29 (y32.2.2 + 1)) fun (M35 : Mem) => ci (f_X8_init y34 (y32.2.2 + 1) a1 M35) fun (y36 : Lay) (M37 : Mem) => gK y36 a0 (0, 4) (gN (y32.2.2 + 1) (lt (wF y36 a0 0 (y32.2.2 + 1)) fun (y40 : Lay) => some (y40, M37)))))))))))))))))))
theorem w_X4_init {g : GX} {l : Launch} (hG : GF g l) (y : Lay) (a0 : Nat) (a1 : Nat) (M : Mem) : CIt g l yX4_init cX4_init 2 2 13 1790 y [.ref a0, .ref a1] M (f_X4_init y a0 a1 M) := by
  refine CI_of hG (by decide) rfl [some (.ref a0), some (.ref a1)] rfl rfl (fun out h x Q C R hz => ?_)
  have hz0 := hz
  unfold f_X4_init at h
  refine g_aload_n C tb_X4_init_0_ok (i := 0) rfl rfl ?_
  refine g_objI C tb_X4_init_0_ok (i := 1) rfl oi_X4_3 obj_w rfl ?_
  refine g_aload_n C tb_X4_init_0_ok (i := 2) rfl rfl ?_
  obtain ⟨g1, h⟩ := gd_e h
  refine g_new C tb_X4_init_0_ok (i := 3) hz rfl cls_0 cnw_0 ck_X4_9 ins_0 ini_0 (Or.inr g1) rfl rfl (fun hz => ?_)
  refine g_nm (fun y2 ey2 M3 eM3 => ?_)
  have h := lt_e eM3 (lt_e ey2 h)
  rw [← ey2] at hz
  refine g_dup C tb_X4_init_0_ok (i := 4) rfl rfl ?_
  obtain ⟨y4, M5, ey4, h⟩ := ci_e h
  refine g_callI C tb_X4_init_0_ok (i := 5) [] hz rfl mw_X0_init mi_X0_init mli_X4_11 rfl rfl rfl rfl (w_X0_init C.G y2 (y.2.2 + 1) M3) ey4 rfl rfl rfl (fun hz => ?_)
  obtain ⟨k6, h⟩ := gK_e h
  obtain ⟨n7, h⟩ := gN_e h
  refine g_putF C tb_X4_init_0_ok R (i := 6) rfl ff_X4_12 ft_4_1 (Or.inl ⟨_, rfl⟩) rfl n7 k6 ?_
  refine g_nmy (fun y8 ey8 => ?_)
  have h := lt_e ey8 h
  have hz : HZ g x _ y8 := by rw [ey8]; exact hz
  refine g_aload_n C tb_X4_init_0_ok (i := 7) rfl rfl ?_
  refine g_bipushv C tb_X4_init_0_ok (i := 8) 8 rfl k_bipushv_8 ?_
  obtain ⟨g9, h⟩ := gd_e h
  refine g_newaI C tb_X4_init_0_ok (i := 9) (N := 8) hz rfl acl_int (by decide) (by decide) rfl g9 rfl rfl (fun hz => ?_)
  refine g_nm (fun y10 ey10 M11 eM11 => ?_)
  have h := lt_e eM11 (lt_e ey10 h)
  rw [← ey10] at hz
  obtain ⟨k12, h⟩ := gK_e h
  obtain ⟨n13, h⟩ := gN_e h
  refine g_putF C tb_X4_init_0_ok R (i := 10) rfl ff_X4_18 ft_4_2 (Or.inr ⟨_, rfl⟩) rfl n13 k12 ?_
  refine g_nmy (fun y14 ey14 => ?_)
  have h := lt_e ey14 h
  have hz : HZ g x _ y14 := by rw [ey14]; exact hz
  refine g_aload_n C tb_X4_init_0_ok (i := 11) rfl rfl ?_
  refine g_bipushv C tb_X4_init_0_ok (i := 12) 8 rfl k_bipushv_8 ?_
  obtain ⟨g15, h⟩ := gd_e h
  refine g_newaI C tb_X4_init_0_ok (i := 13) (N := 8) hz rfl acl_int (by decide) (by decide) rfl g15 rfl rfl (fun hz => ?_)
  refine g_nm (fun y16 ey16 M17 eM17 => ?_)
  have h := lt_e eM17 (lt_e ey16 h)
  rw [← ey16] at hz
  obtain ⟨k18, h⟩ := gK_e h
  obtain ⟨n19, h⟩ := gN_e h
  refine g_putF C tb_X4_init_0_ok R (i := 14) rfl ff_X4_22 ft_4_3 (Or.inr ⟨_, rfl⟩) rfl n19 k18 ?_
  refine g_nmy (fun y20 ey20 => ?_)
  have h := lt_e ey20 h
  have hz : HZ g x _ y20 := by rw [ey20]; exact hz
  refine g_aload_n C tb_X4_init_0_ok (i := 15) rfl rfl ?_
  refine g_bipushv C tb_X4_init_0_ok (i := 16) 8 rfl k_bipushv_8 ?_
  obtain ⟨g21, h⟩ := gd_e h
  refine g_newaI C tb_X4_init_0_ok (i := 17) (N := 8) hz rfl acl_int (by decide) (by decide) rfl g21 rfl rfl (fun hz => ?_)
  refine g_nm (fun y22 ey22 M23 eM23 => ?_)
  have h := lt_e eM23 (lt_e ey22 h)
  rw [← ey22] at hz
  obtain ⟨k24, h⟩ := gK_e h
  obtain ⟨n25, h⟩ := gN_e h
  refine g_putF C tb_X4_init_0_ok R (i := 18) rfl ff_X4_25 ft_4_4 (Or.inr ⟨_, rfl⟩) rfl n25 k24 ?_
  refine g_nmy (fun y26 ey26 => ?_)
  have h := lt_e ey26 h
  have hz : HZ g x _ y26 := by rw [ey26]; exact hz
  refine g_aload_n C tb_X4_init_0_ok (i := 19) rfl rfl ?_
  refine g_iconstv C tb_X4_init_0_ok (i := 20) 3 rfl k_iconstv_3 ?_
  obtain ⟨g27, h⟩ := gd_e h
  refine g_newaI C tb_X4_init_0_ok (i := 21) (N := 3) hz rfl acl_int (by decide) (by decide) rfl g27 rfl rfl (fun hz => ?_)
  refine g_nm (fun y28 ey28 M29 eM29 => ?_)
  have h := lt_e eM29 (lt_e ey28 h)
  rw [← ey28] at hz
  obtain ⟨k30, h⟩ := gK_e h
  obtain ⟨n31, h⟩ := gN_e h
  refine g_putF C tb_X4_init_0_ok R (i := 22) rfl ff_X4_28 ft_4_5 (Or.inr ⟨_, rfl⟩) rfl n31 k30 ?_
  refine g_nmy (fun y32 ey32 => ?_)
  have h := lt_e ey32 h
  have hz : HZ g x _ y32 := by rw [ey32]; exact hz
  refine g_aload_n C tb_X4_init_0_ok (i := 23) rfl rfl ?_
  obtain ⟨g33, h⟩ := gd_e h
  refine g_new C tb_X4_init_0_ok (i := 24) hz rfl cls_8 cnw_8 ck_X4_31 ins_8 ini_8 (Or.inr g33) rfl rfl (fun hz => ?_)
  refine g_nm (fun y34 ey34 M35 eM35 => ?_)
  have h := lt_e eM35 (lt_e ey34 h)
  rw [← ey34] at hz
  refine g_dup C tb_X4_init_0_ok (i := 25) rfl rfl ?_
  refine g_aload_n C tb_X4_init_0_ok (i := 26) rfl rfl ?_
  obtain ⟨y36, M37, ey36, h⟩ := ci_e h
  refine g_callI C tb_X4_init_0_ok (i := 27) [.ref a1] hz rfl mw_X8_init mi_X8_init mli_X4_33 rfl rfl rfl rfl (w_X8_init C.G y34 (y32.2.2 + 1) a1 M35) ey36 rfl rfl rfl (fun hz => ?_)
  obtain ⟨k38, h⟩ := gK_e h
  obtain ⟨n39, h⟩ := gN_e h
  refine g_putF C tb_X4_init_0_ok R (i := 28) rfl ff_X4_36 ft_4_0 (Or.inl ⟨_, rfl⟩) rfl n39 k38 ?_
  refine g_nmy (fun y40 ey40 => ?_)
  have h := lt_e ey40 h
  have hz : HZ g x _ y40 := by rw [ey40]; exact hz
  cases h
  exact g_vretI C R hz rfl (by have h8 : x.2.2.2.2.1.heap.size + 0 = bs g + y.2.2 := hz0; have h9 : x.2.2.2.2.1.heap.size + _ = bs g + _ := hz; omega) rfl tb_X4_init_0_ok (i := 29) rfl
def f_X7_init (y : Lay) (a0 : Nat) (a1 : Nat) (M : Mem) : Option (Lay × Mem) := gd (y.2.2 + 2 ≤ 1000) (lt (psh y (1, 6)) fun (y2 : Lay) => lt (zM M (y.2.2 + 1)) fun (M3 : Mem) => gK y2 a0 (0, 7) (gN (y.2.2 + 1) (lt (wF y2 a0 0 (y.2.2 + 1)) fun (y6 : Lay) => gd (y6.2.2 + 2 ≤ 1000) (lt (psh y6 (1, 6)) fun (y8 : Lay) => lt (zM M3 (y6.2.2 + 1)) fun (M9 : Mem) => gK y8 a0 (0, 7) (gN (y6.2.2 + 1) (lt (wF y8 a0 1 (y6.2.2 + 1)) fun (y12 : Lay) => gd (y12.2.2 + 2 ≤ 1000) (lt (psh y12 (1, 6)) fun (y14 : Lay) => lt (zM M9 (y12.2.2 + 1)) fun (M15 : Mem) => gK y14 a0 (0, 7) (gN (y12.2.2 + 1) (lt (wF y14 a0 2 (y12.2.2 + 1)) fun (y18 : Lay) => gK y18 a0 (0, 7) (gN a1 (lt (wF y18 a0 3 a1) fun (y21 : Lay) => some (y21, M15))))))))))))
theorem w_X7_init {g : GX} {l : Launch} (hG : GF g l) (y : Lay) (a0 : Nat) (a1 : Nat) (M : Mem) : CIt g l yX7_init cX7_init 2 0 3 18 y [.ref a0, .ref a1] M (f_X7_init y a0 a1 M) := by
  refine CI_of hG (by decide) rfl [some (.ref a0), some (.ref a1)] rfl rfl (fun out h x Q C R hz => ?_)
  have hz0 := hz
  unfold f_X7_init at h
  refine g_aload_n C tb_X7_init_0_ok (i := 0) rfl rfl ?_
  refine g_objI C tb_X7_init_0_ok (i := 1) rfl oi_X7_3 obj_w rfl ?_
  refine g_aload_n C tb_X7_init_0_ok (i := 2) rfl rfl ?_
  refine g_bipushv C tb_X7_init_0_ok (i := 3) 6 rfl k_bipushv_6 ?_
  obtain ⟨g1, h⟩ := gd_e h
  refine g_newaI C tb_X7_init_0_ok (i := 4) (N := 6) hz rfl acl_int (by decide) (by decide) rfl g1 rfl rfl (fun hz => ?_)
  refine g_nm (fun y2 ey2 M3 eM3 => ?_)
  have h := lt_e eM3 (lt_e ey2 h)
  rw [← ey2] at hz
  obtain ⟨k4, h⟩ := gK_e h
  obtain ⟨n5, h⟩ := gN_e h
  refine g_putF C tb_X7_init_0_ok R (i := 5) rfl ff_X7_9 ft_7_0 (Or.inr ⟨_, rfl⟩) rfl n5 k4 ?_
  refine g_nmy (fun y6 ey6 => ?_)
  have h := lt_e ey6 h
  have hz : HZ g x _ y6 := by rw [ey6]; exact hz
  refine g_aload_n C tb_X7_init_0_ok (i := 6) rfl rfl ?_
  refine g_bipushv C tb_X7_init_0_ok (i := 7) 6 rfl k_bipushv_6 ?_
  obtain ⟨g7, h⟩ := gd_e h
  refine g_newaI C tb_X7_init_0_ok (i := 8) (N := 6) hz rfl acl_int (by decide) (by decide) rfl g7 rfl rfl (fun hz => ?_)
  refine g_nm (fun y8 ey8 M9 eM9 => ?_)
  have h := lt_e eM9 (lt_e ey8 h)
  rw [← ey8] at hz
  obtain ⟨k10, h⟩ := gK_e h
  obtain ⟨n11, h⟩ := gN_e h
  refine g_putF C tb_X7_init_0_ok R (i := 9) rfl ff_X7_15 ft_7_1 (Or.inr ⟨_, rfl⟩) rfl n11 k10 ?_
  refine g_nmy (fun y12 ey12 => ?_)
  have h := lt_e ey12 h
  have hz : HZ g x _ y12 := by rw [ey12]; exact hz
  refine g_aload_n C tb_X7_init_0_ok (i := 10) rfl rfl ?_
  refine g_bipushv C tb_X7_init_0_ok (i := 11) 6 rfl k_bipushv_6 ?_
  obtain ⟨g13, h⟩ := gd_e h
  refine g_newaI C tb_X7_init_0_ok (i := 12) (N := 6) hz rfl acl_int (by decide) (by decide) rfl g13 rfl rfl (fun hz => ?_)
  refine g_nm (fun y14 ey14 M15 eM15 => ?_)
  have h := lt_e eM15 (lt_e ey14 h)
  rw [← ey14] at hz
  obtain ⟨k16, h⟩ := gK_e h
  obtain ⟨n17, h⟩ := gN_e h
  refine g_putF C tb_X7_init_0_ok R (i := 13) rfl ff_X7_18 ft_7_2 (Or.inr ⟨_, rfl⟩) rfl n17 k16 ?_
  refine g_nmy (fun y18 ey18 => ?_)
  have h := lt_e ey18 h
  have hz : HZ g x _ y18 := by rw [ey18]; exact hz
  refine g_aload_n C tb_X7_init_0_ok (i := 14) rfl rfl ?_
  refine g_aload_n C tb_X7_init_0_ok (i := 15) rfl rfl ?_
  obtain ⟨k19, h⟩ := gK_e h
  obtain ⟨n20, h⟩ := gN_e h
  refine g_putF C tb_X7_init_0_ok R (i := 16) rfl ff_X7_21 ft_7_3 (Or.inl ⟨_, rfl⟩) rfl n20 k19 ?_
  refine g_nmy (fun y21 ey21 => ?_)
  have h := lt_e ey21 h
  have hz : HZ g x _ y21 := by rw [ey21]; exact hz
  cases h
  exact g_vretI C R hz rfl (by have h8 : x.2.2.2.2.1.heap.size + 0 = bs g + y.2.2 := hz0; have h9 : x.2.2.2.2.1.heap.size + _ = bs g + _ := hz; omega) rfl tb_X7_init_0_ok (i := 17) rfl
def f_X3_init (y : Lay) (a0 : Nat) (M : Mem) : Option (Lay × Mem) := some (y, M)
theorem w_X3_init {g : GX} {l : Launch} (hG : GF g l) (y : Lay) (a0 : Nat) (M : Mem) : CIt g l yX3_init cX3_init 1 0 0 0 y [.ref a0] M (f_X3_init y a0 M) := by
  refine CI_of hG (by decide) rfl [some (.ref a0)] rfl rfl (fun out h x Q C R hz => ?_)
  have hz0 := hz
  unfold f_X3_init at h
  refine g_aload_n C tb_X3_init_0_ok (i := 0) rfl rfl ?_
  refine g_objI C tb_X3_init_0_ok (i := 1) rfl oi_X3_1 obj_w rfl ?_
  cases h
  exact g_vretI C R hz rfl (by have h8 : x.2.2.2.2.1.heap.size + 0 = bs g + y.2.2 := hz0; have h9 : x.2.2.2.2.1.heap.size + _ = bs g + _ := hz; omega) rfl tb_X3_init_0_ok (i := 2) rfl
def f_X11_init (y : Lay) (a0 : Nat) (M : Mem) : Option (Lay × Mem) := gd (y.2.2 + 2 ≤ 1000) (lt (psh y (0, 9)) fun (y2 : Lay) => lt (zM M (y.2.2 + 1)) fun (M3 : Mem) => ci (f_X9_init y2 (y.2.2 + 1) M3) fun (y4 : Lay) (M5 : Mem) => gK y4 a0 (0, 11) (gN (y.2.2 + 1) (lt (wF y4 a0 0 (y.2.2 + 1)) fun (y8 : Lay) => gd (y8.2.2 + 2 ≤ 1000) (lt (psh y8 (0, 1)) fun (y10 : Lay) => lt (zM M5 (y8.2.2 + 1)) fun (M11 : Mem) => ci (f_X1_init y10 (y8.2.2 + 1) M11) fun (y12 : Lay) (M13 : Mem) => gK y12 a0 (0, 11) (gN (y8.2.2 + 1) (lt (wF y12 a0 1 (y8.2.2 + 1)) fun (y16 : Lay) => gd (y16.2.2 + 2 ≤ 1000) (lt (psh y16 (0, 2)) fun (y18 : Lay) => lt (zM M13 (y16.2.2 + 1)) fun (M19 : Mem) => gK y18 a0 (0, 11) (gN (y18.2.1 a0 0) (ci (f_X2_init y18 (y16.2.2 + 1) (y18.2.1 a0 0) M19) fun (y22 : Lay) (M23 : Mem) => gK y22 a0 (0, 11) (gN (y16.2.2 + 1) (lt (wF y22 a0 2 (y16.2.2 + 1)) fun (y26 : Lay) => gd (y26.2.2 + 2 ≤ 1000) (lt (psh y26 (0, 4)) fun (y28 : Lay) => lt (zM M23 (y26.2.2 + 1)) fun (M29 : Mem) => gK y28 a0 (0, 11) (gN (y28.2.1 a0 1) (ci (f_X4_init y28 (y26.2.2 + 1) (y28.2.1 a0 1) M29) fun (y32 : Lay) (M33 : Mem) => gK y32 a0 (0, 11) (gN (y26.2.2 + 1) (lt (wF y32 a0 3 (y26.2.2 + 1)) fun (y36 : Lay) => gd (y36.2.2 + 2 ≤ 1000) (lt (psh y36 (0, 4)) fun (y38 : Lay) => lt (zM M33 (y36.2.2 + 1)) fun (M39 : Mem) => gK y38 a0 (0, 11) (gN (y38.2.1 a0 1) (ci (f_X4_init y38 (y36.2.2 + 1) (y38.2.1 a0 1) M39) fun (y42 : Lay) (M43 : Mem) => gK y42 a0 (0, 11) (gN (y36.2.2 + 1) (lt (wF y42 a0 4 (y36.2.2 + 1)) fun (y46 : Lay) => gd (y46.2.2 + 2 ≤ 1000) (lt (psh y46 (0, 8)) fun (y48 : Lay) => lt (zM M43 (y46.2.2 + 1)) fun (M49 : Mem) => gK y48 a0 (0, 11) (gN (y48.2.1 a0 1) (ci (f_X8_init y48 (y46.2.2 + 1) (y48.2.1 a0 1) M49) fun (y52 : Lay) (M53 : Mem) => gK y52 a0 (0, 11) (gN (y46.2.2 + 1) (lt (wF y52 a0 5 (y46.2.2 + 1)) fun (y56 : Lay) => gd (y56.2.2 + 2 ≤ 1000) (lt (psh y56 (0, 7)) fun (y58 : Lay) => lt (zM M53 (y56.2.2 + 1)) fun (M59 : Mem) => gK y58 a0 (0, 11) (gN (y58.2.1 a0 3) (gK y58 (y58.2.1 a0 3) (0, 4) (gN (y58.2.1 (y58.2.1 a0 3) 0) (ci (f_X7_init y58 (y56.2.2 + 1) (y58.2.1 (y58.2.1 a0 3) 0) M59) fun (y64 : Lay) (M65 : Mem) => gK y64 a0 (0, 11) (gN (y56.2.2 + 1) (lt (wF y64 a0 6 (y56.2.2 + 1)) fun (y68 : Lay) => gd (y68.2.2 + 2 ≤ 1000) (lt (psh y68 (0, 3)) fun (y70 : Lay) => lt (zM M65 (y68.2.2 + 1)) fun (M71 : Mem) => ci (f_X3_init y70 (y68.2.2 + 1) M71) fun (y72 : Lay) (M73 : Mem) => gK y72 a0 (0, 11) (gN (y68.2.2 + 1) (lt (wF y72 a0 7 (y68.2.2 + 1)) fun (y76 : Lay) => gd (y76.2.2 + 2 ≤ 1000) (lt (psh y76 (3, 30)) fun (y78 : Lay) => lt (zM M73 (y76.2.2 + 1)) fun (M79 : Mem) => gK y78 a0 (0, 11) (gN (y76.2.2 + 1) (lt (wF y78 a0 8 (y76.2.2 + 1)) fun (y82 : Lay) => gd (y82.2.2 + 2 ≤ 1000) (lt (psh y82 (3, 30)) fun (y84 : Lay) => lt (zM M79 (y82.2.2 + 1)) fun (M85 : Mem) => gK y84 a0 (0, 11) (gN (y82.2.2 + 1) (lt (wF y84 a0 9 (y82.2.2 + 1)) fun (y88 : Lay) => gd (y88.2.2 + 2 ≤ 1000) (lt (psh y88 (1, 8)) fun (y90 : Lay) => lt (zM M85 (y88.2.2 + 1)) fun (M91 : Mem) => gK y90 a0 (0, 11) (gN (y88.2.2 + 1) (lt (wF y90 a0 10 (y88.2.2 + 1)) fun (y94 : Lay) => gK y94 a0 (0, 11) (lt (wI M91 a0 12 ((-1) : Int32)) fun (M96 : Mem) => some (y94, M96)))))))))))))))))))))))))))))))))))))))))))))))
theorem w_X11_init {g : GX} {l : Launch} (hG : GF g l) (y : Lay) (a0 : Nat) (M : Mem) : CIt g l yX11_init cX11_init 1 6 71 7699 y [.ref a0] M (f_X11_init y a0 M) := by
  refine CI_of hG (by decide) rfl [some (.ref a0)] rfl rfl (fun out h x Q C R hz => ?_)
  have hz0 := hz
  unfold f_X11_init at h
  refine g_aload_n C tb_X11_init_0_ok (i := 0) rfl rfl ?_
  refine g_objI C tb_X11_init_0_ok (i := 1) rfl oi_X11_1 obj_w rfl ?_
  refine g_aload_n C tb_X11_init_0_ok (i := 2) rfl rfl ?_
  obtain ⟨g1, h⟩ := gd_e h
  refine g_new C tb_X11_init_0_ok (i := 3) hz rfl cls_9 cnw_9 ck_X11_7 ins_9 ini_9 (Or.inr g1) rfl rfl (fun hz => ?_)
  refine g_nm (fun y2 ey2 M3 eM3 => ?_)
  have h := lt_e eM3 (lt_e ey2 h)
  rw [← ey2] at hz
  refine g_dup C tb_X11_init_0_ok (i := 4) rfl rfl ?_
  obtain ⟨y4, M5, ey4, h⟩ := ci_e h
  refine g_callI C tb_X11_init_0_ok (i := 5) [] hz rfl mw_X9_init mi_X9_init mli_X11_9 rfl rfl rfl rfl (w_X9_init C.G y2 (y.2.2 + 1) M3) ey4 rfl rfl rfl (fun hz => ?_)
  obtain ⟨k6, h⟩ := gK_e h
  obtain ⟨n7, h⟩ := gN_e h
  refine g_putF C tb_X11_init_0_ok R (i := 6) rfl ff_X11_10 ft_11_0 (Or.inl ⟨_, rfl⟩) rfl n7 k6 ?_
  refine g_nmy (fun y8 ey8 => ?_)
  have h := lt_e ey8 h
  have hz : HZ g x _ y8 := by rw [ey8]; exact hz
  refine g_aload_n C tb_X11_init_0_ok (i := 7) rfl rfl ?_
  obtain ⟨g9, h⟩ := gd_e h
  refine g_new C tb_X11_init_0_ok (i := 8) hz rfl cls_1 cnw_1 ck_X11_16 ins_1 ini_1 (Or.inr g9) rfl rfl (fun hz => ?_)
  refine g_nm (fun y10 ey10 M11 eM11 => ?_)
  have h := lt_e eM11 (lt_e ey10 h)
  rw [← ey10] at hz
  refine g_dup C tb_X11_init_0_ok (i := 9) rfl rfl ?_
  obtain ⟨y12, M13, ey12, h⟩ := ci_e h
  refine g_callI C tb_X11_init_0_ok (i := 10) [] hz rfl mw_X1_init mi_X1_init mli_X11_18 rfl rfl rfl rfl (w_X1_init C.G y10 (y8.2.2 + 1) M11) ey12 rfl rfl rfl (fun hz => ?_)
  obtain ⟨k14, h⟩ := gK_e h
  obtain ⟨n15, h⟩ := gN_e h
  refine g_putF C tb_X11_init_0_ok R (i := 11) rfl ff_X11_19 ft_11_1 (Or.inl ⟨_, rfl⟩) rfl n15 k14 ?_
  refine g_nmy (fun y16 ey16 => ?_)
  have h := lt_e ey16 h
  have hz : HZ g x _ y16 := by rw [ey16]; exact hz
  refine g_aload_n C tb_X11_init_0_ok (i := 12) rfl rfl ?_
  obtain ⟨g17, h⟩ := gd_e h
  refine g_new C tb_X11_init_0_ok (i := 13) hz rfl cls_2 cnw_2 ck_X11_23 ins_2 ini_2 (Or.inr g17) rfl rfl (fun hz => ?_)
  refine g_nm (fun y18 ey18 M19 eM19 => ?_)
  have h := lt_e eM19 (lt_e ey18 h)
  rw [← ey18] at hz
  refine g_dup C tb_X11_init_0_ok (i := 14) rfl rfl ?_
  refine g_aload_n C tb_X11_init_0_ok (i := 15) rfl rfl ?_
  obtain ⟨k20, h⟩ := gK_e h
  obtain ⟨n21, h⟩ := gN_e h
  refine g_getR C tb_X11_init_0_ok (i := 16) rfl fl_X11_10 rfl k20 n21 ?_
  obtain ⟨y22, M23, ey22, h⟩ := ci_e h
  refine g_callI C tb_X11_init_0_ok (i := 17) [.ref (y18.2.1 a0 0)] hz rfl mw_X2_init mi_X2_init mli_X11_25 rfl rfl rfl rfl (w_X2_init C.G y18 (y16.2.2 + 1) (y18.2.1 a0 0) M19) ey22 rfl rfl rfl (fun hz => ?_)
  obtain ⟨k24, h⟩ := gK_e h
  obtain ⟨n25, h⟩ := gN_e h
  refine g_putF C tb_X11_init_0_ok R (i := 18) rfl ff_X11_28 ft_11_2 (Or.inl ⟨_, rfl⟩) rfl n25 k24 ?_
  refine g_nmy (fun y26 ey26 => ?_)
  have h := lt_e ey26 h
  have hz : HZ g x _ y26 := by rw [ey26]; exact hz
  refine g_aload_n C tb_X11_init_0_ok (i := 19) rfl rfl ?_
  obtain ⟨g27, h⟩ := gd_e h
  refine g_new C tb_X11_init_0_ok (i := 20) hz rfl cls_4 cnw_4 ck_X11_32 ins_4 ini_4 (Or.inr g27) rfl rfl (fun hz => ?_)
  refine g_nm (fun y28 ey28 M29 eM29 => ?_)
  have h := lt_e eM29 (lt_e ey28 h)
  rw [← ey28] at hz
  refine g_dup C tb_X11_init_0_ok (i := 21) rfl rfl ?_
  refine g_aload_n C tb_X11_init_0_ok (i := 22) rfl rfl ?_
  obtain ⟨k30, h⟩ := gK_e h
  obtain ⟨n31, h⟩ := gN_e h
  refine g_getR C tb_X11_init_0_ok (i := 23) rfl fl_X11_19 rfl k30 n31 ?_
  obtain ⟨y32, M33, ey32, h⟩ := ci_e h
  refine g_callI C tb_X11_init_0_ok (i := 24) [.ref (y28.2.1 a0 1)] hz rfl mw_X4_init mi_X4_init mli_X11_34 rfl rfl rfl rfl (w_X4_init C.G y28 (y26.2.2 + 1) (y28.2.1 a0 1) M29) ey32 rfl rfl rfl (fun hz => ?_)
  obtain ⟨k34, h⟩ := gK_e h
  obtain ⟨n35, h⟩ := gN_e h
  refine g_putF C tb_X11_init_0_ok R (i := 25) rfl ff_X11_37 ft_11_3 (Or.inl ⟨_, rfl⟩) rfl n35 k34 ?_
  refine g_nmy (fun y36 ey36 => ?_)
  have h := lt_e ey36 h
  have hz : HZ g x _ y36 := by rw [ey36]; exact hz
  refine g_aload_n C tb_X11_init_0_ok (i := 26) rfl rfl ?_
  obtain ⟨g37, h⟩ := gd_e h
  refine g_new C tb_X11_init_0_ok (i := 27) hz rfl cls_4 cnw_4 ck_X11_32 ins_4 ini_4 (Or.inr g37) rfl rfl (fun hz => ?_)
  refine g_nm (fun y38 ey38 M39 eM39 => ?_)
  have h := lt_e eM39 (lt_e ey38 h)
  rw [← ey38] at hz
  refine g_dup C tb_X11_init_0_ok (i := 28) rfl rfl ?_
  refine g_aload_n C tb_X11_init_0_ok (i := 29) rfl rfl ?_
  obtain ⟨k40, h⟩ := gK_e h
  obtain ⟨n41, h⟩ := gN_e h
  refine g_getR C tb_X11_init_0_ok (i := 30) rfl fl_X11_19 rfl k40 n41 ?_
  obtain ⟨y42, M43, ey42, h⟩ := ci_e h
  refine g_callI C tb_X11_init_0_ok (i := 31) [.ref (y38.2.1 a0 1)] hz rfl mw_X4_init mi_X4_init mli_X11_34 rfl rfl rfl rfl (w_X4_init C.G y38 (y36.2.2 + 1) (y38.2.1 a0 1) M39) ey42 rfl rfl rfl (fun hz => ?_)
  obtain ⟨k44, h⟩ := gK_e h
  obtain ⟨n45, h⟩ := gN_e h
  refine g_putF C tb_X11_init_0_ok R (i := 32) rfl ff_X11_41 ft_11_4 (Or.inl ⟨_, rfl⟩) rfl n45 k44 ?_
  refine g_nmy (fun y46 ey46 => ?_)
  have h := lt_e ey46 h
  have hz : HZ g x _ y46 := by rw [ey46]; exact hz
  refine g_aload_n C tb_X11_init_0_ok (i := 33) rfl rfl ?_
  obtain ⟨g47, h⟩ := gd_e h
  refine g_new C tb_X11_init_0_ok (i := 34) hz rfl cls_8 cnw_8 ck_X11_44 ins_8 ini_8 (Or.inr g47) rfl rfl (fun hz => ?_)
  refine g_nm (fun y48 ey48 M49 eM49 => ?_)
  have h := lt_e eM49 (lt_e ey48 h)
  rw [← ey48] at hz
  refine g_dup C tb_X11_init_0_ok (i := 35) rfl rfl ?_
  refine g_aload_n C tb_X11_init_0_ok (i := 36) rfl rfl ?_
  obtain ⟨k50, h⟩ := gK_e h
  obtain ⟨n51, h⟩ := gN_e h
  refine g_getR C tb_X11_init_0_ok (i := 37) rfl fl_X11_19 rfl k50 n51 ?_
  obtain ⟨y52, M53, ey52, h⟩ := ci_e h
  refine g_callI C tb_X11_init_0_ok (i := 38) [.ref (y48.2.1 a0 1)] hz rfl mw_X8_init mi_X8_init mli_X11_46 rfl rfl rfl rfl (w_X8_init C.G y48 (y46.2.2 + 1) (y48.2.1 a0 1) M49) ey52 rfl rfl rfl (fun hz => ?_)
  obtain ⟨k54, h⟩ := gK_e h
  obtain ⟨n55, h⟩ := gN_e h
  refine g_putF C tb_X11_init_0_ok R (i := 39) rfl ff_X11_47 ft_11_5 (Or.inl ⟨_, rfl⟩) rfl n55 k54 ?_
  refine g_nmy (fun y56 ey56 => ?_)
  have h := lt_e ey56 h
  have hz : HZ g x _ y56 := by rw [ey56]; exact hz
  refine g_aload_n C tb_X11_init_1_ok (i := 0) rfl rfl ?_
  obtain ⟨g57, h⟩ := gd_e h
  refine g_new C tb_X11_init_1_ok (i := 1) hz rfl cls_7 cnw_7 ck_X11_51 ins_7 ini_7 (Or.inr g57) rfl rfl (fun hz => ?_)
  refine g_nm (fun y58 ey58 M59 eM59 => ?_)
  have h := lt_e eM59 (lt_e ey58 h)
  rw [← ey58] at hz
  refine g_dup C tb_X11_init_1_ok (i := 2) rfl rfl ?_
  refine g_aload_n C tb_X11_init_1_ok (i := 3) rfl rfl ?_
  obtain ⟨k60, h⟩ := gK_e h
  obtain ⟨n61, h⟩ := gN_e h
  refine g_getR C tb_X11_init_1_ok (i := 4) rfl fl_X11_37 rfl k60 n61 ?_
  obtain ⟨k62, h⟩ := gK_e h
  obtain ⟨n63, h⟩ := gN_e h
  refine g_getR C tb_X11_init_1_ok (i := 5) rfl fl_X11_53 rfl k62 n63 ?_
  obtain ⟨y64, M65, ey64, h⟩ := ci_e h
  refine g_callI C tb_X11_init_1_ok (i := 6) [.ref (y58.2.1 (y58.2.1 a0 3) 0)] hz rfl mw_X7_init mi_X7_init mli_X11_56 rfl rfl rfl rfl (w_X7_init C.G y58 (y56.2.2 + 1) (y58.2.1 (y58.2.1 a0 3) 0) M59) ey64 rfl rfl rfl (fun hz => ?_)
  obtain ⟨k66, h⟩ := gK_e h
  obtain ⟨n67, h⟩ := gN_e h
  refine g_putF C tb_X11_init_1_ok R (i := 7) rfl ff_X11_59 ft_11_6 (Or.inl ⟨_, rfl⟩) rfl n67 k66 ?_
  refine g_nmy (fun y68 ey68 => ?_)
  have h := lt_e ey68 h
  have hz : HZ g x _ y68 := by rw [ey68]; exact hz
  refine g_aload_n C tb_X11_init_1_ok (i := 8) rfl rfl ?_
  obtain ⟨g69, h⟩ := gd_e h
  refine g_new C tb_X11_init_1_ok (i := 9) hz rfl cls_3 cnw_3 ck_X11_63 ins_3 ini_3 (Or.inr g69) rfl rfl (fun hz => ?_)
  refine g_nm (fun y70 ey70 M71 eM71 => ?_)
  have h := lt_e eM71 (lt_e ey70 h)
  rw [← ey70] at hz
  refine g_dup C tb_X11_init_1_ok (i := 10) rfl rfl ?_
  obtain ⟨y72, M73, ey72, h⟩ := ci_e h
  refine g_callI C tb_X11_init_1_ok (i := 11) [] hz rfl mw_X3_init mi_X3_init mli_X11_65 rfl rfl rfl rfl (w_X3_init C.G y70 (y68.2.2 + 1) M71) ey72 rfl rfl rfl (fun hz => ?_)
  obtain ⟨k74, h⟩ := gK_e h
  obtain ⟨n75, h⟩ := gN_e h
  refine g_putF C tb_X11_init_1_ok R (i := 12) rfl ff_X11_66 ft_11_7 (Or.inl ⟨_, rfl⟩) rfl n75 k74 ?_
  refine g_nmy (fun y76 ey76 => ?_)
  have h := lt_e ey76 h
  have hz : HZ g x _ y76 := by rw [ey76]; exact hz
  refine g_aload_n C tb_X11_init_1_ok (i := 13) rfl rfl ?_
  refine g_bipushv C tb_X11_init_1_ok (i := 14) 30 rfl k_bipushv_30 ?_
  obtain ⟨g77, h⟩ := gd_e h
  refine g_newaL C tb_X11_init_1_ok (i := 15) (N := 30) hz rfl acl_long (by decide) (by decide) rfl g77 rfl rfl (fun hz => ?_)
  refine g_nm (fun y78 ey78 M79 eM79 => ?_)
  have h := lt_e eM79 (lt_e ey78 h)
  rw [← ey78] at hz
  obtain ⟨k80, h⟩ := gK_e h
  obtain ⟨n81, h⟩ := gN_e h
  refine g_putF C tb_X11_init_1_ok R (i := 16) rfl ff_X11_70 ft_11_8 (Or.inr ⟨_, rfl⟩) rfl n81 k80 ?_
  refine g_nmy (fun y82 ey82 => ?_)
  have h := lt_e ey82 h
  have hz : HZ g x _ y82 := by rw [ey82]; exact hz
  refine g_aload_n C tb_X11_init_1_ok (i := 17) rfl rfl ?_
  refine g_bipushv C tb_X11_init_1_ok (i := 18) 30 rfl k_bipushv_30 ?_
  obtain ⟨g83, h⟩ := gd_e h
  refine g_newaL C tb_X11_init_1_ok (i := 19) (N := 30) hz rfl acl_long (by decide) (by decide) rfl g83 rfl rfl (fun hz => ?_)
  refine g_nm (fun y84 ey84 M85 eM85 => ?_)
  have h := lt_e eM85 (lt_e ey84 h)
  rw [← ey84] at hz
  obtain ⟨k86, h⟩ := gK_e h
  obtain ⟨n87, h⟩ := gN_e h
  refine g_putF C tb_X11_init_1_ok R (i := 20) rfl ff_X11_74 ft_11_9 (Or.inr ⟨_, rfl⟩) rfl n87 k86 ?_
  refine g_nmy (fun y88 ey88 => ?_)
  have h := lt_e ey88 h
  have hz : HZ g x _ y88 := by rw [ey88]; exact hz
  refine g_aload_n C tb_X11_init_1_ok (i := 21) rfl rfl ?_
  refine g_bipushv C tb_X11_init_1_ok (i := 22) 8 rfl k_bipushv_8 ?_
  obtain ⟨g89, h⟩ := gd_e h
  refine g_newaI C tb_X11_init_1_ok (i := 23) (N := 8) hz rfl acl_int (by decide) (by decide) rfl g89 rfl rfl (fun hz => ?_)
  refine g_nm (fun y90 ey90 M91 eM91 => ?_)
  have h := lt_e eM91 (lt_e ey90 h)
  rw [← ey90] at hz
  obtain ⟨k92, h⟩ := gK_e h
  obtain ⟨n93, h⟩ := gN_e h
  refine g_putF C tb_X11_init_1_ok R (i := 24) rfl ff_X11_77 ft_11_10 (Or.inr ⟨_, rfl⟩) rfl n93 k92 ?_
  refine g_nmy (fun y94 ey94 => ?_)
  have h := lt_e ey94 h
  have hz : HZ g x _ y94 := by rw [ey94]; exact hz
  refine g_aload_n C tb_X11_init_1_ok (i := 25) rfl rfl ?_
  refine g_iconstv C tb_X11_init_1_ok (i := 26) (-1) rfl k_iconstv_m1 ?_
  obtain ⟨k95, h⟩ := gK_e h
  refine g_putI C tb_X11_init_1_ok (i := 27) rfl fl_X11_81 ft_11_12 rfl k95 ?_
  refine g_mem (fun M96 eM96 => ?_)
  have h := lt_e eM96 h
  cases h
  exact g_vretI C R hz rfl (by have h8 : x.2.2.2.2.1.heap.size + 0 = bs g + y.2.2 := hz0; have h9 : x.2.2.2.2.1.heap.size + _ = bs g + _ := hz; omega) rfl tb_X11_init_1_ok (i := 28) rfl
def f_X8_isResting (y : Lay) (a0 : Nat) (a1 : Int32) (M : Mem) : Option Int32 := gK y a0 (0, 8) (jn (fun (v2 : Int32) => gd (v2 = 0 ∨ v2 = 1) (some v2)) fun j3 => br ((((M.1 a0 8) >>> (a1 &&& 31)) &&& (1 : Int32)) = 0) (j3 (0 : Int32)) (j3 (1 : Int32)))
theorem w_X8_isResting {g : GX} {l : Launch} (hG : GF g l) (y : Lay) (a0 : Nat) (a1 : Int32) (M : Mem) : C0 g l yX8_isResting cX8_isResting 2 (some .boolean) 0 y [.ref a0, .int a1] M (pm M (f_X8_isResting y a0 a1 M)) := by
  refine CP_of hG (by decide) [some (.ref a0), some (.int a1)] rfl rfl (fun out h x Q C R => ?_)
  unfold f_X8_isResting at h
  refine g_aload_n C tb_X8_isResting_0_ok (i := 0) rfl rfl ?_
  obtain ⟨k1, h⟩ := gK_e h
  refine g_getI C tb_X8_isResting_0_ok (i := 1) rfl fl_X8_43 rfl k1 ?_
  refine g_iload_n C tb_X8_isResting_0_ok (i := 2) rfl rfl ?_
  refine g_ishr C tb_X8_isResting_0_ok (i := 3) rfl ?_
  refine g_iconstv C tb_X8_isResting_0_ok (i := 4) 1 rfl k_iconstv_1 ?_
  refine g_iand C tb_X8_isResting_0_ok (i := 5) rfl ?_
  obtain ⟨j3, ej3, h⟩ := jn_e h
  have J16 : ∀ (v2 : Int32), j3 v2 = some out → GG g x 2 Q 0 0 y M 16 [none, none] [.int v2] := by
    intro v2 h; subst ej3
    obtain ⟨hz, h⟩ := gd_e h
    cases h
    exact g_zret0 C R hz tb_X8_isResting_0_ok (i := 10) rfl
  obtain ⟨t4, f5⟩ := br_e h
  refine g_if_eq C tb_X8_isResting_0_ok (i := 6) 15 rfl rfl (fun c => ?_) (fun c => ?_)
  · have h := t4 c
    refine g_iconstv C tb_X8_isResting_0_ok (i := 9) 0 rfl k_iconstv_0 ?_
    exact g_less (L' := [none, none]) trivial (J16 (0 : Int32) h)
  · have h := f5 c
    refine g_iconstv C tb_X8_isResting_0_ok (i := 7) 1 rfl k_iconstv_1 ?_
    refine g_goto C tb_X8_isResting_0_ok (i := 8) 16 rfl rfl ?_
    exact g_less (L' := [none, none]) trivial (J16 (1 : Int32) h)
def f_X5_isTold (y : Lay) (a0 : Nat) (M : Mem) : Option Int32 := gK y a0 (0, 5) (jn (fun (v2 : Int32) => gd (v2 = 0 ∨ v2 = 1) (some v2)) fun j3 => br ((M.1 a0 2) ≤ 0) (j3 (0 : Int32)) (j3 (1 : Int32)))
theorem w_X5_isTold {g : GX} {l : Launch} (hG : GF g l) (y : Lay) (a0 : Nat) (M : Mem) : C0 g l yX5_isTold cX5_isTold 1 (some .boolean) 0 y [.ref a0] M (pm M (f_X5_isTold y a0 M)) := by
  refine CP_of hG (by decide) [some (.ref a0)] rfl rfl (fun out h x Q C R => ?_)
  unfold f_X5_isTold at h
  refine g_aload_n C tb_X5_isTold_0_ok (i := 0) rfl rfl ?_
  obtain ⟨k1, h⟩ := gK_e h
  refine g_getI C tb_X5_isTold_0_ok (i := 1) rfl fl_X5_18 rfl k1 ?_
  obtain ⟨j3, ej3, h⟩ := jn_e h
  have J12 : ∀ (v2 : Int32), j3 v2 = some out → GG g x 1 Q 0 0 y M 12 [none] [.int v2] := by
    intro v2 h; subst ej3
    obtain ⟨hz, h⟩ := gd_e h
    cases h
    exact g_zret0 C R hz tb_X5_isTold_0_ok (i := 6) rfl
  obtain ⟨t4, f5⟩ := br_e h
  refine g_if_le C tb_X5_isTold_0_ok (i := 2) 11 rfl rfl (fun c => ?_) (fun c => ?_)
  · have h := t4 c
    refine g_iconstv C tb_X5_isTold_0_ok (i := 5) 0 rfl k_iconstv_0 ?_
    exact g_less (L' := [none]) trivial (J12 (0 : Int32) h)
  · have h := f5 c
    refine g_iconstv C tb_X5_isTold_0_ok (i := 3) 1 rfl k_iconstv_1 ?_
    refine g_goto C tb_X5_isTold_0_ok (i := 4) 12 rfl rfl ?_
    exact g_less (L' := [none]) trivial (J12 (1 : Int32) h)
def f_X8_skillOf (y : Lay) (a0 : Nat) (a1 : Int32) (M : Mem) : Option Int32 := jn (fun (v1 : Int32) => some v1) fun j2 => jn (fun (_u : Unit) => j2 (0 : Int32)) fun j3 => br (a1 < 0) (j3 ()) (br ((6 : Int32) ≤ a1) (j3 ()) (gK y a0 (0, 8) (gN (y.2.1 a0 5) (gA y (y.2.1 a0 5) 1 a1 (j2 (M.1 (y.2.1 a0 5) a1.toNatClampNeg))))))
theorem w_X8_skillOf {g : GX} {l : Launch} (hG : GF g l) (y : Lay) (a0 : Nat) (a1 : Int32) (M : Mem) : C0 g l yX8_skillOf cX8_skillOf 2 (some .int) 0 y [.ref a0, .int a1] M (pm M (f_X8_skillOf y a0 a1 M)) := by
  refine CP_of hG (by decide) [some (.ref a0), some (.int a1)] rfl rfl (fun out h x Q C R => ?_)
  unfold f_X8_skillOf at h
  refine g_iload_n C tb_X8_skillOf_0_ok (i := 0) rfl rfl ?_
  obtain ⟨j2, ej2, h⟩ := jn_e h
  have J20 : ∀ (v1 : Int32), j2 v1 = some out → GG g x 2 Q 0 0 y M 20 [none, none] [.int v1] := by
    intro v1 h; subst ej2
    cases h
    exact g_iret0 C R tb_X8_skillOf_0_ok (i := 11) rfl
  obtain ⟨j3, ej3, h⟩ := jn_e h
  have J19 : ∀ (_u : Unit), j3 _u = some out → GG g x 2 Q 0 0 y M 19 [none, none] [] := by
    intro _u h; subst ej3
    refine g_iconstv C tb_X8_skillOf_0_ok (i := 10) 0 rfl k_iconstv_0 ?_
    exact g_less (L' := [none, none]) trivial (J20 (0 : Int32) h)
  obtain ⟨t4, f5⟩ := br_e h
  refine g_if_lt C tb_X8_skillOf_0_ok (i := 1) 19 rfl rfl (fun c => ?_) (fun c => ?_)
  · have h := t4 c
    exact g_less (L' := [none, none]) trivial (J19 () h)
  · have h := f5 c
    refine g_iload_n C tb_X8_skillOf_0_ok (i := 2) rfl rfl ?_
    refine g_bipushv C tb_X8_skillOf_0_ok (i := 3) 6 rfl k_bipushv_6 ?_
    obtain ⟨t6, f7⟩ := br_e h
    refine g_icmp_ge C tb_X8_skillOf_0_ok (i := 4) 19 rfl rfl (fun c => ?_) (fun c => ?_)
    · have h := t6 c
      exact g_less (L' := [none, none]) trivial (J19 () h)
    · have h := f7 c
      refine g_aload_n C tb_X8_skillOf_0_ok (i := 5) rfl rfl ?_
      obtain ⟨k8, h⟩ := gK_e h
      obtain ⟨n9, h⟩ := gN_e h
      refine g_getR C tb_X8_skillOf_0_ok (i := 6) rfl fl_X8_24 rfl k8 n9 ?_
      refine g_iload_n C tb_X8_skillOf_0_ok (i := 7) rfl rfl ?_
      obtain ⟨b10, h⟩ := gA_e h
      refine g_iald C tb_X8_skillOf_0_ok (i := 8) rfl b10 ?_
      refine g_goto C tb_X8_skillOf_0_ok (i := 9) 20 rfl rfl ?_
      exact g_less (L' := [none, none]) trivial (J20 (M.1 (y.2.1 a0 5) a1.toNatClampNeg) h)
def f_X8_spotOf (y : Lay) (a0 : Nat) (a1 : Int32) (M : Mem) : Option Int32 := jn (fun (v1 : Int32) => some v1) fun j2 => jn (fun (_u : Unit) => j2 (0 : Int32)) fun j3 => br (a1 < 0) (j3 ()) (br ((6 : Int32) ≤ a1) (j3 ()) (gK y a0 (0, 8) (gN (y.2.1 a0 4) (gA y (y.2.1 a0 4) 1 a1 (j2 (M.1 (y.2.1 a0 4) a1.toNatClampNeg))))))
theorem w_X8_spotOf {g : GX} {l : Launch} (hG : GF g l) (y : Lay) (a0 : Nat) (a1 : Int32) (M : Mem) : C0 g l yX8_spotOf cX8_spotOf 2 (some .int) 0 y [.ref a0, .int a1] M (pm M (f_X8_spotOf y a0 a1 M)) := by
  refine CP_of hG (by decide) [some (.ref a0), some (.int a1)] rfl rfl (fun out h x Q C R => ?_)
  unfold f_X8_spotOf at h
  refine g_iload_n C tb_X8_spotOf_0_ok (i := 0) rfl rfl ?_
  obtain ⟨j2, ej2, h⟩ := jn_e h
  have J20 : ∀ (v1 : Int32), j2 v1 = some out → GG g x 2 Q 0 0 y M 20 [none, none] [.int v1] := by
    intro v1 h; subst ej2
    cases h
    exact g_iret0 C R tb_X8_spotOf_0_ok (i := 11) rfl
  obtain ⟨j3, ej3, h⟩ := jn_e h
  have J19 : ∀ (_u : Unit), j3 _u = some out → GG g x 2 Q 0 0 y M 19 [none, none] [] := by
    intro _u h; subst ej3
    refine g_iconstv C tb_X8_spotOf_0_ok (i := 10) 0 rfl k_iconstv_0 ?_
    exact g_less (L' := [none, none]) trivial (J20 (0 : Int32) h)
  obtain ⟨t4, f5⟩ := br_e h
  refine g_if_lt C tb_X8_spotOf_0_ok (i := 1) 19 rfl rfl (fun c => ?_) (fun c => ?_)
  · have h := t4 c
    exact g_less (L' := [none, none]) trivial (J19 () h)
  · have h := f5 c
    refine g_iload_n C tb_X8_spotOf_0_ok (i := 2) rfl rfl ?_
    refine g_bipushv C tb_X8_spotOf_0_ok (i := 3) 6 rfl k_bipushv_6 ?_
    obtain ⟨t6, f7⟩ := br_e h
    refine g_icmp_ge C tb_X8_spotOf_0_ok (i := 4) 19 rfl rfl (fun c => ?_) (fun c => ?_)
    · have h := t6 c
      exact g_less (L' := [none, none]) trivial (J19 () h)
    · have h := f7 c
      refine g_aload_n C tb_X8_spotOf_0_ok (i := 5) rfl rfl ?_
      obtain ⟨k8, h⟩ := gK_e h
      obtain ⟨n9, h⟩ := gN_e h
      refine g_getR C tb_X8_spotOf_0_ok (i := 6) rfl fl_X8_21 rfl k8 n9 ?_
      refine g_iload_n C tb_X8_spotOf_0_ok (i := 7) rfl rfl ?_
      obtain ⟨b10, h⟩ := gA_e h
      refine g_iald C tb_X8_spotOf_0_ok (i := 8) rfl b10 ?_
      refine g_goto C tb_X8_spotOf_0_ok (i := 9) 20 rfl rfl ?_
      exact g_less (L' := [none, none]) trivial (J20 (M.1 (y.2.1 a0 4) a1.toNatClampNeg) h)
def f_X1_besideBits (y : Lay) (a0 : Nat) (a1 : Int32) (M : Mem) : Option Int32 := jn (fun (v1 : Int32) => some v1) fun j2 => jn (fun (_u : Unit) => j2 (0 : Int32)) fun j3 => br (a1 < 0) (j3 ()) (br ((30 : Int32) ≤ a1) (j3 ()) (gK y a0 (0, 1) (gN (y.2.1 a0 6) (gA y (y.2.1 a0 6) 1 a1 (j2 (M.1 (y.2.1 a0 6) a1.toNatClampNeg))))))
theorem w_X1_besideBits {g : GX} {l : Launch} (hG : GF g l) (y : Lay) (a0 : Nat) (a1 : Int32) (M : Mem) : C0 g l yX1_besideBits cX1_besideBits 2 (some .int) 0 y [.ref a0, .int a1] M (pm M (f_X1_besideBits y a0 a1 M)) := by
  refine CP_of hG (by decide) [some (.ref a0), some (.int a1)] rfl rfl (fun out h x Q C R => ?_)
  unfold f_X1_besideBits at h
  refine g_iload_n C tb_X1_besideBits_0_ok (i := 0) rfl rfl ?_
  obtain ⟨j2, ej2, h⟩ := jn_e h
  have J20 : ∀ (v1 : Int32), j2 v1 = some out → GG g x 2 Q 0 0 y M 20 [none, none] [.int v1] := by
    intro v1 h; subst ej2
    cases h
    exact g_iret0 C R tb_X1_besideBits_0_ok (i := 11) rfl
  obtain ⟨j3, ej3, h⟩ := jn_e h
  have J19 : ∀ (_u : Unit), j3 _u = some out → GG g x 2 Q 0 0 y M 19 [none, none] [] := by
    intro _u h; subst ej3
    refine g_iconstv C tb_X1_besideBits_0_ok (i := 10) 0 rfl k_iconstv_0 ?_
    exact g_less (L' := [none, none]) trivial (J20 (0 : Int32) h)
  obtain ⟨t4, f5⟩ := br_e h
  refine g_if_lt C tb_X1_besideBits_0_ok (i := 1) 19 rfl rfl (fun c => ?_) (fun c => ?_)
  · have h := t4 c
    exact g_less (L' := [none, none]) trivial (J19 () h)
  · have h := f5 c
    refine g_iload_n C tb_X1_besideBits_0_ok (i := 2) rfl rfl ?_
    refine g_bipushv C tb_X1_besideBits_0_ok (i := 3) 30 rfl k_bipushv_30 ?_
    obtain ⟨t6, f7⟩ := br_e h
    refine g_icmp_ge C tb_X1_besideBits_0_ok (i := 4) 19 rfl rfl (fun c => ?_) (fun c => ?_)
    · have h := t6 c
      exact g_less (L' := [none, none]) trivial (J19 () h)
    · have h := f7 c
      refine g_aload_n C tb_X1_besideBits_0_ok (i := 5) rfl rfl ?_
      obtain ⟨k8, h⟩ := gK_e h
      obtain ⟨n9, h⟩ := gN_e h
      refine g_getR C tb_X1_besideBits_0_ok (i := 6) rfl fl_X1_9 rfl k8 n9 ?_
      refine g_iload_n C tb_X1_besideBits_0_ok (i := 7) rfl rfl ?_
      obtain ⟨b10, h⟩ := gA_e h
      refine g_iald C tb_X1_besideBits_0_ok (i := 8) rfl b10 ?_
      refine g_goto C tb_X1_besideBits_0_ok (i := 9) 20 rfl rfl ?_
      exact g_less (L' := [none, none]) trivial (J20 (M.1 (y.2.1 a0 6) a1.toNatClampNeg) h)
def f_X8_blueOf (y : Lay) (a0 : Nat) (a1 : Int32) (M : Mem) : Option Int32 := jn (fun (v1 : Int32) => some v1) fun j2 => jn (fun (_u : Unit) => j2 (0 : Int32)) fun j3 => br (a1 < 0) (j3 ()) (br ((30 : Int32) ≤ a1) (j3 ()) (gK y a0 (0, 8) (gN (y.2.1 a0 1) (gA y (y.2.1 a0 1) 1 a1 (j2 (M.1 (y.2.1 a0 1) a1.toNatClampNeg))))))
theorem w_X8_blueOf {g : GX} {l : Launch} (hG : GF g l) (y : Lay) (a0 : Nat) (a1 : Int32) (M : Mem) : C0 g l yX8_blueOf cX8_blueOf 2 (some .int) 0 y [.ref a0, .int a1] M (pm M (f_X8_blueOf y a0 a1 M)) := by
  refine CP_of hG (by decide) [some (.ref a0), some (.int a1)] rfl rfl (fun out h x Q C R => ?_)
  unfold f_X8_blueOf at h
  refine g_iload_n C tb_X8_blueOf_0_ok (i := 0) rfl rfl ?_
  obtain ⟨j2, ej2, h⟩ := jn_e h
  have J20 : ∀ (v1 : Int32), j2 v1 = some out → GG g x 2 Q 0 0 y M 20 [none, none] [.int v1] := by
    intro v1 h; subst ej2
    cases h
    exact g_iret0 C R tb_X8_blueOf_0_ok (i := 11) rfl
  obtain ⟨j3, ej3, h⟩ := jn_e h
  have J19 : ∀ (_u : Unit), j3 _u = some out → GG g x 2 Q 0 0 y M 19 [none, none] [] := by
    intro _u h; subst ej3
    refine g_iconstv C tb_X8_blueOf_0_ok (i := 10) 0 rfl k_iconstv_0 ?_
    exact g_less (L' := [none, none]) trivial (J20 (0 : Int32) h)
  obtain ⟨t4, f5⟩ := br_e h
  refine g_if_lt C tb_X8_blueOf_0_ok (i := 1) 19 rfl rfl (fun c => ?_) (fun c => ?_)
  · have h := t4 c
    exact g_less (L' := [none, none]) trivial (J19 () h)
  · have h := f5 c
    refine g_iload_n C tb_X8_blueOf_0_ok (i := 2) rfl rfl ?_
    refine g_bipushv C tb_X8_blueOf_0_ok (i := 3) 30 rfl k_bipushv_30 ?_
    obtain ⟨t6, f7⟩ := br_e h
    refine g_icmp_ge C tb_X8_blueOf_0_ok (i := 4) 19 rfl rfl (fun c => ?_) (fun c => ?_)
    · have h := t6 c
      exact g_less (L' := [none, none]) trivial (J19 () h)
    · have h := f7 c
      refine g_aload_n C tb_X8_blueOf_0_ok (i := 5) rfl rfl ?_
      obtain ⟨k8, h⟩ := gK_e h
      obtain ⟨n9, h⟩ := gN_e h
      refine g_getR C tb_X8_blueOf_0_ok (i := 6) rfl fl_X8_9 rfl k8 n9 ?_
      refine g_iload_n C tb_X8_blueOf_0_ok (i := 7) rfl rfl ?_
      obtain ⟨b10, h⟩ := gA_e h
      refine g_iald C tb_X8_blueOf_0_ok (i := 8) rfl b10 ?_
      refine g_goto C tb_X8_blueOf_0_ok (i := 9) 20 rfl rfl ?_
      exact g_less (L' := [none, none]) trivial (J20 (M.1 (y.2.1 a0 1) a1.toNatClampNeg) h)
def f_X1_rowOf (y : Lay) (a0 : Nat) (a1 : Int32) (M : Mem) : Option Int32 := gK y a0 (0, 1) (jn (fun (v2 : Int32) => some v2) fun j3 => br ((M.1 a0 0) ≤ 0) (j3 (0 : Int32)) (gd (¬ (M.1 a0 0) = 0) (j3 (a1 / (M.1 a0 0)))))
theorem w_X1_rowOf {g : GX} {l : Launch} (hG : GF g l) (y : Lay) (a0 : Nat) (a1 : Int32) (M : Mem) : C0 g l yX1_rowOf cX1_rowOf 2 (some .int) 0 y [.ref a0, .int a1] M (pm M (f_X1_rowOf y a0 a1 M)) := by
  refine CP_of hG (by decide) [some (.ref a0), some (.int a1)] rfl rfl (fun out h x Q C R => ?_)
  unfold f_X1_rowOf at h
  refine g_aload_n C tb_X1_rowOf_0_ok (i := 0) rfl rfl ?_
  obtain ⟨k1, h⟩ := gK_e h
  refine g_getI C tb_X1_rowOf_0_ok (i := 1) rfl fl_X1_48 rfl k1 ?_
  obtain ⟨j3, ej3, h⟩ := jn_e h
  have J17 : ∀ (v2 : Int32), j3 v2 = some out → GG g x 2 Q 0 0 y M 17 [none, none] [.int v2] := by
    intro v2 h; subst ej3
    cases h
    exact g_iret0 C R tb_X1_rowOf_0_ok (i := 9) rfl
  obtain ⟨t4, f5⟩ := br_e h
  refine g_if_le C tb_X1_rowOf_0_ok (i := 2) 16 rfl rfl (fun c => ?_) (fun c => ?_)
  · have h := t4 c
    refine g_iconstv C tb_X1_rowOf_0_ok (i := 8) 0 rfl k_iconstv_0 ?_
    exact g_less (L' := [none, none]) trivial (J17 (0 : Int32) h)
  · have h := f5 c
    refine g_iload_n C tb_X1_rowOf_0_ok (i := 3) rfl rfl ?_
    refine g_aload_n C tb_X1_rowOf_0_ok (i := 4) rfl rfl ?_
    refine g_getI C tb_X1_rowOf_0_ok (i := 5) rfl fl_X1_48 rfl k1 ?_
    obtain ⟨n6, h⟩ := gd_e h
    refine g_idiv C tb_X1_rowOf_0_ok (i := 6) rfl n6 ?_
    refine g_goto C tb_X1_rowOf_0_ok (i := 7) 17 rfl rfl ?_
    exact g_less (L' := [none, none]) trivial (J17 (a1 / (M.1 a0 0)) h)
def f_X8_setValues (y : Lay) (a0 : Nat) (a1 : Int32) (M : Mem) : Option (Int32 × Mem) := gK y a0 (0, 8) (gN (y.2.1 a0 0) (gK y (y.2.1 a0 0) (0, 1) (cp (f_X1_besideBits y (y.2.1 a0 0) a1 M) fun (r4 : Int32) => fixN (fun _ _ => none) (fun (s7 : Int32 → Int32 → Option (Int32 × Mem)) (v5 : Int32) (v6 : Int32) => br ((30 : Int32) ≤ v6) (gN (y.2.1 a0 6) (cp (f_X8_blueOf y a0 a1 M) fun (r12 : Int32) => gA y (y.2.1 a0 6) 1 (0 : Int32) (lt (wI M (y.2.1 a0 6) (0 : Int32).toNatClampNeg r12) fun (M14 : Mem) => gA y (y.2.1 a0 6) 1 (1 : Int32) (lt (wI M14 (y.2.1 a0 6) (1 : Int32).toNatClampNeg v5) fun (M16 : Mem) => cp (f_X1_rowOf y (y.2.1 a0 0) a1 M16) fun (r17 : Int32) => gA y (y.2.1 a0 6) 1 (2 : Int32) (lt (wI M16 (y.2.1 a0 6) (2 : Int32).toNatClampNeg r17) fun (M19 : Mem) => gA y (y.2.1 a0 6) 1 (3 : Int32) (lt (wI M19 (y.2.1 a0 6) (3 : Int32).toNatClampNeg (M19.1 a0 11)) fun (M21 : Mem) => some (0, M21))))))) (jn (fun (v22 : Int32) => lt (v6 + (1 : Int32)) fun (v24 : Int32) => s7 v22 v24) fun j23 => br (((r4 >>> (v6 &&& 31)) &&& (1 : Int32)) = 0) (j23 v5) (gN (y.2.1 a0 1) (gA y (y.2.1 a0 1) 1 v6 (lt (v5 + (M.1 (y.2.1 a0 1) v6.toNatClampNeg)) fun (v29 : Int32) => j23 v29))))) FUEL (0 : Int32) (0 : Int32))))
theorem w_X8_setValues {g : GX} {l : Launch} (hG : GF g l) (y : Lay) (a0 : Nat) (a1 : Int32) (M : Mem) : C0 g l yX8_setValues cX8_setValues 5 none 1 y [.ref a0, .int a1] M (f_X8_setValues y a0 a1 M) := by
  refine C0_of hG (by decide) [some (.ref a0), some (.int a1), none, none, none] rfl rfl (fun out h x Q C R => ?_)
  unfold f_X8_setValues at h
  refine g_aload_n C tb_X8_setValues_0_ok (i := 0) rfl rfl ?_
  obtain ⟨k1, h⟩ := gK_e h
  obtain ⟨n2, h⟩ := gN_e h
  refine g_getR C tb_X8_setValues_0_ok (i := 1) rfl fl_X8_32 rfl k1 n2 ?_
  refine g_iload_n C tb_X8_setValues_0_ok (i := 2) rfl rfl ?_
  obtain ⟨k3, h⟩ := gK_e h
  obtain ⟨r4, er4, h⟩ := cp_e h
  refine g_callV0 C tb_X8_setValues_0_ok (i := 3) [.int a1] rfl mw_X1_besideBits mv_X1_besideBits ml_X8_144 k3 rfl rfl rfl rfl (w_X1_besideBits C.G y (y.2.1 a0 0) a1 M) (pm_s er4) rfl rfl rfl ?_
  refine g_istore_n C tb_X8_setValues_0_ok (i := 4) rfl rfl rfl ?_
  refine g_iconstv C tb_X8_setValues_0_ok (i := 5) 0 rfl k_iconstv_0 ?_
  refine g_istore_n C tb_X8_setValues_0_ok (i := 6) rfl rfl rfl ?_
  refine g_iconstv C tb_X8_setValues_0_ok (i := 7) 0 rfl k_iconstv_0 ?_
  refine g_istore C tb_X8_setValues_0_ok (i := 8) rfl rfl rfl ?_
  refine g_less (L' := [some (.ref a0), some (.int a1), some (.int r4), some (.int (0 : Int32)), some (.int (0 : Int32))]) ⟨rfl, ⟨rfl, ⟨rfl, ⟨rfl, ⟨rfl, trivial⟩⟩⟩⟩⟩ ?_
  refine fix_i (P := fun (f : Int32 → Int32 → Option (Int32 × Mem)) => ∀ (v5 : Int32) (v6 : Int32), f v5 v6 = some out → GG g x 5 Q 0 0 y M 14 [some (.ref a0), some (.int a1), some (.int r4), some (.int v5), some (.int v6)] []) ?_ ?_ _ (0 : Int32) (0 : Int32) h
  · intro v5 v6 h; exact (nn_e h).elim
  · intro s7 ih8 v5 v6 h
    refine g_iload C tb_X8_setValues_0_ok (i := 9) rfl rfl ?_
    refine g_bipushv C tb_X8_setValues_0_ok (i := 10) 30 rfl k_bipushv_30 ?_
    obtain ⟨t9, f10⟩ := br_e h
    refine g_icmp_ge C tb_X8_setValues_0_ok (i := 11) 46 rfl rfl (fun c => ?_) (fun c => ?_)
    · have h := t9 c
      refine g_aload_n C tb_X8_setValues_0_ok (i := 27) rfl rfl ?_
      obtain ⟨n11, h⟩ := gN_e h
      refine g_getR C tb_X8_setValues_0_ok (i := 28) rfl fl_X8_29 rfl k1 n11 ?_
      refine g_iconstv C tb_X8_setValues_0_ok (i := 29) 0 rfl k_iconstv_0 ?_
      refine g_aload_n C tb_X8_setValues_0_ok (i := 30) rfl rfl ?_
      refine g_iload_n C tb_X8_setValues_0_ok (i := 31) rfl rfl ?_
      obtain ⟨r12, er12, h⟩ := cp_e h
      refine g_callV0 C tb_X8_setValues_0_ok (i := 32) [.int a1] rfl mw_X8_blueOf mv_X8_blueOf ml_X8_118 k1 rfl rfl rfl rfl (w_X8_blueOf C.G y a0 a1 M) (pm_s er12) rfl rfl rfl ?_
      obtain ⟨b13, h⟩ := gA_e h
      refine g_iast C tb_X8_setValues_0_ok (i := 33) rfl b13 ?_
      refine g_mem (fun M14 eM14 => ?_)
      have h := lt_e eM14 h
      refine g_aload_n C tb_X8_setValues_0_ok (i := 34) rfl rfl ?_
      refine g_getR C tb_X8_setValues_0_ok (i := 35) rfl fl_X8_29 rfl k1 n11 ?_
      refine g_iconstv C tb_X8_setValues_0_ok (i := 36) 1 rfl k_iconstv_1 ?_
      refine g_iload_n C tb_X8_setValues_0_ok (i := 37) rfl rfl ?_
      obtain ⟨b15, h⟩ := gA_e h
      refine g_iast C tb_X8_setValues_0_ok (i := 38) rfl b15 ?_
      refine g_mem (fun M16 eM16 => ?_)
      have h := lt_e eM16 h
      refine g_aload_n C tb_X8_setValues_0_ok (i := 39) rfl rfl ?_
      refine g_getR C tb_X8_setValues_1_ok (i := 0) rfl fl_X8_29 rfl k1 n11 ?_
      refine g_iconstv C tb_X8_setValues_1_ok (i := 1) 2 rfl k_iconstv_2 ?_
      refine g_aload_n C tb_X8_setValues_1_ok (i := 2) rfl rfl ?_
      refine g_getR C tb_X8_setValues_1_ok (i := 3) rfl fl_X8_32 rfl k1 n2 ?_
      refine g_iload_n C tb_X8_setValues_1_ok (i := 4) rfl rfl ?_
      obtain ⟨r17, er17, h⟩ := cp_e h
      refine g_callV0 C tb_X8_setValues_1_ok (i := 5) [.int a1] rfl mw_X1_rowOf mv_X1_rowOf ml_X8_160 k3 rfl rfl rfl rfl (w_X1_rowOf C.G y (y.2.1 a0 0) a1 M16) (pm_s er17) rfl rfl rfl ?_
      obtain ⟨b18, h⟩ := gA_e h
      refine g_iast C tb_X8_setValues_1_ok (i := 6) rfl b18 ?_
      refine g_mem (fun M19 eM19 => ?_)
      have h := lt_e eM19 h
      refine g_aload_n C tb_X8_setValues_1_ok (i := 7) rfl rfl ?_
      refine g_getR C tb_X8_setValues_1_ok (i := 8) rfl fl_X8_29 rfl k1 n11 ?_
      refine g_iconstv C tb_X8_setValues_1_ok (i := 9) 3 rfl k_iconstv_3 ?_
      refine g_aload_n C tb_X8_setValues_1_ok (i := 10) rfl rfl ?_
      refine g_getI C tb_X8_setValues_1_ok (i := 11) rfl fl_X8_52 rfl k1 ?_
      obtain ⟨b20, h⟩ := gA_e h
      refine g_iast C tb_X8_setValues_1_ok (i := 12) rfl b20 ?_
      refine g_mem (fun M21 eM21 => ?_)
      have h := lt_e eM21 h
      cases h
      exact g_vret0 C R tb_X8_setValues_1_ok (i := 13) rfl
    · have h := f10 c
      refine g_iload_n C tb_X8_setValues_0_ok (i := 12) rfl rfl ?_
      refine g_iload C tb_X8_setValues_0_ok (i := 13) rfl rfl ?_
      refine g_ishr C tb_X8_setValues_0_ok (i := 14) rfl ?_
      refine g_iconstv C tb_X8_setValues_0_ok (i := 15) 1 rfl k_iconstv_1 ?_
      refine g_iand C tb_X8_setValues_0_ok (i := 16) rfl ?_
      obtain ⟨j23, ej23, h⟩ := jn_e h
      have J40 : ∀ (v22 : Int32), j23 v22 = some out → GG g x 5 Q 0 0 y M 40 [some (.ref a0), some (.int a1), some (.int r4), some (.int v22), some (.int v6)] [] := by
        intro v22 h; subst ej23
        obtain ⟨v24, ev24⟩ : ∃ w : Int32, w = v6 + (1 : Int32) := ⟨_, rfl⟩
        have h := lt_e ev24 h
        refine g_iincv C tb_X8_setValues_0_ok (i := 25) (1 : Int32) ev24 rfl rfl k_iconstv_1 rfl rfl ?_
        refine g_goto C tb_X8_setValues_0_ok (i := 26) 14 rfl rfl ?_
        exact g_less (L' := [some (.ref a0), some (.int a1), some (.int r4), some (.int v22), some (.int v24)]) ⟨rfl, ⟨rfl, ⟨rfl, ⟨rfl, ⟨rfl, trivial⟩⟩⟩⟩⟩ (ih8 v22 v24 h)
      obtain ⟨t25, f26⟩ := br_e h
      refine g_if_eq C tb_X8_setValues_0_ok (i := 17) 40 rfl rfl (fun c => ?_) (fun c => ?_)
      · have h := t25 c
        exact g_less (L' := [some (.ref a0), some (.int a1), some (.int r4), some (.int v5), some (.int v6)]) ⟨rfl, ⟨rfl, ⟨rfl, ⟨rfl, ⟨rfl, trivial⟩⟩⟩⟩⟩ (J40 v5 h)
      · have h := f26 c
        refine g_iload_n C tb_X8_setValues_0_ok (i := 18) rfl rfl ?_
        refine g_aload_n C tb_X8_setValues_0_ok (i := 19) rfl rfl ?_
        obtain ⟨n27, h⟩ := gN_e h
        refine g_getR C tb_X8_setValues_0_ok (i := 20) rfl fl_X8_9 rfl k1 n27 ?_
        refine g_iload C tb_X8_setValues_0_ok (i := 21) rfl rfl ?_
        obtain ⟨b28, h⟩ := gA_e h
        refine g_iald C tb_X8_setValues_0_ok (i := 22) rfl b28 ?_
        refine g_iadd C tb_X8_setValues_0_ok (i := 23) rfl ?_
        refine g_topi (fun v29 ev29 => ?_)
        have h := lt_e ev29 h
        refine g_istore_n C tb_X8_setValues_0_ok (i := 24) rfl rfl rfl ?_
        exact g_less (L' := [some (.ref a0), some (.int a1), some (.int r4), some (.int v29), some (.int v6)]) ⟨rfl, ⟨rfl, ⟨rfl, ⟨rfl, ⟨rfl, trivial⟩⟩⟩⟩⟩ (J40 v29 h)
def f_X5_joined (y : Lay) (a0 : Int32) (a1 : Int32) (a2 : Int32) (M : Mem) : Option Int32 := br (a0 < ((-18) : Int32) ∨ ((-11) : Int32) < a0) (jn (fun (v3 : Int32) => some v3) fun j4 => br (a2 = 0) (j4 (0 : Int32)) (gd (¬ a2 = 0) (j4 (a1 / a2)))) (br (a0 = ((-18) : Int32)) (some (a1 * a2)) (br (a0 = ((-17) : Int32)) (some (a1 - a2)) (br (a0 = ((-16) : Int32)) (some (a1 + a2)) (br (a0 = ((-15) : Int32)) (jn (fun (v14 : Int32) => some v14) fun j15 => br (a1 = a2) (j15 (1 : Int32)) (j15 (0 : Int32))) (br (a0 = ((-14) : Int32)) (jn (fun (v20 : Int32) => some v20) fun j21 => br (a2 ≤ a1) (j21 (0 : Int32)) (j21 (1 : Int32))) (br (a0 = ((-13) : Int32)) (jn (fun (v26 : Int32) => some v26) fun j27 => br (a2 = 0) (j27 (0 : Int32)) (gd (¬ a2 = 0) (j27 (a1 / a2)))) (br (a0 = ((-12) : Int32)) (jn (fun (v33 : Int32) => some v33) fun j34 => jn (fun (_u : Unit) => j34 (0 : Int32)) fun j35 => br (a1 = 0) (j35 ()) (br (a2 = 0) (j35 ()) (j34 (1 : Int32)))) (jn (fun (v42 : Int32) => some v42) fun j43 => jn (fun (_u : Unit) => j43 (1 : Int32)) fun j44 => br (a1 = 0) (br (a2 = 0) (j43 (0 : Int32)) (j44 ())) (j44 ())))))))))
theorem w_X5_joined {g : GX} {l : Launch} (hG : GF g l) (y : Lay) (a0 : Int32) (a1 : Int32) (a2 : Int32) (M : Mem) : C0 g l yX5_joined cX5_joined 3 (some .int) 0 y [.int a0, .int a1, .int a2] M (pm M (f_X5_joined y a0 a1 a2 M)) := by
  refine CP_of hG (by decide) [some (.int a0), some (.int a1), some (.int a2)] rfl rfl (fun out h x Q C R => ?_)
  unfold f_X5_joined at h
  refine g_iload_n C tb_X5_joined_0_ok (i := 0) rfl rfl ?_
  obtain ⟨t1, f2⟩ := br_e h
  by_cases hsw : a0 < ((-18) : Int32) ∨ ((-11) : Int32) < a0
  · have h := t1 hsw
    refine g_tableOut C tb_X5_joined_0_ok (i := 1) (-18) (-11) 110 rfl hsw (by decide) rfl ?_
    refine g_iload_n C tb_X5_joined_1_ok (i := 4) rfl rfl ?_
    obtain ⟨j4, ej4, h⟩ := jn_e h
    have J121 : ∀ (v3 : Int32), j4 v3 = some out → GG g x 3 Q 0 0 y M 121 [none, none, none] [.int v3] := by
      intro v3 h; subst ej4
      cases h
      exact g_iret0 C R tb_X5_joined_1_ok (i := 11) rfl
    obtain ⟨t5, f6⟩ := br_e h
    refine g_if_ne C tb_X5_joined_1_ok (i := 5) 118 rfl rfl (fun c => ?_) (fun c => ?_)
    · have h := f6 c
      refine g_iload_n C tb_X5_joined_1_ok (i := 8) rfl rfl ?_
      refine g_iload_n C tb_X5_joined_1_ok (i := 9) rfl rfl ?_
      obtain ⟨n7, h⟩ := gd_e h
      refine g_idiv C tb_X5_joined_1_ok (i := 10) rfl n7 ?_
      exact g_less (L' := [none, none, none]) trivial (J121 (a1 / a2) h)
    · have h := t5 c
      refine g_iconstv C tb_X5_joined_1_ok (i := 6) 0 rfl k_iconstv_0 ?_
      refine g_goto C tb_X5_joined_1_ok (i := 7) 121 rfl rfl ?_
      exact g_less (L' := [none, none, none]) trivial (J121 (0 : Int32) h)
  have h := f2 hsw
  obtain ⟨t8, f9⟩ := br_e h
  by_cases hs982 : a0 = ((-18) : Int32)
  · have h := t8 hs982
    refine g_tableIn C tb_X5_joined_0_ok (i := 1) (-18) 106 105 rfl hs982 (by decide) rfl ?_
    refine g_iload_n C tb_X5_joined_1_ok (i := 0) rfl rfl ?_
    refine g_iload_n C tb_X5_joined_1_ok (i := 1) rfl rfl ?_
    refine g_imul C tb_X5_joined_1_ok (i := 2) rfl ?_
    cases h
    exact g_iret0 C R tb_X5_joined_1_ok (i := 3) rfl
  have h := f9 hs982
  obtain ⟨t10, f11⟩ := br_e h
  by_cases hs983 : a0 = ((-17) : Int32)
  · have h := t10 hs983
    refine g_tableIn C tb_X5_joined_0_ok (i := 1) (-17) 102 101 rfl hs983 (by decide) rfl ?_
    refine g_iload_n C tb_X5_joined_0_ok (i := 36) rfl rfl ?_
    refine g_iload_n C tb_X5_joined_0_ok (i := 37) rfl rfl ?_
    refine g_isub C tb_X5_joined_0_ok (i := 38) rfl ?_
    cases h
    exact g_iret0 C R tb_X5_joined_0_ok (i := 39) rfl
  have h := f11 hs983
  obtain ⟨t12, f13⟩ := br_e h
  by_cases hs984 : a0 = ((-16) : Int32)
  · have h := t12 hs984
    refine g_tableIn C tb_X5_joined_0_ok (i := 1) (-16) 98 97 rfl hs984 (by decide) rfl ?_
    refine g_iload_n C tb_X5_joined_0_ok (i := 32) rfl rfl ?_
    refine g_iload_n C tb_X5_joined_0_ok (i := 33) rfl rfl ?_
    refine g_iadd C tb_X5_joined_0_ok (i := 34) rfl ?_
    cases h
    exact g_iret0 C R tb_X5_joined_0_ok (i := 35) rfl
  have h := f13 hs984
  obtain ⟨t18, f19⟩ := br_e h
  by_cases hs985 : a0 = ((-15) : Int32)
  · have h := t18 hs985
    refine g_tableIn C tb_X5_joined_0_ok (i := 1) (-15) 87 86 rfl hs985 (by decide) rfl ?_
    refine g_iload_n C tb_X5_joined_0_ok (i := 25) rfl rfl ?_
    refine g_iload_n C tb_X5_joined_0_ok (i := 26) rfl rfl ?_
    obtain ⟨j15, ej15, h⟩ := jn_e h
    have J97 : ∀ (v14 : Int32), j15 v14 = some out → GG g x 3 Q 0 0 y M 97 [none, none, none] [.int v14] := by
      intro v14 h; subst ej15
      cases h
      exact g_iret0 C R tb_X5_joined_0_ok (i := 31) rfl
    obtain ⟨t16, f17⟩ := br_e h
    refine g_icmp_ne C tb_X5_joined_0_ok (i := 27) 96 rfl rfl (fun c => ?_) (fun c => ?_)
    · have h := f17 c
      refine g_iconstv C tb_X5_joined_0_ok (i := 30) 0 rfl k_iconstv_0 ?_
      exact g_less (L' := [none, none, none]) trivial (J97 (0 : Int32) h)
    · have h := t16 c
      refine g_iconstv C tb_X5_joined_0_ok (i := 28) 1 rfl k_iconstv_1 ?_
      refine g_goto C tb_X5_joined_0_ok (i := 29) 97 rfl rfl ?_
      exact g_less (L' := [none, none, none]) trivial (J97 (1 : Int32) h)
  have h := f19 hs985
  obtain ⟨t24, f25⟩ := br_e h
  by_cases hs986 : a0 = ((-14) : Int32)
  · have h := t24 hs986
    refine g_tableIn C tb_X5_joined_0_ok (i := 1) (-14) 76 75 rfl hs986 (by decide) rfl ?_
    refine g_iload_n C tb_X5_joined_0_ok (i := 18) rfl rfl ?_
    refine g_iload_n C tb_X5_joined_0_ok (i := 19) rfl rfl ?_
    obtain ⟨j21, ej21, h⟩ := jn_e h
    have J86 : ∀ (v20 : Int32), j21 v20 = some out → GG g x 3 Q 0 0 y M 86 [none, none, none] [.int v20] := by
      intro v20 h; subst ej21
      cases h
      exact g_iret0 C R tb_X5_joined_0_ok (i := 24) rfl
    obtain ⟨t22, f23⟩ := br_e h
    refine g_icmp_ge C tb_X5_joined_0_ok (i := 20) 85 rfl rfl (fun c => ?_) (fun c => ?_)
    · have h := t22 c
      refine g_iconstv C tb_X5_joined_0_ok (i := 23) 0 rfl k_iconstv_0 ?_
      exact g_less (L' := [none, none, none]) trivial (J86 (0 : Int32) h)
    · have h := f23 c
      refine g_iconstv C tb_X5_joined_0_ok (i := 21) 1 rfl k_iconstv_1 ?_
      refine g_goto C tb_X5_joined_0_ok (i := 22) 86 rfl rfl ?_
      exact g_less (L' := [none, none, none]) trivial (J86 (1 : Int32) h)
  have h := f25 hs986
  obtain ⟨t31, f32⟩ := br_e h
  by_cases hs987 : a0 = ((-13) : Int32)
  · have h := t31 hs987
    refine g_tableIn C tb_X5_joined_0_ok (i := 1) (-13) 110 109 rfl hs987 (by decide) rfl ?_
    refine g_iload_n C tb_X5_joined_1_ok (i := 4) rfl rfl ?_
    obtain ⟨j27, ej27, h⟩ := jn_e h
    have J121 : ∀ (v26 : Int32), j27 v26 = some out → GG g x 3 Q 0 0 y M 121 [none, none, none] [.int v26] := by
      intro v26 h; subst ej27
      cases h
      exact g_iret0 C R tb_X5_joined_1_ok (i := 11) rfl
    obtain ⟨t28, f29⟩ := br_e h
    refine g_if_ne C tb_X5_joined_1_ok (i := 5) 118 rfl rfl (fun c => ?_) (fun c => ?_)
    · have h := f29 c
      refine g_iload_n C tb_X5_joined_1_ok (i := 8) rfl rfl ?_
      refine g_iload_n C tb_X5_joined_1_ok (i := 9) rfl rfl ?_
      obtain ⟨n30, h⟩ := gd_e h
      refine g_idiv C tb_X5_joined_1_ok (i := 10) rfl n30 ?_
      exact g_less (L' := [none, none, none]) trivial (J121 (a1 / a2) h)
    · have h := t28 c
      refine g_iconstv C tb_X5_joined_1_ok (i := 6) 0 rfl k_iconstv_0 ?_
      refine g_goto C tb_X5_joined_1_ok (i := 7) 121 rfl rfl ?_
      exact g_less (L' := [none, none, none]) trivial (J121 (0 : Int32) h)
  have h := f32 hs987
  obtain ⟨t40, f41⟩ := br_e h
  by_cases hs988 : a0 = ((-12) : Int32)
  · have h := t40 hs988
    refine g_tableIn C tb_X5_joined_0_ok (i := 1) (-12) 62 61 rfl hs988 (by decide) rfl ?_
    refine g_iload_n C tb_X5_joined_0_ok (i := 10) rfl rfl ?_
    obtain ⟨j34, ej34, h⟩ := jn_e h
    have J75 : ∀ (v33 : Int32), j34 v33 = some out → GG g x 3 Q 0 0 y M 75 [none, none, none] [.int v33] := by
      intro v33 h; subst ej34
      cases h
      exact g_iret0 C R tb_X5_joined_0_ok (i := 17) rfl
    obtain ⟨j35, ej35, h⟩ := jn_e h
    have J74 : ∀ (_u : Unit), j35 _u = some out → GG g x 3 Q 0 0 y M 74 [none, none, none] [] := by
      intro _u h; subst ej35
      refine g_iconstv C tb_X5_joined_0_ok (i := 16) 0 rfl k_iconstv_0 ?_
      exact g_less (L' := [none, none, none]) trivial (J75 (0 : Int32) h)
    obtain ⟨t36, f37⟩ := br_e h
    refine g_if_eq C tb_X5_joined_0_ok (i := 11) 74 rfl rfl (fun c => ?_) (fun c => ?_)
    · have h := t36 c
      exact g_less (L' := [none, none, none]) trivial (J74 () h)
    · have h := f37 c
      refine g_iload_n C tb_X5_joined_0_ok (i := 12) rfl rfl ?_
      obtain ⟨t38, f39⟩ := br_e h
      refine g_if_eq C tb_X5_joined_0_ok (i := 13) 74 rfl rfl (fun c => ?_) (fun c => ?_)
      · have h := t38 c
        exact g_less (L' := [none, none, none]) trivial (J74 () h)
      · have h := f39 c
        refine g_iconstv C tb_X5_joined_0_ok (i := 14) 1 rfl k_iconstv_1 ?_
        refine g_goto C tb_X5_joined_0_ok (i := 15) 75 rfl rfl ?_
        exact g_less (L' := [none, none, none]) trivial (J75 (1 : Int32) h)
  have h := f41 hs988
  have hlast : a0 = ((-11) : Int32) := i32_sw (l := [((-18) : Int32), ((-17) : Int32), ((-16) : Int32), ((-15) : Int32), ((-14) : Int32), ((-13) : Int32), ((-12) : Int32)]) (n := 7) hsw (by decide +kernel) (i32_ne [((-18) : Int32), ((-17) : Int32), ((-16) : Int32), ((-15) : Int32), ((-14) : Int32), ((-13) : Int32), ((-12) : Int32)] rfl (by intro c hc; simp only [List.mem_cons, List.not_mem_nil, or_false] at hc; rcases hc with rfl | rfl | rfl | rfl | rfl | rfl | rfl <;> assumption))
  refine g_tableIn C tb_X5_joined_0_ok (i := 1) (-11) 48 47 rfl hlast (by decide) rfl ?_
  refine g_iload_n C tb_X5_joined_0_ok (i := 2) rfl rfl ?_
  obtain ⟨j43, ej43, h⟩ := jn_e h
  have J61 : ∀ (v42 : Int32), j43 v42 = some out → GG g x 3 Q 0 0 y M 61 [none, none, none] [.int v42] := by
    intro v42 h; subst ej43
    cases h
    exact g_iret0 C R tb_X5_joined_0_ok (i := 9) rfl
  obtain ⟨j44, ej44, h⟩ := jn_e h
  have J56 : ∀ (_u : Unit), j44 _u = some out → GG g x 3 Q 0 0 y M 56 [none, none, none] [] := by
    intro _u h; subst ej44
    refine g_iconstv C tb_X5_joined_0_ok (i := 6) 1 rfl k_iconstv_1 ?_
    refine g_goto C tb_X5_joined_0_ok (i := 7) 61 rfl rfl ?_
    exact g_less (L' := [none, none, none]) trivial (J61 (1 : Int32) h)
  obtain ⟨t45, f46⟩ := br_e h
  refine g_if_ne C tb_X5_joined_0_ok (i := 3) 56 rfl rfl (fun c => ?_) (fun c => ?_)
  · have h := f46 c
    exact g_less (L' := [none, none, none]) trivial (J56 () h)
  · have h := t45 c
    refine g_iload_n C tb_X5_joined_0_ok (i := 4) rfl rfl ?_
    obtain ⟨t47, f48⟩ := br_e h
    refine g_if_eq C tb_X5_joined_0_ok (i := 5) 60 rfl rfl (fun c => ?_) (fun c => ?_)
    · have h := t47 c
      refine g_iconstv C tb_X5_joined_0_ok (i := 8) 0 rfl k_iconstv_0 ?_
      exact g_less (L' := [none, none, none]) trivial (J61 (0 : Int32) h)
    · have h := f48 c
      exact g_less (L' := [none, none, none]) trivial (J56 () h)
def f_X5_worth (y : Lay) (a0 : Nat) (a1 : Nat) (M : Mem) : Option (Int32 × Mem) := fixN (fun _ _ _ => none) (fun (s4 : Int32 → Int32 → Mem → Option (Int32 × Mem)) (v1 : Int32) (v2 : Int32) (M3 : Mem) => gK y a0 (0, 5) (jn (fun (_u : Unit) => jn (fun (v8 : Int32) => some (v8, M3)) fun j9 => br (v1 < (1 : Int32)) (j9 (0 : Int32)) (gN (y.2.1 a0 1) (gA y (y.2.1 a0 1) 1 (v1 - (1 : Int32)) (j9 (M3.1 (y.2.1 a0 1) (v1 - (1 : Int32)).toNatClampNeg))))) fun j7 => br ((M3.1 a0 2) ≤ v2) (j7 ()) (gN (y.2.1 a0 0) (gT y (y.2.1 a0 0) 1 (br ((Int32.ofNat (kd y (y.2.1 a0 0)).2) ≤ v2) (j7 ()) (gA y (y.2.1 a0 0) 1 v2 (lt (M3.1 (y.2.1 a0 0) v2.toNatClampNeg) fun (v21 : Int32) => jn (fun (v22 : Int32) (M23 : Mem) => lt (v2 + (1 : Int32)) fun (v25 : Int32) => s4 v22 v25 M23) fun j24 => br (v21 < ((-6) : Int32)) (br (v21 = ((-13) : Int32)) (br (v1 < (1 : Int32)) (j24 v1 M3) (gN (y.2.1 a0 1) (gA y (y.2.1 a0 1) 1 (v1 - (1 : Int32)) (jn (fun (v43 : Int32) => gA y (y.2.1 a0 1) 1 (v1 - (1 : Int32)) (lt (wI M3 (y.2.1 a0 1) (v1 - (1 : Int32)).toNatClampNeg v43) fun (M46 : Mem) => j24 v1 M46)) fun j44 => br ((M3.1 (y.2.1 a0 1) (v1 - (1 : Int32)).toNatClampNeg) = 0) (j44 (1 : Int32)) (j44 (0 : Int32)))))) (br (v1 < (2 : Int32)) (j24 v1 M3) (lt (v1 + ((-1) : Int32)) fun (v32 : Int32) => gN (y.2.1 a0 1) (gA y (y.2.1 a0 1) 1 (v32 - (1 : Int32)) (gA y (y.2.1 a0 1) 1 v32 (cp (f_X5_joined y v21 (M3.1 (y.2.1 a0 1) (v32 - (1 : Int32)).toNatClampNeg) (M3.1 (y.2.1 a0 1) v32.toNatClampNeg) M3) fun (r36 : Int32) => gA y (y.2.1 a0 1) 1 (v32 - (1 : Int32)) (lt (wI M3 (y.2.1 a0 1) (v32 - (1 : Int32)).toNatClampNeg r36) fun (M38 : Mem) => j24 v32 M38))))))) (lt (((-1) : Int32) - v21) fun (v49 : Int32) => jn (fun (v50 : Int32) (M51 : Mem) => j24 v50 M51) fun j52 => br ((40 : Int32) ≤ v1) (j52 v1 M3) (gN (y.2.1 a0 1) (jn (fun (v56 : Int32) => gA y (y.2.1 a0 1) 1 v1 (lt (wI M3 (y.2.1 a0 1) v1.toNatClampNeg v56) fun (M59 : Mem) => lt (v1 + (1 : Int32)) fun (v60 : Int32) => j52 v60 M59)) fun j57 => jn (fun (_u : Unit) => j57 v21) fun j61 => br (v49 < 0) (j61 ()) (gT y a1 1 (br ((Int32.ofNat (kd y a1).2) ≤ v49) (j61 ()) (gA y a1 1 v49 (j57 (M3.1 a1 v49.toNatClampNeg))))))))))))))) FUEL (0 : Int32) (0 : Int32) M
theorem w_X5_worth {g : GX} {l : Launch} (hG : GF g l) (y : Lay) (a0 : Nat) (a1 : Nat) (M : Mem) : C0 g l yX5_worth cX5_worth 6 (some .int) 1 y [.ref a0, .ref a1] M (f_X5_worth y a0 a1 M) := by
  refine C0_of hG (by decide) [some (.ref a0), some (.ref a1), none, none, none, none] rfl rfl (fun out h x Q C R => ?_)
  unfold f_X5_worth at h
  refine g_iconstv C tb_X5_worth_0_ok (i := 0) 0 rfl k_iconstv_0 ?_
  refine g_istore_n C tb_X5_worth_0_ok (i := 1) rfl rfl rfl ?_
  refine g_iconstv C tb_X5_worth_0_ok (i := 2) 0 rfl k_iconstv_0 ?_
  refine g_istore_n C tb_X5_worth_0_ok (i := 3) rfl rfl rfl ?_
  refine g_less (L' := [some (.ref a0), some (.ref a1), some (.int (0 : Int32)), some (.int (0 : Int32)), none, none]) ⟨rfl, ⟨rfl, ⟨rfl, ⟨rfl, trivial⟩⟩⟩⟩ ?_
  refine fix_i (P := fun (f : Int32 → Int32 → Mem → Option (Int32 × Mem)) => ∀ (v1 : Int32) (v2 : Int32) (M3 : Mem), f v1 v2 M3 = some out → GG g x 6 Q 0 0 y M3 4 [some (.ref a0), some (.ref a1), some (.int v1), some (.int v2), none, none] []) ?_ ?_ _ (0 : Int32) (0 : Int32) M h
  · intro v1 v2 M3 h; exact (nn_e h).elim
  · intro s4 ih5 v1 v2 M3 h
    refine g_iload_n C tb_X5_worth_0_ok (i := 4) rfl rfl ?_
    refine g_aload_n C tb_X5_worth_0_ok (i := 5) rfl rfl ?_
    obtain ⟨k6, h⟩ := gK_e h
    refine g_getI C tb_X5_worth_0_ok (i := 6) rfl fl_X5_18 rfl k6 ?_
    obtain ⟨j7, ej7, h⟩ := jn_e h
    have J161 : ∀ (_u : Unit), j7 _u = some out → GG g x 6 Q 0 0 y M3 161 [some (.ref a0), none, some (.int v1), none, none, none] [] := by
      intro _u h; subst ej7
      refine g_iload_n C tb_X5_worth_2_ok (i := 12) rfl rfl ?_
      refine g_iconstv C tb_X5_worth_2_ok (i := 13) 1 rfl k_iconstv_1 ?_
      obtain ⟨j9, ej9, h⟩ := jn_e h
      have J178 : ∀ (v8 : Int32), j9 v8 = some out → GG g x 6 Q 0 0 y M3 178 [none, none, none, none, none, none] [.int v8] := by
        intro v8 h; subst ej9
        cases h
        exact g_iret0 C R tb_X5_worth_2_ok (i := 23) rfl
      obtain ⟨t10, f11⟩ := br_e h
      refine g_icmp_lt C tb_X5_worth_2_ok (i := 14) 177 rfl rfl (fun c => ?_) (fun c => ?_)
      · have h := t10 c
        refine g_iconstv C tb_X5_worth_2_ok (i := 22) 0 rfl k_iconstv_0 ?_
        exact g_less (L' := [none, none, none, none, none, none]) trivial (J178 (0 : Int32) h)
      · have h := f11 c
        refine g_aload_n C tb_X5_worth_2_ok (i := 15) rfl rfl ?_
        obtain ⟨n12, h⟩ := gN_e h
        refine g_getR C tb_X5_worth_2_ok (i := 16) rfl fl_X5_15 rfl k6 n12 ?_
        refine g_iload_n C tb_X5_worth_2_ok (i := 17) rfl rfl ?_
        refine g_iconstv C tb_X5_worth_2_ok (i := 18) 1 rfl k_iconstv_1 ?_
        refine g_isub C tb_X5_worth_2_ok (i := 19) rfl ?_
        obtain ⟨b13, h⟩ := gA_e h
        refine g_iald C tb_X5_worth_2_ok (i := 20) rfl b13 ?_
        refine g_goto C tb_X5_worth_2_ok (i := 21) 178 rfl rfl ?_
        exact g_less (L' := [none, none, none, none, none, none]) trivial (J178 (M3.1 (y.2.1 a0 1) (v1 - (1 : Int32)).toNatClampNeg) h)
    obtain ⟨t14, f15⟩ := br_e h
    refine g_icmp_ge C tb_X5_worth_0_ok (i := 7) 161 rfl rfl (fun c => ?_) (fun c => ?_)
    · have h := t14 c
      exact g_less (L' := [some (.ref a0), none, some (.int v1), none, none, none]) ⟨rfl, ⟨rfl, trivial⟩⟩ (J161 () h)
    · have h := f15 c
      refine g_iload_n C tb_X5_worth_0_ok (i := 8) rfl rfl ?_
      refine g_aload_n C tb_X5_worth_0_ok (i := 9) rfl rfl ?_
      obtain ⟨n16, h⟩ := gN_e h
      refine g_getR C tb_X5_worth_0_ok (i := 10) rfl fl_X5_9 rfl k6 n16 ?_
      obtain ⟨b17, h⟩ := gT_e h
      refine g_alen C tb_X5_worth_0_ok (i := 11) rfl b17 (by decide) ?_
      obtain ⟨t18, f19⟩ := br_e h
      refine g_icmp_ge C tb_X5_worth_0_ok (i := 12) 161 rfl rfl (fun c => ?_) (fun c => ?_)
      · have h := t18 c
        exact g_less (L' := [some (.ref a0), none, some (.int v1), none, none, none]) ⟨rfl, ⟨rfl, trivial⟩⟩ (J161 () h)
      · have h := f19 c
        refine g_aload_n C tb_X5_worth_0_ok (i := 13) rfl rfl ?_
        refine g_getR C tb_X5_worth_0_ok (i := 14) rfl fl_X5_9 rfl k6 n16 ?_
        refine g_iload_n C tb_X5_worth_0_ok (i := 15) rfl rfl ?_
        obtain ⟨b20, h⟩ := gA_e h
        refine g_iald C tb_X5_worth_0_ok (i := 16) rfl b20 ?_
        refine g_topi (fun v21 ev21 => ?_)
        have h := lt_e ev21 h
        refine g_istore C tb_X5_worth_0_ok (i := 17) rfl rfl rfl ?_
        refine g_iload C tb_X5_worth_0_ok (i := 18) rfl rfl ?_
        refine g_bipushv C tb_X5_worth_0_ok (i := 19) (-6) rfl k_bipushv_m6 ?_
        obtain ⟨j24, ej24, h⟩ := jn_e h
        have J155 : ∀ (v22 : Int32) (M23 : Mem), j24 v22 M23 = some out → GG g x 6 Q 0 0 y M23 155 [some (.ref a0), some (.ref a1), some (.int v22), some (.int v2), none, none] [] := by
          intro v22 M23 h; subst ej24
          obtain ⟨v25, ev25⟩ : ∃ w : Int32, w = v2 + (1 : Int32) := ⟨_, rfl⟩
          have h := lt_e ev25 h
          refine g_iincv C tb_X5_worth_2_ok (i := 10) (1 : Int32) ev25 rfl rfl k_iconstv_1 rfl rfl ?_
          refine g_goto C tb_X5_worth_2_ok (i := 11) 4 rfl rfl ?_
          exact g_less (L' := [some (.ref a0), some (.ref a1), some (.int v22), some (.int v25), none, none]) ⟨rfl, ⟨rfl, ⟨rfl, ⟨rfl, trivial⟩⟩⟩⟩ (ih5 v22 v25 M23 h)
        obtain ⟨t26, f27⟩ := br_e h
        refine g_icmp_lt C tb_X5_worth_0_ok (i := 20) 81 rfl rfl (fun c => ?_) (fun c => ?_)
        · have h := t26 c
          refine g_iload C tb_X5_worth_1_ok (i := 5) rfl rfl ?_
          refine g_bipushv C tb_X5_worth_1_ok (i := 6) (-13) rfl k_bipushv_m13 ?_
          obtain ⟨t28, f29⟩ := br_e h
          refine g_icmp_ne C tb_X5_worth_1_ok (i := 7) 120 rfl rfl (fun c => ?_) (fun c => ?_)
          · have h := f29 c
            refine g_iload_n C tb_X5_worth_1_ok (i := 28) rfl rfl ?_
            refine g_iconstv C tb_X5_worth_1_ok (i := 29) 2 rfl k_iconstv_2 ?_
            obtain ⟨t30, f31⟩ := br_e h
            refine g_icmp_lt C tb_X5_worth_1_ok (i := 30) 155 rfl rfl (fun c => ?_) (fun c => ?_)
            · have h := t30 c
              exact g_less (L' := [some (.ref a0), some (.ref a1), some (.int v1), some (.int v2), none, none]) ⟨rfl, ⟨rfl, ⟨rfl, ⟨rfl, trivial⟩⟩⟩⟩ (J155 v1 M3 h)
            · have h := f31 c
              obtain ⟨v32, ev32⟩ : ∃ w : Int32, w = v1 + ((-1) : Int32) := ⟨_, rfl⟩
              have h := lt_e ev32 h
              refine g_iincv C tb_X5_worth_1_ok (i := 31) ((-1) : Int32) ev32 rfl rfl k_iconstv_m1 rfl rfl ?_
              refine g_aload_n C tb_X5_worth_1_ok (i := 32) rfl rfl ?_
              obtain ⟨n33, h⟩ := gN_e h
              refine g_getR C tb_X5_worth_1_ok (i := 33) rfl fl_X5_15 rfl k6 n33 ?_
              refine g_iload_n C tb_X5_worth_1_ok (i := 34) rfl rfl ?_
              refine g_iconstv C tb_X5_worth_1_ok (i := 35) 1 rfl k_iconstv_1 ?_
              refine g_isub C tb_X5_worth_1_ok (i := 36) rfl ?_
              refine g_iload C tb_X5_worth_1_ok (i := 37) rfl rfl ?_
              refine g_aload_n C tb_X5_worth_1_ok (i := 38) rfl rfl ?_
              refine g_getR C tb_X5_worth_1_ok (i := 39) rfl fl_X5_15 rfl k6 n33 ?_
              refine g_iload_n C tb_X5_worth_2_ok (i := 0) rfl rfl ?_
              refine g_iconstv C tb_X5_worth_2_ok (i := 1) 1 rfl k_iconstv_1 ?_
              refine g_isub C tb_X5_worth_2_ok (i := 2) rfl ?_
              obtain ⟨b34, h⟩ := gA_e h
              refine g_iald C tb_X5_worth_2_ok (i := 3) rfl b34 ?_
              refine g_aload_n C tb_X5_worth_2_ok (i := 4) rfl rfl ?_
              refine g_getR C tb_X5_worth_2_ok (i := 5) rfl fl_X5_15 rfl k6 n33 ?_
              refine g_iload_n C tb_X5_worth_2_ok (i := 6) rfl rfl ?_
              obtain ⟨b35, h⟩ := gA_e h
              refine g_iald C tb_X5_worth_2_ok (i := 7) rfl b35 ?_
              obtain ⟨r36, er36, h⟩ := cp_e h
              refine g_callS0 C tb_X5_worth_2_ok (i := 8) [.int v21, .int (M3.1 (y.2.1 a0 1) (v32 - (1 : Int32)).toNatClampNeg), .int (M3.1 (y.2.1 a0 1) v32.toNatClampNeg)] rfl mw_X5_joined mst_X5_joined ml_X5_32 rfl rfl rfl rfl (w_X5_joined C.G y v21 (M3.1 (y.2.1 a0 1) (v32 - (1 : Int32)).toNatClampNeg) (M3.1 (y.2.1 a0 1) v32.toNatClampNeg) M3) (pm_s er36) rfl rfl rfl ?_
              obtain ⟨b37, h⟩ := gA_e h
              refine g_iast C tb_X5_worth_2_ok (i := 9) rfl b37 ?_
              refine g_mem (fun M38 eM38 => ?_)
              have h := lt_e eM38 h
              exact g_less (L' := [some (.ref a0), some (.ref a1), some (.int v32), some (.int v2), none, none]) ⟨rfl, ⟨rfl, ⟨rfl, ⟨rfl, trivial⟩⟩⟩⟩ (J155 v32 M38 h)
          · have h := t28 c
            refine g_iload_n C tb_X5_worth_1_ok (i := 8) rfl rfl ?_
            refine g_iconstv C tb_X5_worth_1_ok (i := 9) 1 rfl k_iconstv_1 ?_
            obtain ⟨t39, f40⟩ := br_e h
            refine g_icmp_lt C tb_X5_worth_1_ok (i := 10) 155 rfl rfl (fun c => ?_) (fun c => ?_)
            · have h := t39 c
              exact g_less (L' := [some (.ref a0), some (.ref a1), some (.int v1), some (.int v2), none, none]) ⟨rfl, ⟨rfl, ⟨rfl, ⟨rfl, trivial⟩⟩⟩⟩ (J155 v1 M3 h)
            · have h := f40 c
              refine g_aload_n C tb_X5_worth_1_ok (i := 11) rfl rfl ?_
              obtain ⟨n41, h⟩ := gN_e h
              refine g_getR C tb_X5_worth_1_ok (i := 12) rfl fl_X5_15 rfl k6 n41 ?_
              refine g_iload_n C tb_X5_worth_1_ok (i := 13) rfl rfl ?_
              refine g_iconstv C tb_X5_worth_1_ok (i := 14) 1 rfl k_iconstv_1 ?_
              refine g_isub C tb_X5_worth_1_ok (i := 15) rfl ?_
              refine g_aload_n C tb_X5_worth_1_ok (i := 16) rfl rfl ?_
              refine g_getR C tb_X5_worth_1_ok (i := 17) rfl fl_X5_15 rfl k6 n41 ?_
              refine g_iload_n C tb_X5_worth_1_ok (i := 18) rfl rfl ?_
              refine g_iconstv C tb_X5_worth_1_ok (i := 19) 1 rfl k_iconstv_1 ?_
              refine g_isub C tb_X5_worth_1_ok (i := 20) rfl ?_
              obtain ⟨b42, h⟩ := gA_e h
              refine g_iald C tb_X5_worth_1_ok (i := 21) rfl b42 ?_
              obtain ⟨j44, ej44, h⟩ := jn_e h
              have J116 : ∀ (v43 : Int32), j44 v43 = some out → GG g x 6 Q 0 0 y M3 116 [some (.ref a0), some (.ref a1), some (.int v1), some (.int v2), none, none] [.int v43, .int (v1 - (1 : Int32)), .ref (y.2.1 a0 1)] := by
                intro v43 h; subst ej44
                obtain ⟨b45, h⟩ := gA_e h
                refine g_iast C tb_X5_worth_1_ok (i := 26) rfl b45 ?_
                refine g_mem (fun M46 eM46 => ?_)
                have h := lt_e eM46 h
                refine g_goto C tb_X5_worth_1_ok (i := 27) 155 rfl rfl ?_
                exact g_less (L' := [some (.ref a0), some (.ref a1), some (.int v1), some (.int v2), none, none]) ⟨rfl, ⟨rfl, ⟨rfl, ⟨rfl, trivial⟩⟩⟩⟩ (J155 v1 M46 h)
              obtain ⟨t47, f48⟩ := br_e h
              refine g_if_ne C tb_X5_worth_1_ok (i := 22) 115 rfl rfl (fun c => ?_) (fun c => ?_)
              · have h := f48 c
                refine g_iconstv C tb_X5_worth_1_ok (i := 25) 0 rfl k_iconstv_0 ?_
                exact g_less (L' := [some (.ref a0), some (.ref a1), some (.int v1), some (.int v2), none, none]) ⟨rfl, ⟨rfl, ⟨rfl, ⟨rfl, trivial⟩⟩⟩⟩ (J116 (0 : Int32) h)
              · have h := t47 c
                refine g_iconstv C tb_X5_worth_1_ok (i := 23) 1 rfl k_iconstv_1 ?_
                refine g_goto C tb_X5_worth_1_ok (i := 24) 116 rfl rfl ?_
                exact g_less (L' := [some (.ref a0), some (.ref a1), some (.int v1), some (.int v2), none, none]) ⟨rfl, ⟨rfl, ⟨rfl, ⟨rfl, trivial⟩⟩⟩⟩ (J116 (1 : Int32) h)
        · have h := f27 c
          refine g_iconstv C tb_X5_worth_0_ok (i := 21) (-1) rfl k_iconstv_m1 ?_
          refine g_iload C tb_X5_worth_0_ok (i := 22) rfl rfl ?_
          refine g_isub C tb_X5_worth_0_ok (i := 23) rfl ?_
          refine g_topi (fun v49 ev49 => ?_)
          have h := lt_e ev49 h
          refine g_istore C tb_X5_worth_0_ok (i := 24) rfl rfl rfl ?_
          refine g_iload_n C tb_X5_worth_0_ok (i := 25) rfl rfl ?_
          refine g_bipushv C tb_X5_worth_0_ok (i := 26) 40 rfl k_bipushv_40 ?_
          obtain ⟨j52, ej52, h⟩ := jn_e h
          have J78 : ∀ (v50 : Int32) (M51 : Mem), j52 v50 M51 = some out → GG g x 6 Q 0 0 y M51 78 [some (.ref a0), some (.ref a1), some (.int v50), some (.int v2), none, none] [] := by
            intro v50 M51 h; subst ej52
            refine g_goto C tb_X5_worth_1_ok (i := 4) 155 rfl rfl ?_
            exact g_less (L' := [some (.ref a0), some (.ref a1), some (.int v50), some (.int v2), none, none]) ⟨rfl, ⟨rfl, ⟨rfl, ⟨rfl, trivial⟩⟩⟩⟩ (J155 v50 M51 h)
          obtain ⟨t53, f54⟩ := br_e h
          refine g_icmp_ge C tb_X5_worth_0_ok (i := 27) 78 rfl rfl (fun c => ?_) (fun c => ?_)
          · have h := t53 c
            exact g_less (L' := [some (.ref a0), some (.ref a1), some (.int v1), some (.int v2), none, none]) ⟨rfl, ⟨rfl, ⟨rfl, ⟨rfl, trivial⟩⟩⟩⟩ (J78 v1 M3 h)
          · have h := f54 c
            refine g_aload_n C tb_X5_worth_0_ok (i := 28) rfl rfl ?_
            obtain ⟨n55, h⟩ := gN_e h
            refine g_getR C tb_X5_worth_0_ok (i := 29) rfl fl_X5_15 rfl k6 n55 ?_
            refine g_iload_n C tb_X5_worth_0_ok (i := 30) rfl rfl ?_
            refine g_iload C tb_X5_worth_0_ok (i := 31) rfl rfl ?_
            obtain ⟨j57, ej57, h⟩ := jn_e h
            have J74 : ∀ (v56 : Int32), j57 v56 = some out → GG g x 6 Q 0 0 y M3 74 [some (.ref a0), some (.ref a1), some (.int v1), some (.int v2), none, none] [.int v56, .int v1, .ref (y.2.1 a0 1)] := by
              intro v56 h; subst ej57
              obtain ⟨b58, h⟩ := gA_e h
              refine g_iast C tb_X5_worth_1_ok (i := 2) rfl b58 ?_
              refine g_mem (fun M59 eM59 => ?_)
              have h := lt_e eM59 h
              obtain ⟨v60, ev60⟩ : ∃ w : Int32, w = v1 + (1 : Int32) := ⟨_, rfl⟩
              have h := lt_e ev60 h
              refine g_iincv C tb_X5_worth_1_ok (i := 3) (1 : Int32) ev60 rfl rfl k_iconstv_1 rfl rfl ?_
              exact g_less (L' := [some (.ref a0), some (.ref a1), some (.int v60), some (.int v2), none, none]) ⟨rfl, ⟨rfl, ⟨rfl, ⟨rfl, trivial⟩⟩⟩⟩ (J78 v60 M59 h)
            obtain ⟨j61, ej61, h⟩ := jn_e h
            have J72 : ∀ (_u : Unit), j61 _u = some out → GG g x 6 Q 0 0 y M3 72 [some (.ref a0), some (.ref a1), some (.int v1), some (.int v2), some (.int v21), none] [.int v1, .ref (y.2.1 a0 1)] := by
              intro _u h; subst ej61
              refine g_iload C tb_X5_worth_1_ok (i := 1) rfl rfl ?_
              exact g_less (L' := [some (.ref a0), some (.ref a1), some (.int v1), some (.int v2), none, none]) ⟨rfl, ⟨rfl, ⟨rfl, ⟨rfl, trivial⟩⟩⟩⟩ (J74 v21 h)
            obtain ⟨t62, f63⟩ := br_e h
            refine g_if_lt C tb_X5_worth_0_ok (i := 32) 72 rfl rfl (fun c => ?_) (fun c => ?_)
            · have h := t62 c
              exact g_less (L' := [some (.ref a0), some (.ref a1), some (.int v1), some (.int v2), some (.int v21), none]) ⟨rfl, ⟨rfl, ⟨rfl, ⟨rfl, ⟨rfl, trivial⟩⟩⟩⟩⟩ (J72 () h)
            · have h := f63 c
              refine g_iload C tb_X5_worth_0_ok (i := 33) rfl rfl ?_
              refine g_aload_n C tb_X5_worth_0_ok (i := 34) rfl rfl ?_
              obtain ⟨b64, h⟩ := gT_e h
              refine g_alen C tb_X5_worth_0_ok (i := 35) rfl b64 (by decide) ?_
              obtain ⟨t65, f66⟩ := br_e h
              refine g_icmp_ge C tb_X5_worth_0_ok (i := 36) 72 rfl rfl (fun c => ?_) (fun c => ?_)
              · have h := t65 c
                exact g_less (L' := [some (.ref a0), some (.ref a1), some (.int v1), some (.int v2), some (.int v21), none]) ⟨rfl, ⟨rfl, ⟨rfl, ⟨rfl, ⟨rfl, trivial⟩⟩⟩⟩⟩ (J72 () h)
              · have h := f66 c
                refine g_aload_n C tb_X5_worth_0_ok (i := 37) rfl rfl ?_
                refine g_iload C tb_X5_worth_0_ok (i := 38) rfl rfl ?_
                obtain ⟨b67, h⟩ := gA_e h
                refine g_iald C tb_X5_worth_0_ok (i := 39) rfl b67 ?_
                refine g_goto C tb_X5_worth_1_ok (i := 0) 74 rfl rfl ?_
                exact g_less (L' := [some (.ref a0), some (.ref a1), some (.int v1), some (.int v2), none, none]) ⟨rfl, ⟨rfl, ⟨rfl, ⟨rfl, trivial⟩⟩⟩⟩ (J74 (M3.1 a1 v49.toNatClampNeg) h)
def f_X8_dyeOf (y : Lay) (a0 : Nat) (a1 : Int32) (a2 : Int32) (M : Mem) : Option (Int32 × Mem) := gK y a0 (0, 8) (gN (y.2.1 a0 0) (gK y (y.2.1 a0 0) (0, 1) (gN (y.2.1 (y.2.1 a0 0) 7) (gK y (y.2.1 (y.2.1 a0 0) 7) (0, 5) (cp (f_X5_isTold y (y.2.1 (y.2.1 a0 0) 7) M) fun (r6 : Int32) => br (r6 = 0) (cp (f_X8_skillOf y a0 a1 M) fun (r20 : Int32) => some ((((2 : Int32) * r20) + (3 : Int32)), M)) (cp (f_X8_spotOf y a0 a1 M) fun (r9 : Int32) => c0 (f_X8_setValues y a0 r9 M) fun (r10 : Int32) (M11 : Mem) => gN (y.2.1 a0 6) (cp (f_X8_skillOf y a0 a1 M11) fun (r13 : Int32) => gA y (y.2.1 a0 6) 1 (4 : Int32) (lt (wI M11 (y.2.1 a0 6) (4 : Int32).toNatClampNeg r13) fun (M15 : Mem) => gA y (y.2.1 a0 6) 1 (5 : Int32) (lt (wI M15 (y.2.1 a0 6) (5 : Int32).toNatClampNeg a2) fun (M17 : Mem) => c0 (f_X5_worth y (y.2.1 (y.2.1 a0 0) 7) (y.2.1 a0 6) M17) fun (r18 : Int32) (M19 : Mem) => some ((jmax (0 : Int32) (jmin (30 : Int32) r18)), M19))))))))))
theorem w_X8_dyeOf {g : GX} {l : Launch} (hG : GF g l) (y : Lay) (a0 : Nat) (a1 : Int32) (a2 : Int32) (M : Mem) : C0 g l yX8_dyeOf cX8_dyeOf 3 (some .int) 2 y [.ref a0, .int a1, .int a2] M (f_X8_dyeOf y a0 a1 a2 M) := by
  refine C0_of hG (by decide) [some (.ref a0), some (.int a1), some (.int a2)] rfl rfl (fun out h x Q C R => ?_)
  unfold f_X8_dyeOf at h
  refine g_aload_n C tb_X8_dyeOf_0_ok (i := 0) rfl rfl ?_
  obtain ⟨k1, h⟩ := gK_e h
  obtain ⟨n2, h⟩ := gN_e h
  refine g_getR C tb_X8_dyeOf_0_ok (i := 1) rfl fl_X8_32 rfl k1 n2 ?_
  obtain ⟨k3, h⟩ := gK_e h
  obtain ⟨n4, h⟩ := gN_e h
  refine g_getR C tb_X8_dyeOf_0_ok (i := 2) rfl fl_X8_154 rfl k3 n4 ?_
  obtain ⟨k5, h⟩ := gK_e h
  obtain ⟨r6, er6, h⟩ := cp_e h
  refine g_callV0 C tb_X8_dyeOf_0_ok (i := 3) [] rfl mw_X5_isTold mv_X5_isTold ml_X8_114 k5 rfl rfl rfl rfl (w_X5_isTold C.G y (y.2.1 (y.2.1 a0 0) 7) M) (pm_s er6) rfl rfl rfl ?_
  obtain ⟨t7, f8⟩ := br_e h
  refine g_if_ne C tb_X8_dyeOf_0_ok (i := 4) 23 rfl rfl (fun c => ?_) (fun c => ?_)
  · have h := f8 c
    refine g_aload_n C tb_X8_dyeOf_0_ok (i := 13) rfl rfl ?_
    refine g_aload_n C tb_X8_dyeOf_0_ok (i := 14) rfl rfl ?_
    refine g_iload_n C tb_X8_dyeOf_0_ok (i := 15) rfl rfl ?_
    obtain ⟨r9, er9, h⟩ := cp_e h
    refine g_callV0 C tb_X8_dyeOf_0_ok (i := 16) [.int a1] rfl mw_X8_spotOf mv_X8_spotOf ml_X8_132 k1 rfl rfl rfl rfl (w_X8_spotOf C.G y a0 a1 M) (pm_s er9) rfl rfl rfl ?_
    obtain ⟨r10, M11, er10, h⟩ := c0_e h
    refine g_callV0 C tb_X8_dyeOf_0_ok (i := 17) [.int r9] rfl mw_X8_setValues mv_X8_setValues ml_X8_121 k1 rfl rfl rfl rfl (w_X8_setValues C.G y a0 r9 M) er10 rfl rfl rfl ?_
    refine g_aload_n C tb_X8_dyeOf_0_ok (i := 18) rfl rfl ?_
    obtain ⟨n12, h⟩ := gN_e h
    refine g_getR C tb_X8_dyeOf_0_ok (i := 19) rfl fl_X8_29 rfl k1 n12 ?_
    refine g_iconstv C tb_X8_dyeOf_0_ok (i := 20) 4 rfl k_iconstv_4 ?_
    refine g_aload_n C tb_X8_dyeOf_0_ok (i := 21) rfl rfl ?_
    refine g_iload_n C tb_X8_dyeOf_0_ok (i := 22) rfl rfl ?_
    obtain ⟨r13, er13, h⟩ := cp_e h
    refine g_callV0 C tb_X8_dyeOf_0_ok (i := 23) [.int a1] rfl mw_X8_skillOf mv_X8_skillOf ml_X8_157 k1 rfl rfl rfl rfl (w_X8_skillOf C.G y a0 a1 M11) (pm_s er13) rfl rfl rfl ?_
    obtain ⟨b14, h⟩ := gA_e h
    refine g_iast C tb_X8_dyeOf_0_ok (i := 24) rfl b14 ?_
    refine g_mem (fun M15 eM15 => ?_)
    have h := lt_e eM15 h
    refine g_aload_n C tb_X8_dyeOf_0_ok (i := 25) rfl rfl ?_
    refine g_getR C tb_X8_dyeOf_0_ok (i := 26) rfl fl_X8_29 rfl k1 n12 ?_
    refine g_iconstv C tb_X8_dyeOf_0_ok (i := 27) 5 rfl k_iconstv_5 ?_
    refine g_iload_n C tb_X8_dyeOf_0_ok (i := 28) rfl rfl ?_
    obtain ⟨b16, h⟩ := gA_e h
    refine g_iast C tb_X8_dyeOf_0_ok (i := 29) rfl b16 ?_
    refine g_mem (fun M17 eM17 => ?_)
    have h := lt_e eM17 h
    refine g_iconstv C tb_X8_dyeOf_0_ok (i := 30) 0 rfl k_iconstv_0 ?_
    refine g_bipushv C tb_X8_dyeOf_0_ok (i := 31) 30 rfl k_bipushv_30 ?_
    refine g_aload_n C tb_X8_dyeOf_0_ok (i := 32) rfl rfl ?_
    refine g_getR C tb_X8_dyeOf_0_ok (i := 33) rfl fl_X8_32 rfl k1 n2 ?_
    refine g_getR C tb_X8_dyeOf_0_ok (i := 34) rfl fl_X8_154 rfl k3 n4 ?_
    refine g_aload_n C tb_X8_dyeOf_0_ok (i := 35) rfl rfl ?_
    refine g_getR C tb_X8_dyeOf_0_ok (i := 36) rfl fl_X8_29 rfl k1 n12 ?_
    obtain ⟨r18, M19, er18, h⟩ := c0_e h
    refine g_callV0 C tb_X8_dyeOf_0_ok (i := 37) [.ref (y.2.1 a0 6)] rfl mw_X5_worth mv_X5_worth ml_X8_125 k5 rfl rfl rfl rfl (w_X5_worth C.G y (y.2.1 (y.2.1 a0 0) 7) (y.2.1 a0 6) M17) er18 rfl rfl rfl ?_
    refine g_min C tb_X8_dyeOf_0_ok (i := 38) rfl mt_X8_64 rfl rfl rfl ?_
    refine g_max C tb_X8_dyeOf_0_ok (i := 39) rfl mt_X8_92 rfl rfl rfl ?_
    cases h
    exact g_iret0 C R tb_X8_dyeOf_1_ok (i := 0) rfl
  · have h := t7 c
    refine g_iconstv C tb_X8_dyeOf_0_ok (i := 5) 2 rfl k_iconstv_2 ?_
    refine g_aload_n C tb_X8_dyeOf_0_ok (i := 6) rfl rfl ?_
    refine g_iload_n C tb_X8_dyeOf_0_ok (i := 7) rfl rfl ?_
    obtain ⟨r20, er20, h⟩ := cp_e h
    refine g_callV0 C tb_X8_dyeOf_0_ok (i := 8) [.int a1] rfl mw_X8_skillOf mv_X8_skillOf ml_X8_157 k1 rfl rfl rfl rfl (w_X8_skillOf C.G y a0 a1 M) (pm_s er20) rfl rfl rfl ?_
    refine g_imul C tb_X8_dyeOf_0_ok (i := 9) rfl ?_
    refine g_iconstv C tb_X8_dyeOf_0_ok (i := 10) 3 rfl k_iconstv_3 ?_
    refine g_iadd C tb_X8_dyeOf_0_ok (i := 11) rfl ?_
    cases h
    exact g_iret0 C R tb_X8_dyeOf_0_ok (i := 12) rfl
def f_X8_isPegged (y : Lay) (a0 : Nat) (a1 : Int32) (M : Mem) : Option Int32 := gK y a0 (0, 8) (jn (fun (v2 : Int32) => gd (v2 = 0 ∨ v2 = 1) (some v2)) fun j3 => br ((((M.1 a0 7) >>> (a1 &&& 31)) &&& (1 : Int32)) = 0) (j3 (0 : Int32)) (j3 (1 : Int32)))
theorem w_X8_isPegged {g : GX} {l : Launch} (hG : GF g l) (y : Lay) (a0 : Nat) (a1 : Int32) (M : Mem) : C0 g l yX8_isPegged cX8_isPegged 2 (some .boolean) 0 y [.ref a0, .int a1] M (pm M (f_X8_isPegged y a0 a1 M)) := by
  refine CP_of hG (by decide) [some (.ref a0), some (.int a1)] rfl rfl (fun out h x Q C R => ?_)
  unfold f_X8_isPegged at h
  refine g_aload_n C tb_X8_isPegged_0_ok (i := 0) rfl rfl ?_
  obtain ⟨k1, h⟩ := gK_e h
  refine g_getI C tb_X8_isPegged_0_ok (i := 1) rfl fl_X8_39 rfl k1 ?_
  refine g_iload_n C tb_X8_isPegged_0_ok (i := 2) rfl rfl ?_
  refine g_ishr C tb_X8_isPegged_0_ok (i := 3) rfl ?_
  refine g_iconstv C tb_X8_isPegged_0_ok (i := 4) 1 rfl k_iconstv_1 ?_
  refine g_iand C tb_X8_isPegged_0_ok (i := 5) rfl ?_
  obtain ⟨j3, ej3, h⟩ := jn_e h
  have J16 : ∀ (v2 : Int32), j3 v2 = some out → GG g x 2 Q 0 0 y M 16 [none, none] [.int v2] := by
    intro v2 h; subst ej3
    obtain ⟨hz, h⟩ := gd_e h
    cases h
    exact g_zret0 C R hz tb_X8_isPegged_0_ok (i := 10) rfl
  obtain ⟨t4, f5⟩ := br_e h
  refine g_if_eq C tb_X8_isPegged_0_ok (i := 6) 15 rfl rfl (fun c => ?_) (fun c => ?_)
  · have h := t4 c
    refine g_iconstv C tb_X8_isPegged_0_ok (i := 9) 0 rfl k_iconstv_0 ?_
    exact g_less (L' := [none, none]) trivial (J16 (0 : Int32) h)
  · have h := f5 c
    refine g_iconstv C tb_X8_isPegged_0_ok (i := 7) 1 rfl k_iconstv_1 ?_
    refine g_goto C tb_X8_isPegged_0_ok (i := 8) 16 rfl rfl ?_
    exact g_less (L' := [none, none]) trivial (J16 (1 : Int32) h)
def f_X8_addBlue (y : Lay) (a0 : Nat) (a1 : Int32) (a2 : Int32) (M : Mem) : Option (Int32 × Mem) := jn (fun (M1 : Mem) => some (0, M1)) fun j2 => br (a1 < 0) (j2 M) (br ((30 : Int32) ≤ a1) (j2 M) (gK y a0 (0, 8) (cp (f_X8_isPegged y a0 a1 M) fun (r8 : Int32) => br (r8 = 0) (gN (y.2.1 a0 1) (gA y (y.2.1 a0 1) 1 a1 (gA y (y.2.1 a0 1) 1 a1 (lt (wI M (y.2.1 a0 1) a1.toNatClampNeg (jmin (99 : Int32) ((M.1 (y.2.1 a0 1) a1.toNatClampNeg) + a2))) fun (M14 : Mem) => j2 M14)))) (j2 M))))
theorem w_X8_addBlue {g : GX} {l : Launch} (hG : GF g l) (y : Lay) (a0 : Nat) (a1 : Int32) (a2 : Int32) (M : Mem) : C0 g l yX8_addBlue cX8_addBlue 3 none 1 y [.ref a0, .int a1, .int a2] M (f_X8_addBlue y a0 a1 a2 M) := by
  refine C0_of hG (by decide) [some (.ref a0), some (.int a1), some (.int a2)] rfl rfl (fun out h x Q C R => ?_)
  unfold f_X8_addBlue at h
  refine g_iload_n C tb_X8_addBlue_0_ok (i := 0) rfl rfl ?_
  obtain ⟨j2, ej2, h⟩ := jn_e h
  have J37 : ∀ (M1 : Mem), j2 M1 = some out → GG g x 3 Q 0 0 y M1 37 [none, none, none] [] := by
    intro M1 h; subst ej2
    cases h
    exact g_vret0 C R tb_X8_addBlue_0_ok (i := 21) rfl
  obtain ⟨t3, f4⟩ := br_e h
  refine g_if_lt C tb_X8_addBlue_0_ok (i := 1) 37 rfl rfl (fun c => ?_) (fun c => ?_)
  · have h := t3 c
    exact g_less (L' := [none, none, none]) trivial (J37 M h)
  · have h := f4 c
    refine g_iload_n C tb_X8_addBlue_0_ok (i := 2) rfl rfl ?_
    refine g_bipushv C tb_X8_addBlue_0_ok (i := 3) 30 rfl k_bipushv_30 ?_
    obtain ⟨t5, f6⟩ := br_e h
    refine g_icmp_ge C tb_X8_addBlue_0_ok (i := 4) 37 rfl rfl (fun c => ?_) (fun c => ?_)
    · have h := t5 c
      exact g_less (L' := [none, none, none]) trivial (J37 M h)
    · have h := f6 c
      refine g_aload_n C tb_X8_addBlue_0_ok (i := 5) rfl rfl ?_
      refine g_iload_n C tb_X8_addBlue_0_ok (i := 6) rfl rfl ?_
      obtain ⟨k7, h⟩ := gK_e h
      obtain ⟨r8, er8, h⟩ := cp_e h
      refine g_callV0 C tb_X8_addBlue_0_ok (i := 7) [.int a1] rfl mw_X8_isPegged mv_X8_isPegged ml_X8_70 k7 rfl rfl rfl rfl (w_X8_isPegged C.G y a0 a1 M) (pm_s er8) rfl rfl rfl ?_
      obtain ⟨t9, f10⟩ := br_e h
      refine g_if_ne C tb_X8_addBlue_0_ok (i := 8) 37 rfl rfl (fun c => ?_) (fun c => ?_)
      · have h := f10 c
        exact g_less (L' := [none, none, none]) trivial (J37 M h)
      · have h := t9 c
        refine g_aload_n C tb_X8_addBlue_0_ok (i := 9) rfl rfl ?_
        obtain ⟨n11, h⟩ := gN_e h
        refine g_getR C tb_X8_addBlue_0_ok (i := 10) rfl fl_X8_9 rfl k7 n11 ?_
        refine g_iload_n C tb_X8_addBlue_0_ok (i := 11) rfl rfl ?_
        refine g_bipushv C tb_X8_addBlue_0_ok (i := 12) 99 rfl k_bipushv_99 ?_
        refine g_aload_n C tb_X8_addBlue_0_ok (i := 13) rfl rfl ?_
        refine g_getR C tb_X8_addBlue_0_ok (i := 14) rfl fl_X8_9 rfl k7 n11 ?_
        refine g_iload_n C tb_X8_addBlue_0_ok (i := 15) rfl rfl ?_
        obtain ⟨b12, h⟩ := gA_e h
        refine g_iald C tb_X8_addBlue_0_ok (i := 16) rfl b12 ?_
        refine g_iload_n C tb_X8_addBlue_0_ok (i := 17) rfl rfl ?_
        refine g_iadd C tb_X8_addBlue_0_ok (i := 18) rfl ?_
        refine g_min C tb_X8_addBlue_0_ok (i := 19) rfl mt_X8_64 rfl rfl rfl ?_
        obtain ⟨b13, h⟩ := gA_e h
        refine g_iast C tb_X8_addBlue_0_ok (i := 20) rfl b13 ?_
        refine g_mem (fun M14 eM14 => ?_)
        have h := lt_e eM14 h
        exact g_less (L' := [none, none, none]) trivial (J37 M14 h)
def f_X1_isOld (y : Lay) (a0 : Nat) (a1 : Int32) (M : Mem) : Option Int32 := gK y a0 (0, 1) (jn (fun (v2 : Int32) => gd (v2 = 0 ∨ v2 = 1) (some v2)) fun j3 => br ((((M.1 a0 5) >>> (a1 &&& 31)) &&& (1 : Int32)) = 0) (j3 (0 : Int32)) (j3 (1 : Int32)))
theorem w_X1_isOld {g : GX} {l : Launch} (hG : GF g l) (y : Lay) (a0 : Nat) (a1 : Int32) (M : Mem) : C0 g l yX1_isOld cX1_isOld 2 (some .boolean) 0 y [.ref a0, .int a1] M (pm M (f_X1_isOld y a0 a1 M)) := by
  refine CP_of hG (by decide) [some (.ref a0), some (.int a1)] rfl rfl (fun out h x Q C R => ?_)
  unfold f_X1_isOld at h
  refine g_aload_n C tb_X1_isOld_0_ok (i := 0) rfl rfl ?_
  obtain ⟨k1, h⟩ := gK_e h
  refine g_getI C tb_X1_isOld_0_ok (i := 1) rfl fl_X1_42 rfl k1 ?_
  refine g_iload_n C tb_X1_isOld_0_ok (i := 2) rfl rfl ?_
  refine g_ishr C tb_X1_isOld_0_ok (i := 3) rfl ?_
  refine g_iconstv C tb_X1_isOld_0_ok (i := 4) 1 rfl k_iconstv_1 ?_
  refine g_iand C tb_X1_isOld_0_ok (i := 5) rfl ?_
  obtain ⟨j3, ej3, h⟩ := jn_e h
  have J16 : ∀ (v2 : Int32), j3 v2 = some out → GG g x 2 Q 0 0 y M 16 [none, none] [.int v2] := by
    intro v2 h; subst ej3
    obtain ⟨hz, h⟩ := gd_e h
    cases h
    exact g_zret0 C R hz tb_X1_isOld_0_ok (i := 10) rfl
  obtain ⟨t4, f5⟩ := br_e h
  refine g_if_eq C tb_X1_isOld_0_ok (i := 6) 15 rfl rfl (fun c => ?_) (fun c => ?_)
  · have h := t4 c
    refine g_iconstv C tb_X1_isOld_0_ok (i := 9) 0 rfl k_iconstv_0 ?_
    exact g_less (L' := [none, none]) trivial (J16 (0 : Int32) h)
  · have h := f5 c
    refine g_iconstv C tb_X1_isOld_0_ok (i := 7) 1 rfl k_iconstv_1 ?_
    refine g_goto C tb_X1_isOld_0_ok (i := 8) 16 rfl rfl ?_
    exact g_less (L' := [none, none]) trivial (J16 (1 : Int32) h)
def f_X8_drip (y : Lay) (a0 : Nat) (a1 : Int32) (a2 : Int32) (M : Mem) : Option (Int32 × Mem) := fixN (fun _ _ _ => none) (fun (s4 : Int32 → Int32 → Mem → Option (Int32 × Mem)) (v1 : Int32) (v2 : Int32) (M3 : Mem) => gK y a0 (0, 8) (gN (y.2.1 a0 0) (gK y (y.2.1 a0 0) (0, 1) (cp (f_X1_cells y (y.2.1 a0 0) M3) fun (r9 : Int32) => br (r9 ≤ v2) (some (0, M3)) (jn (fun (v12 : Int32) (M13 : Mem) => lt (v2 + (1 : Int32)) fun (v15 : Int32) => s4 v12 v15 M13) fun j14 => br (v2 ≤ a1) (j14 v1 M3) (cp (f_X1_columnOf y (y.2.1 a0 0) v2 M3) fun (r18 : Int32) => cp (f_X1_columnOf y (y.2.1 a0 0) a1 M3) fun (r19 : Int32) => br (r18 = r19) (c0 (f_X8_addBlue y a0 v2 v1 M3) fun (r22 : Int32) (M23 : Mem) => gd (¬ (2 : Int32) = 0) (lt (v1 / (2 : Int32)) fun (v25 : Int32) => j14 v25 M23)) (j14 v1 M3))))))) FUEL a2 (0 : Int32) M
theorem w_X8_drip {g : GX} {l : Launch} (hG : GF g l) (y : Lay) (a0 : Nat) (a1 : Int32) (a2 : Int32) (M : Mem) : C0 g l yX8_drip cX8_drip 5 none 2 y [.ref a0, .int a1, .int a2] M (f_X8_drip y a0 a1 a2 M) := by
  refine C0_of hG (by decide) [some (.ref a0), some (.int a1), some (.int a2), none, none] rfl rfl (fun out h x Q C R => ?_)
  unfold f_X8_drip at h
  refine g_iload_n C tb_X8_drip_0_ok (i := 0) rfl rfl ?_
  refine g_istore_n C tb_X8_drip_0_ok (i := 1) rfl rfl rfl ?_
  refine g_iconstv C tb_X8_drip_0_ok (i := 2) 0 rfl k_iconstv_0 ?_
  refine g_istore C tb_X8_drip_0_ok (i := 3) rfl rfl rfl ?_
  refine g_less (L' := [some (.ref a0), some (.int a1), none, some (.int a2), some (.int (0 : Int32))]) ⟨rfl, ⟨rfl, ⟨rfl, ⟨rfl, trivial⟩⟩⟩⟩ ?_
  refine fix_i (P := fun (f : Int32 → Int32 → Mem → Option (Int32 × Mem)) => ∀ (v1 : Int32) (v2 : Int32) (M3 : Mem), f v1 v2 M3 = some out → GG g x 5 Q 0 0 y M3 5 [some (.ref a0), some (.int a1), none, some (.int v1), some (.int v2)] []) ?_ ?_ _ a2 (0 : Int32) M h
  · intro v1 v2 M3 h; exact (nn_e h).elim
  · intro s4 ih5 v1 v2 M3 h
    refine g_iload C tb_X8_drip_0_ok (i := 4) rfl rfl ?_
    refine g_aload_n C tb_X8_drip_0_ok (i := 5) rfl rfl ?_
    obtain ⟨k6, h⟩ := gK_e h
    obtain ⟨n7, h⟩ := gN_e h
    refine g_getR C tb_X8_drip_0_ok (i := 6) rfl fl_X8_32 rfl k6 n7 ?_
    obtain ⟨k8, h⟩ := gK_e h
    obtain ⟨r9, er9, h⟩ := cp_e h
    refine g_callV0 C tb_X8_drip_0_ok (i := 7) [] rfl mw_X1_cells mv_X1_cells ml_X8_147 k8 rfl rfl rfl rfl (w_X1_cells C.G y (y.2.1 a0 0) M3) (pm_s er9) rfl rfl rfl ?_
    obtain ⟨t10, f11⟩ := br_e h
    refine g_icmp_ge C tb_X8_drip_0_ok (i := 8) 60 rfl rfl (fun c => ?_) (fun c => ?_)
    · have h := t10 c
      cases h
      exact g_vret0 C R tb_X8_drip_0_ok (i := 31) rfl
    · have h := f11 c
      refine g_iload C tb_X8_drip_0_ok (i := 9) rfl rfl ?_
      refine g_iload_n C tb_X8_drip_0_ok (i := 10) rfl rfl ?_
      obtain ⟨j14, ej14, h⟩ := jn_e h
      have J54 : ∀ (v12 : Int32) (M13 : Mem), j14 v12 M13 = some out → GG g x 5 Q 0 0 y M13 54 [some (.ref a0), some (.int a1), none, some (.int v12), some (.int v2)] [] := by
        intro v12 M13 h; subst ej14
        obtain ⟨v15, ev15⟩ : ∃ w : Int32, w = v2 + (1 : Int32) := ⟨_, rfl⟩
        have h := lt_e ev15 h
        refine g_iincv C tb_X8_drip_0_ok (i := 29) (1 : Int32) ev15 rfl rfl k_iconstv_1 rfl rfl ?_
        refine g_goto C tb_X8_drip_0_ok (i := 30) 5 rfl rfl ?_
        exact g_less (L' := [some (.ref a0), some (.int a1), none, some (.int v12), some (.int v15)]) ⟨rfl, ⟨rfl, ⟨rfl, ⟨rfl, trivial⟩⟩⟩⟩ (ih5 v12 v15 M13 h)
      obtain ⟨t16, f17⟩ := br_e h
      refine g_icmp_le C tb_X8_drip_0_ok (i := 11) 54 rfl rfl (fun c => ?_) (fun c => ?_)
      · have h := t16 c
        exact g_less (L' := [some (.ref a0), some (.int a1), none, some (.int v1), some (.int v2)]) ⟨rfl, ⟨rfl, ⟨rfl, ⟨rfl, trivial⟩⟩⟩⟩ (J54 v1 M3 h)
      · have h := f17 c
        refine g_aload_n C tb_X8_drip_0_ok (i := 12) rfl rfl ?_
        refine g_getR C tb_X8_drip_0_ok (i := 13) rfl fl_X8_32 rfl k6 n7 ?_
        refine g_iload C tb_X8_drip_0_ok (i := 14) rfl rfl ?_
        obtain ⟨r18, er18, h⟩ := cp_e h
        refine g_callV0 C tb_X8_drip_0_ok (i := 15) [.int v2] rfl mw_X1_columnOf mv_X1_columnOf ml_X8_151 k8 rfl rfl rfl rfl (w_X1_columnOf C.G y (y.2.1 a0 0) v2 M3) (pm_s er18) rfl rfl rfl ?_
        refine g_aload_n C tb_X8_drip_0_ok (i := 16) rfl rfl ?_
        refine g_getR C tb_X8_drip_0_ok (i := 17) rfl fl_X8_32 rfl k6 n7 ?_
        refine g_iload_n C tb_X8_drip_0_ok (i := 18) rfl rfl ?_
        obtain ⟨r19, er19, h⟩ := cp_e h
        refine g_callV0 C tb_X8_drip_0_ok (i := 19) [.int a1] rfl mw_X1_columnOf mv_X1_columnOf ml_X8_151 k8 rfl rfl rfl rfl (w_X1_columnOf C.G y (y.2.1 a0 0) a1 M3) (pm_s er19) rfl rfl rfl ?_
        obtain ⟨t20, f21⟩ := br_e h
        refine g_icmp_ne C tb_X8_drip_0_ok (i := 20) 54 rfl rfl (fun c => ?_) (fun c => ?_)
        · have h := f21 c
          exact g_less (L' := [some (.ref a0), some (.int a1), none, some (.int v1), some (.int v2)]) ⟨rfl, ⟨rfl, ⟨rfl, ⟨rfl, trivial⟩⟩⟩⟩ (J54 v1 M3 h)
        · have h := t20 c
          refine g_aload_n C tb_X8_drip_0_ok (i := 21) rfl rfl ?_
          refine g_iload C tb_X8_drip_0_ok (i := 22) rfl rfl ?_
          refine g_iload_n C tb_X8_drip_0_ok (i := 23) rfl rfl ?_
          obtain ⟨r22, M23, er22, h⟩ := c0_e h
          refine g_callV0 C tb_X8_drip_0_ok (i := 24) [.int v2, .int v1] rfl mw_X8_addBlue mv_X8_addBlue ml_X8_135 k6 rfl rfl rfl rfl (w_X8_addBlue C.G y a0 v2 v1 M3) er22 rfl rfl rfl ?_
          refine g_iload_n C tb_X8_drip_0_ok (i := 25) rfl rfl ?_
          refine g_iconstv C tb_X8_drip_0_ok (i := 26) 2 rfl k_iconstv_2 ?_
          obtain ⟨n24, h⟩ := gd_e h
          refine g_idiv C tb_X8_drip_0_ok (i := 27) rfl n24 ?_
          refine g_topi (fun v25 ev25 => ?_)
          have h := lt_e ev25 h
          refine g_istore_n C tb_X8_drip_0_ok (i := 28) rfl rfl rfl ?_
          exact g_less (L' := [some (.ref a0), some (.int a1), none, some (.int v25), some (.int v2)]) ⟨rfl, ⟨rfl, ⟨rfl, ⟨rfl, trivial⟩⟩⟩⟩ (J54 v25 M23 h)
def f_X8_swish (y : Lay) (a0 : Nat) (a1 : Int32) (a2 : Int32) (M : Mem) : Option (Int32 × Mem) := gK y a0 (0, 8) (c0 (f_X8_dyeOf y a0 a1 a2 M) fun (r2 : Int32) (M3 : Mem) => cp (f_X8_spotOf y a0 a1 M3) fun (r4 : Int32) => c0 (f_X8_addBlue y a0 r4 r2 M3) fun (r5 : Int32) (M6 : Mem) => gN (y.2.1 a0 0) (gK y (y.2.1 a0 0) (0, 1) (cp (f_X1_isOld y (y.2.1 a0 0) a1 M6) fun (r9 : Int32) => jn (fun (M10 : Mem) => some (0, M10)) fun j11 => br (r9 = 0) (cp (f_X1_besideBits y (y.2.1 a0 0) r4 M6) fun (r14 : Int32) => fixN (fun _ _ => none) (fun (s17 : Int32 → Mem → Option (Int32 × Mem)) (v15 : Int32) (M16 : Mem) => cp (f_X1_cells y (y.2.1 a0 0) M16) fun (r19 : Int32) => br (r19 ≤ v15) (j11 M16) (jn (fun (M22 : Mem) => lt (v15 + (1 : Int32)) fun (v24 : Int32) => s17 v24 M22) fun j23 => br (((r14 >>> (v15 &&& 31)) &&& (1 : Int32)) = 0) (j23 M16) (gd (¬ (2 : Int32) = 0) (c0 (f_X8_addBlue y a0 v15 (r2 / (2 : Int32)) M16) fun (r28 : Int32) (M29 : Mem) => j23 M29)))) FUEL (0 : Int32) M6) (gd (¬ (2 : Int32) = 0) (c0 (f_X8_drip y a0 r4 (r2 / (2 : Int32)) M6) fun (r31 : Int32) (M32 : Mem) => j11 M32)))))
theorem w_X8_swish {g : GX} {l : Launch} (hG : GF g l) (y : Lay) (a0 : Nat) (a1 : Int32) (a2 : Int32) (M : Mem) : C0 g l yX8_swish cX8_swish 7 none 3 y [.ref a0, .int a1, .int a2] M (f_X8_swish y a0 a1 a2 M) := by
  refine C0_of hG (by decide) [some (.ref a0), some (.int a1), some (.int a2), none, none, none, none] rfl rfl (fun out h x Q C R => ?_)
  unfold f_X8_swish at h
  refine g_aload_n C tb_X8_swish_0_ok (i := 0) rfl rfl ?_
  refine g_iload_n C tb_X8_swish_0_ok (i := 1) rfl rfl ?_
  refine g_iload_n C tb_X8_swish_0_ok (i := 2) rfl rfl ?_
  obtain ⟨k1, h⟩ := gK_e h
  obtain ⟨r2, M3, er2, h⟩ := c0_e h
  refine g_callV0 C tb_X8_swish_0_ok (i := 3) [.int a1, .int a2] rfl mw_X8_dyeOf mv_X8_dyeOf ml_X8_129 k1 rfl rfl rfl rfl (w_X8_dyeOf C.G y a0 a1 a2 M) er2 rfl rfl rfl ?_
  refine g_istore_n C tb_X8_swish_0_ok (i := 4) rfl rfl rfl ?_
  refine g_aload_n C tb_X8_swish_0_ok (i := 5) rfl rfl ?_
  refine g_iload_n C tb_X8_swish_0_ok (i := 6) rfl rfl ?_
  obtain ⟨r4, er4, h⟩ := cp_e h
  refine g_callV0 C tb_X8_swish_0_ok (i := 7) [.int a1] rfl mw_X8_spotOf mv_X8_spotOf ml_X8_132 k1 rfl rfl rfl rfl (w_X8_spotOf C.G y a0 a1 M3) (pm_s er4) rfl rfl rfl ?_
  refine g_istore C tb_X8_swish_0_ok (i := 8) rfl rfl rfl ?_
  refine g_aload_n C tb_X8_swish_0_ok (i := 9) rfl rfl ?_
  refine g_iload C tb_X8_swish_0_ok (i := 10) rfl rfl ?_
  refine g_iload_n C tb_X8_swish_0_ok (i := 11) rfl rfl ?_
  obtain ⟨r5, M6, er5, h⟩ := c0_e h
  refine g_callV0 C tb_X8_swish_0_ok (i := 12) [.int r4, .int r2] rfl mw_X8_addBlue mv_X8_addBlue ml_X8_135 k1 rfl rfl rfl rfl (w_X8_addBlue C.G y a0 r4 r2 M3) er5 rfl rfl rfl ?_
  refine g_aload_n C tb_X8_swish_0_ok (i := 13) rfl rfl ?_
  obtain ⟨n7, h⟩ := gN_e h
  refine g_getR C tb_X8_swish_0_ok (i := 14) rfl fl_X8_32 rfl k1 n7 ?_
  refine g_iload_n C tb_X8_swish_0_ok (i := 15) rfl rfl ?_
  obtain ⟨k8, h⟩ := gK_e h
  obtain ⟨r9, er9, h⟩ := cp_e h
  refine g_callV0 C tb_X8_swish_0_ok (i := 16) [.int a1] rfl mw_X1_isOld mv_X1_isOld ml_X8_138 k8 rfl rfl rfl rfl (w_X1_isOld C.G y (y.2.1 a0 0) a1 M6) (pm_s er9) rfl rfl rfl ?_
  obtain ⟨j11, ej11, h⟩ := jn_e h
  have J95 : ∀ (M10 : Mem), j11 M10 = some out → GG g x 7 Q 0 0 y M10 95 [none, none, none, none, none, none, none] [] := by
    intro M10 h; subst ej11
    cases h
    exact g_vret0 C R tb_X8_swish_1_ok (i := 11) rfl
  obtain ⟨t12, f13⟩ := br_e h
  refine g_if_eq C tb_X8_swish_0_ok (i := 17) 44 rfl rfl (fun c => ?_) (fun c => ?_)
  · have h := t12 c
    refine g_aload_n C tb_X8_swish_0_ok (i := 25) rfl rfl ?_
    refine g_getR C tb_X8_swish_0_ok (i := 26) rfl fl_X8_32 rfl k1 n7 ?_
    refine g_iload C tb_X8_swish_0_ok (i := 27) rfl rfl ?_
    obtain ⟨r14, er14, h⟩ := cp_e h
    refine g_callV0 C tb_X8_swish_0_ok (i := 28) [.int r4] rfl mw_X1_besideBits mv_X1_besideBits ml_X8_144 k8 rfl rfl rfl rfl (w_X1_besideBits C.G y (y.2.1 a0 0) r4 M6) (pm_s er14) rfl rfl rfl ?_
    refine g_istore C tb_X8_swish_0_ok (i := 29) rfl rfl rfl ?_
    refine g_iconstv C tb_X8_swish_0_ok (i := 30) 0 rfl k_iconstv_0 ?_
    refine g_istore C tb_X8_swish_0_ok (i := 31) rfl rfl rfl ?_
    refine g_less (L' := [some (.ref a0), none, none, some (.int r2), none, some (.int r14), some (.int (0 : Int32))]) ⟨rfl, ⟨rfl, ⟨rfl, ⟨rfl, trivial⟩⟩⟩⟩ ?_
    refine fix_i (P := fun (f : Int32 → Mem → Option (Int32 × Mem)) => ∀ (v15 : Int32) (M16 : Mem), f v15 M16 = some out → GG g x 7 Q 0 0 y M16 58 [some (.ref a0), none, none, some (.int r2), none, some (.int r14), some (.int v15)] []) ?_ ?_ _ (0 : Int32) M6 h
    · intro v15 M16 h; exact (nn_e h).elim
    · intro s17 ih18 v15 M16 h
      refine g_iload C tb_X8_swish_0_ok (i := 32) rfl rfl ?_
      refine g_aload_n C tb_X8_swish_0_ok (i := 33) rfl rfl ?_
      refine g_getR C tb_X8_swish_0_ok (i := 34) rfl fl_X8_32 rfl k1 n7 ?_
      obtain ⟨r19, er19, h⟩ := cp_e h
      refine g_callV0 C tb_X8_swish_0_ok (i := 35) [] rfl mw_X1_cells mv_X1_cells ml_X8_147 k8 rfl rfl rfl rfl (w_X1_cells C.G y (y.2.1 a0 0) M16) (pm_s er19) rfl rfl rfl ?_
      obtain ⟨t20, f21⟩ := br_e h
      refine g_icmp_ge C tb_X8_swish_0_ok (i := 36) 95 rfl rfl (fun c => ?_) (fun c => ?_)
      · have h := t20 c
        exact g_less (L' := [none, none, none, none, none, none, none]) trivial (J95 M16 h)
      · have h := f21 c
        refine g_iload C tb_X8_swish_0_ok (i := 37) rfl rfl ?_
        refine g_iload C tb_X8_swish_0_ok (i := 38) rfl rfl ?_
        refine g_ishr C tb_X8_swish_0_ok (i := 39) rfl ?_
        refine g_iconstv C tb_X8_swish_1_ok (i := 0) 1 rfl k_iconstv_1 ?_
        refine g_iand C tb_X8_swish_1_ok (i := 1) rfl ?_
        obtain ⟨j23, ej23, h⟩ := jn_e h
        have J89 : ∀ (M22 : Mem), j23 M22 = some out → GG g x 7 Q 0 0 y M22 89 [some (.ref a0), none, none, some (.int r2), none, some (.int r14), some (.int v15)] [] := by
          intro M22 h; subst ej23
          obtain ⟨v24, ev24⟩ : ∃ w : Int32, w = v15 + (1 : Int32) := ⟨_, rfl⟩
          have h := lt_e ev24 h
          refine g_iincv C tb_X8_swish_1_ok (i := 9) (1 : Int32) ev24 rfl rfl k_iconstv_1 rfl rfl ?_
          refine g_goto C tb_X8_swish_1_ok (i := 10) 58 rfl rfl ?_
          exact g_less (L' := [some (.ref a0), none, none, some (.int r2), none, some (.int r14), some (.int v24)]) ⟨rfl, ⟨rfl, ⟨rfl, ⟨rfl, trivial⟩⟩⟩⟩ (ih18 v24 M22 h)
        obtain ⟨t25, f26⟩ := br_e h
        refine g_if_eq C tb_X8_swish_1_ok (i := 2) 89 rfl rfl (fun c => ?_) (fun c => ?_)
        · have h := t25 c
          exact g_less (L' := [some (.ref a0), none, none, some (.int r2), none, some (.int r14), some (.int v15)]) ⟨rfl, ⟨rfl, ⟨rfl, ⟨rfl, trivial⟩⟩⟩⟩ (J89 M16 h)
        · have h := f26 c
          refine g_aload_n C tb_X8_swish_1_ok (i := 3) rfl rfl ?_
          refine g_iload C tb_X8_swish_1_ok (i := 4) rfl rfl ?_
          refine g_iload_n C tb_X8_swish_1_ok (i := 5) rfl rfl ?_
          refine g_iconstv C tb_X8_swish_1_ok (i := 6) 2 rfl k_iconstv_2 ?_
          obtain ⟨n27, h⟩ := gd_e h
          refine g_idiv C tb_X8_swish_1_ok (i := 7) rfl n27 ?_
          obtain ⟨r28, M29, er28, h⟩ := c0_e h
          refine g_callV0 C tb_X8_swish_1_ok (i := 8) [.int v15, .int (r2 / (2 : Int32))] rfl mw_X8_addBlue mv_X8_addBlue ml_X8_135 k1 rfl rfl rfl rfl (w_X8_addBlue C.G y a0 v15 (r2 / (2 : Int32)) M16) er28 rfl rfl rfl ?_
          exact g_less (L' := [some (.ref a0), none, none, some (.int r2), none, some (.int r14), some (.int v15)]) ⟨rfl, ⟨rfl, ⟨rfl, ⟨rfl, trivial⟩⟩⟩⟩ (J89 M29 h)
  · have h := f13 c
    refine g_aload_n C tb_X8_swish_0_ok (i := 18) rfl rfl ?_
    refine g_iload C tb_X8_swish_0_ok (i := 19) rfl rfl ?_
    refine g_iload_n C tb_X8_swish_0_ok (i := 20) rfl rfl ?_
    refine g_iconstv C tb_X8_swish_0_ok (i := 21) 2 rfl k_iconstv_2 ?_
    obtain ⟨n30, h⟩ := gd_e h
    refine g_idiv C tb_X8_swish_0_ok (i := 22) rfl n30 ?_
    obtain ⟨r31, M32, er31, h⟩ := c0_e h
    refine g_callV0 C tb_X8_swish_0_ok (i := 23) [.int r4, .int (r2 / (2 : Int32))] rfl mw_X8_drip mv_X8_drip ml_X8_141 k1 rfl rfl rfl rfl (w_X8_drip C.G y a0 r4 (r2 / (2 : Int32)) M6) er31 rfl rfl rfl ?_
    refine g_goto C tb_X8_swish_0_ok (i := 24) 95 rfl rfl ?_
    exact g_less (L' := [none, none, none, none, none, none, none]) trivial (J95 M32 h)
def f_J6_bitCount_0f7a4 (y : Lay) (a0 : Int32) (M : Mem) : Option Int32 := lt (a0 - (((a0.toUInt32 >>> ((1 : Int32).toUInt32 &&& Int32.toUInt32 31)).toInt32) &&& (1431655765 : Int32))) fun (v1 : Int32) => lt ((v1 &&& (858993459 : Int32)) + (((v1.toUInt32 >>> ((2 : Int32).toUInt32 &&& Int32.toUInt32 31)).toInt32) &&& (858993459 : Int32))) fun (v2 : Int32) => lt ((v2 + ((v2.toUInt32 >>> ((4 : Int32).toUInt32 &&& Int32.toUInt32 31)).toInt32)) &&& (252645135 : Int32)) fun (v3 : Int32) => lt (v3 + ((v3.toUInt32 >>> ((8 : Int32).toUInt32 &&& Int32.toUInt32 31)).toInt32)) fun (v4 : Int32) => lt (v4 + ((v4.toUInt32 >>> ((16 : Int32).toUInt32 &&& Int32.toUInt32 31)).toInt32)) fun (v5 : Int32) => some (v5 &&& (63 : Int32))
theorem w_J6_bitCount_0f7a4 {g : GX} {l : Launch} (hG : GF g l) (y : Lay) (a0 : Int32) (M : Mem) : C0 g l yJ6_bitCount_0f7a4 cJ6_bitCount_0f7a4 1 (some .int) 0 y [.int a0] M (pm M (f_J6_bitCount_0f7a4 y a0 M)) := by
  refine CP_of hG (by decide) [some (.int a0)] rfl rfl (fun out h x Q C R => ?_)
  unfold f_J6_bitCount_0f7a4 at h
  refine g_iload_n C tb_J6_bitCount_0f7a4_0_ok (i := 0) rfl rfl ?_
  refine g_iload_n C tb_J6_bitCount_0f7a4_0_ok (i := 1) rfl rfl ?_
  refine g_iconstv C tb_J6_bitCount_0f7a4_0_ok (i := 2) 1 rfl k_iconstv_1 ?_
  refine g_iushr C tb_J6_bitCount_0f7a4_0_ok (i := 3) rfl ?_
  refine g_ldcIw C tb_J6_bitCount_0f7a4_0_ok (i := 4) rfl cl_J6_265 ?_
  refine g_iand C tb_J6_bitCount_0f7a4_0_ok (i := 5) rfl ?_
  refine g_isub C tb_J6_bitCount_0f7a4_0_ok (i := 6) rfl ?_
  refine g_topi (fun v1 ev1 => ?_)
  have h := lt_e ev1 h
  refine g_istore_n C tb_J6_bitCount_0f7a4_0_ok (i := 7) rfl rfl rfl ?_
  refine g_iload_n C tb_J6_bitCount_0f7a4_0_ok (i := 8) rfl rfl ?_
  refine g_ldcIw C tb_J6_bitCount_0f7a4_0_ok (i := 9) rfl cl_J6_266 ?_
  refine g_iand C tb_J6_bitCount_0f7a4_0_ok (i := 10) rfl ?_
  refine g_iload_n C tb_J6_bitCount_0f7a4_0_ok (i := 11) rfl rfl ?_
  refine g_iconstv C tb_J6_bitCount_0f7a4_0_ok (i := 12) 2 rfl k_iconstv_2 ?_
  refine g_iushr C tb_J6_bitCount_0f7a4_0_ok (i := 13) rfl ?_
  refine g_ldcIw C tb_J6_bitCount_0f7a4_0_ok (i := 14) rfl cl_J6_266 ?_
  refine g_iand C tb_J6_bitCount_0f7a4_0_ok (i := 15) rfl ?_
  refine g_iadd C tb_J6_bitCount_0f7a4_0_ok (i := 16) rfl ?_
  refine g_topi (fun v2 ev2 => ?_)
  have h := lt_e ev2 h
  refine g_istore_n C tb_J6_bitCount_0f7a4_0_ok (i := 17) rfl rfl rfl ?_
  refine g_iload_n C tb_J6_bitCount_0f7a4_0_ok (i := 18) rfl rfl ?_
  refine g_iload_n C tb_J6_bitCount_0f7a4_0_ok (i := 19) rfl rfl ?_
  refine g_iconstv C tb_J6_bitCount_0f7a4_0_ok (i := 20) 4 rfl k_iconstv_4 ?_
  refine g_iushr C tb_J6_bitCount_0f7a4_0_ok (i := 21) rfl ?_
  refine g_iadd C tb_J6_bitCount_0f7a4_0_ok (i := 22) rfl ?_
  refine g_ldcIw C tb_J6_bitCount_0f7a4_0_ok (i := 23) rfl cl_J6_267 ?_
  refine g_iand C tb_J6_bitCount_0f7a4_0_ok (i := 24) rfl ?_
  refine g_topi (fun v3 ev3 => ?_)
  have h := lt_e ev3 h
  refine g_istore_n C tb_J6_bitCount_0f7a4_0_ok (i := 25) rfl rfl rfl ?_
  refine g_iload_n C tb_J6_bitCount_0f7a4_0_ok (i := 26) rfl rfl ?_
  refine g_iload_n C tb_J6_bitCount_0f7a4_0_ok (i := 27) rfl rfl ?_
  refine g_bipushv C tb_J6_bitCount_0f7a4_0_ok (i := 28) 8 rfl k_bipushv_8 ?_
  refine g_iushr C tb_J6_bitCount_0f7a4_0_ok (i := 29) rfl ?_
  refine g_iadd C tb_J6_bitCount_0f7a4_0_ok (i := 30) rfl ?_
  refine g_topi (fun v4 ev4 => ?_)
  have h := lt_e ev4 h
  refine g_istore_n C tb_J6_bitCount_0f7a4_0_ok (i := 31) rfl rfl rfl ?_
  refine g_iload_n C tb_J6_bitCount_0f7a4_0_ok (i := 32) rfl rfl ?_
  refine g_iload_n C tb_J6_bitCount_0f7a4_0_ok (i := 33) rfl rfl ?_
  refine g_bipushv C tb_J6_bitCount_0f7a4_0_ok (i := 34) 16 rfl k_bipushv_16 ?_
  refine g_iushr C tb_J6_bitCount_0f7a4_0_ok (i := 35) rfl ?_
  refine g_iadd C tb_J6_bitCount_0f7a4_0_ok (i := 36) rfl ?_
  refine g_topi (fun v5 ev5 => ?_)
  have h := lt_e ev5 h
  refine g_istore_n C tb_J6_bitCount_0f7a4_0_ok (i := 37) rfl rfl rfl ?_
  refine g_iload_n C tb_J6_bitCount_0f7a4_0_ok (i := 38) rfl rfl ?_
  refine g_bipushv C tb_J6_bitCount_0f7a4_0_ok (i := 39) 63 rfl k_bipushv_63 ?_
  refine g_iand C tb_J6_bitCount_0f7a4_1_ok (i := 0) rfl ?_
  cases h
  exact g_iret0 C R tb_J6_bitCount_0f7a4_1_ok (i := 1) rfl
def f_X8_markOverdone (y : Lay) (a0 : Nat) (M : Mem) : Option (Int32 × Mem) := gK y a0 (0, 8) (lt (wI M a0 12 (0 : Int32)) fun (M2 : Mem) => fixN (fun _ _ => none) (fun (s5 : Int32 → Mem → Option (Int32 × Mem)) (v3 : Int32) (M4 : Mem) => br ((30 : Int32) ≤ v3) (cp (f_J6_bitCount_0f7a4 y (M4.1 a0 12) M4) fun (r9 : Int32) => lt (wI M4 a0 10 (jmin (9999 : Int32) ((M4.1 a0 10) + r9))) fun (M10 : Mem) => some (0, M10)) (gN (y.2.1 a0 1) (gA y (y.2.1 a0 1) 1 v3 (gN (y.2.1 a0 0) (gK y (y.2.1 a0 0) (0, 1) (jn (fun (M15 : Mem) => lt (v3 + (1 : Int32)) fun (v17 : Int32) => s5 v17 M15) fun j16 => br ((M4.1 (y.2.1 a0 1) v3.toNatClampNeg) ≤ (M4.1 (y.2.1 a0 0) 3)) (j16 M4) (lt (wI M4 a0 12 ((M4.1 a0 12) ||| ((1 : Int32) <<< (v3 &&& 31)))) fun (M20 : Mem) => j16 M20))))))) FUEL (0 : Int32) M2)
theorem w_X8_markOverdone {g : GX} {l : Launch} (hG : GF g l) (y : Lay) (a0 : Nat) (M : Mem) : C0 g l yX8_markOverdone cX8_markOverdone 2 none 1 y [.ref a0] M (f_X8_markOverdone y a0 M) := by
  refine C0_of hG (by decide) [some (.ref a0), none] rfl rfl (fun out h x Q C R => ?_)
  unfold f_X8_markOverdone at h
  refine g_aload_n C tb_X8_markOverdone_0_ok (i := 0) rfl rfl ?_
  refine g_iconstv C tb_X8_markOverdone_0_ok (i := 1) 0 rfl k_iconstv_0 ?_
  obtain ⟨k1, h⟩ := gK_e h
  refine g_putI C tb_X8_markOverdone_0_ok (i := 2) rfl fl_X8_55 ft_8_12 rfl k1 ?_
  refine g_mem (fun M2 eM2 => ?_)
  have h := lt_e eM2 h
  refine g_iconstv C tb_X8_markOverdone_0_ok (i := 3) 0 rfl k_iconstv_0 ?_
  refine g_istore_n C tb_X8_markOverdone_0_ok (i := 4) rfl rfl rfl ?_
  refine g_less (L' := [some (.ref a0), some (.int (0 : Int32))]) ⟨rfl, ⟨rfl, trivial⟩⟩ ?_
  refine fix_i (P := fun (f : Int32 → Mem → Option (Int32 × Mem)) => ∀ (v3 : Int32) (M4 : Mem), f v3 M4 = some out → GG g x 2 Q 0 0 y M4 7 [some (.ref a0), some (.int v3)] []) ?_ ?_ _ (0 : Int32) M2 h
  · intro v3 M4 h; exact (nn_e h).elim
  · intro s5 ih6 v3 M4 h
    refine g_iload_n C tb_X8_markOverdone_0_ok (i := 5) rfl rfl ?_
    refine g_bipushv C tb_X8_markOverdone_0_ok (i := 6) 30 rfl k_bipushv_30 ?_
    obtain ⟨t7, f8⟩ := br_e h
    refine g_icmp_ge C tb_X8_markOverdone_0_ok (i := 7) 47 rfl rfl (fun c => ?_) (fun c => ?_)
    · have h := t7 c
      refine g_aload_n C tb_X8_markOverdone_0_ok (i := 26) rfl rfl ?_
      refine g_sipushv C tb_X8_markOverdone_0_ok (i := 27) 9999 rfl k_sipushv_9999 ?_
      refine g_aload_n C tb_X8_markOverdone_0_ok (i := 28) rfl rfl ?_
      refine g_getI C tb_X8_markOverdone_0_ok (i := 29) rfl fl_X8_49 rfl k1 ?_
      refine g_aload_n C tb_X8_markOverdone_0_ok (i := 30) rfl rfl ?_
      refine g_getI C tb_X8_markOverdone_0_ok (i := 31) rfl fl_X8_55 rfl k1 ?_
      obtain ⟨r9, er9, h⟩ := cp_e h
      refine g_callS0 C tb_X8_markOverdone_0_ok (i := 32) [.int (M4.1 a0 12)] rfl mw_J6_bitCount_0f7a4 mst_J6_bitCount_0f7a4 ml_X8_101 rfl rfl rfl rfl (w_J6_bitCount_0f7a4 C.G y (M4.1 a0 12) M4) (pm_s er9) rfl rfl rfl ?_
      refine g_iadd C tb_X8_markOverdone_0_ok (i := 33) rfl ?_
      refine g_min C tb_X8_markOverdone_0_ok (i := 34) rfl mt_X8_64 rfl rfl rfl ?_
      refine g_putI C tb_X8_markOverdone_0_ok (i := 35) rfl fl_X8_49 ft_8_10 rfl k1 ?_
      refine g_mem (fun M10 eM10 => ?_)
      have h := lt_e eM10 h
      cases h
      exact g_vret0 C R tb_X8_markOverdone_0_ok (i := 36) rfl
    · have h := f8 c
      refine g_aload_n C tb_X8_markOverdone_0_ok (i := 8) rfl rfl ?_
      obtain ⟨n11, h⟩ := gN_e h
      refine g_getR C tb_X8_markOverdone_0_ok (i := 9) rfl fl_X8_9 rfl k1 n11 ?_
      refine g_iload_n C tb_X8_markOverdone_0_ok (i := 10) rfl rfl ?_
      obtain ⟨b12, h⟩ := gA_e h
      refine g_iald C tb_X8_markOverdone_0_ok (i := 11) rfl b12 ?_
      refine g_aload_n C tb_X8_markOverdone_0_ok (i := 12) rfl rfl ?_
      obtain ⟨n13, h⟩ := gN_e h
      refine g_getR C tb_X8_markOverdone_0_ok (i := 13) rfl fl_X8_32 rfl k1 n13 ?_
      obtain ⟨k14, h⟩ := gK_e h
      refine g_getI C tb_X8_markOverdone_0_ok (i := 14) rfl fl_X8_98 rfl k14 ?_
      obtain ⟨j16, ej16, h⟩ := jn_e h
      have J41 : ∀ (M15 : Mem), j16 M15 = some out → GG g x 2 Q 0 0 y M15 41 [some (.ref a0), some (.int v3)] [] := by
        intro M15 h; subst ej16
        obtain ⟨v17, ev17⟩ : ∃ w : Int32, w = v3 + (1 : Int32) := ⟨_, rfl⟩
        have h := lt_e ev17 h
        refine g_iincv C tb_X8_markOverdone_0_ok (i := 24) (1 : Int32) ev17 rfl rfl k_iconstv_1 rfl rfl ?_
        refine g_goto C tb_X8_markOverdone_0_ok (i := 25) 7 rfl rfl ?_
        exact g_less (L' := [some (.ref a0), some (.int v17)]) ⟨rfl, ⟨rfl, trivial⟩⟩ (ih6 v17 M15 h)
      obtain ⟨t18, f19⟩ := br_e h
      refine g_icmp_le C tb_X8_markOverdone_0_ok (i := 15) 41 rfl rfl (fun c => ?_) (fun c => ?_)
      · have h := t18 c
        exact g_less (L' := [some (.ref a0), some (.int v3)]) ⟨rfl, ⟨rfl, trivial⟩⟩ (J41 M4 h)
      · have h := f19 c
        refine g_aload_n C tb_X8_markOverdone_0_ok (i := 16) rfl rfl ?_
        refine g_dup C tb_X8_markOverdone_0_ok (i := 17) rfl rfl ?_
        refine g_getI C tb_X8_markOverdone_0_ok (i := 18) rfl fl_X8_55 rfl k1 ?_
        refine g_iconstv C tb_X8_markOverdone_0_ok (i := 19) 1 rfl k_iconstv_1 ?_
        refine g_iload_n C tb_X8_markOverdone_0_ok (i := 20) rfl rfl ?_
        refine g_ishl C tb_X8_markOverdone_0_ok (i := 21) rfl ?_
        refine g_ior C tb_X8_markOverdone_0_ok (i := 22) rfl ?_
        refine g_putI C tb_X8_markOverdone_0_ok (i := 23) rfl fl_X8_55 ft_8_12 rfl k1 ?_
        refine g_mem (fun M20 eM20 => ?_)
        have h := lt_e eM20 h
        exact g_less (L' := [some (.ref a0), some (.int v3)]) ⟨rfl, ⟨rfl, trivial⟩⟩ (J41 M20 h)
def f_X8_fadeOf (y : Lay) (a0 : Nat) (a1 : Int32) (M : Mem) : Option (Int32 × Mem) := gK y a0 (0, 8) (gN (y.2.1 a0 0) (gK y (y.2.1 a0 0) (0, 1) (gN (y.2.1 (y.2.1 a0 0) 8) (gK y (y.2.1 (y.2.1 a0 0) 8) (0, 5) (cp (f_X5_isTold y (y.2.1 (y.2.1 a0 0) 8) M) fun (r6 : Int32) => br (r6 = 0) (cp (f_X8_blueOf y a0 a1 M) fun (r18 : Int32) => gd (¬ (5 : Int32) = 0) (some ((r18 / (5 : Int32)), M))) (cp (f_X8_blueOf y a0 a1 M) fun (r9 : Int32) => br (r9 = 0) (some ((0 : Int32), M)) (c0 (f_X8_setValues y a0 a1 M) fun (r12 : Int32) (M13 : Mem) => cp (f_X8_blueOf y a0 a1 M13) fun (r14 : Int32) => gN (y.2.1 a0 6) (c0 (f_X5_worth y (y.2.1 (y.2.1 a0 0) 8) (y.2.1 a0 6) M13) fun (r16 : Int32) (M17 : Mem) => some ((jmax (0 : Int32) (jmin r14 r16)), M17)))))))))
theorem w_X8_fadeOf {g : GX} {l : Launch} (hG : GF g l) (y : Lay) (a0 : Nat) (a1 : Int32) (M : Mem) : C0 g l yX8_fadeOf cX8_fadeOf 2 (some .int) 2 y [.ref a0, .int a1] M (f_X8_fadeOf y a0 a1 M) := by
  refine C0_of hG (by decide) [some (.ref a0), some (.int a1)] rfl rfl (fun out h x Q C R => ?_)
  unfold f_X8_fadeOf at h
  refine g_aload_n C tb_X8_fadeOf_0_ok (i := 0) rfl rfl ?_
  obtain ⟨k1, h⟩ := gK_e h
  obtain ⟨n2, h⟩ := gN_e h
  refine g_getR C tb_X8_fadeOf_0_ok (i := 1) rfl fl_X8_32 rfl k1 n2 ?_
  obtain ⟨k3, h⟩ := gK_e h
  obtain ⟨n4, h⟩ := gN_e h
  refine g_getR C tb_X8_fadeOf_0_ok (i := 2) rfl fl_X8_110 rfl k3 n4 ?_
  obtain ⟨k5, h⟩ := gK_e h
  obtain ⟨r6, er6, h⟩ := cp_e h
  refine g_callV0 C tb_X8_fadeOf_0_ok (i := 3) [] rfl mw_X5_isTold mv_X5_isTold ml_X8_114 k5 rfl rfl rfl rfl (w_X5_isTold C.G y (y.2.1 (y.2.1 a0 0) 8) M) (pm_s er6) rfl rfl rfl ?_
  obtain ⟨t7, f8⟩ := br_e h
  refine g_if_ne C tb_X8_fadeOf_0_ok (i := 4) 21 rfl rfl (fun c => ?_) (fun c => ?_)
  · have h := f8 c
    refine g_aload_n C tb_X8_fadeOf_0_ok (i := 11) rfl rfl ?_
    refine g_iload_n C tb_X8_fadeOf_0_ok (i := 12) rfl rfl ?_
    obtain ⟨r9, er9, h⟩ := cp_e h
    refine g_callV0 C tb_X8_fadeOf_0_ok (i := 13) [.int a1] rfl mw_X8_blueOf mv_X8_blueOf ml_X8_118 k1 rfl rfl rfl rfl (w_X8_blueOf C.G y a0 a1 M) (pm_s er9) rfl rfl rfl ?_
    obtain ⟨t10, f11⟩ := br_e h
    refine g_if_ne C tb_X8_fadeOf_0_ok (i := 14) 31 rfl rfl (fun c => ?_) (fun c => ?_)
    · have h := f11 c
      refine g_aload_n C tb_X8_fadeOf_0_ok (i := 17) rfl rfl ?_
      refine g_iload_n C tb_X8_fadeOf_0_ok (i := 18) rfl rfl ?_
      obtain ⟨r12, M13, er12, h⟩ := c0_e h
      refine g_callV0 C tb_X8_fadeOf_0_ok (i := 19) [.int a1] rfl mw_X8_setValues mv_X8_setValues ml_X8_121 k1 rfl rfl rfl rfl (w_X8_setValues C.G y a0 a1 M) er12 rfl rfl rfl ?_
      refine g_iconstv C tb_X8_fadeOf_0_ok (i := 20) 0 rfl k_iconstv_0 ?_
      refine g_aload_n C tb_X8_fadeOf_0_ok (i := 21) rfl rfl ?_
      refine g_iload_n C tb_X8_fadeOf_0_ok (i := 22) rfl rfl ?_
      obtain ⟨r14, er14, h⟩ := cp_e h
      refine g_callV0 C tb_X8_fadeOf_0_ok (i := 23) [.int a1] rfl mw_X8_blueOf mv_X8_blueOf ml_X8_118 k1 rfl rfl rfl rfl (w_X8_blueOf C.G y a0 a1 M13) (pm_s er14) rfl rfl rfl ?_
      refine g_aload_n C tb_X8_fadeOf_0_ok (i := 24) rfl rfl ?_
      refine g_getR C tb_X8_fadeOf_0_ok (i := 25) rfl fl_X8_32 rfl k1 n2 ?_
      refine g_getR C tb_X8_fadeOf_0_ok (i := 26) rfl fl_X8_110 rfl k3 n4 ?_
      refine g_aload_n C tb_X8_fadeOf_0_ok (i := 27) rfl rfl ?_
      obtain ⟨n15, h⟩ := gN_e h
      refine g_getR C tb_X8_fadeOf_0_ok (i := 28) rfl fl_X8_29 rfl k1 n15 ?_
      obtain ⟨r16, M17, er16, h⟩ := c0_e h
      refine g_callV0 C tb_X8_fadeOf_0_ok (i := 29) [.ref (y.2.1 a0 6)] rfl mw_X5_worth mv_X5_worth ml_X8_125 k5 rfl rfl rfl rfl (w_X5_worth C.G y (y.2.1 (y.2.1 a0 0) 8) (y.2.1 a0 6) M13) er16 rfl rfl rfl ?_
      refine g_min C tb_X8_fadeOf_0_ok (i := 30) rfl mt_X8_64 rfl rfl rfl ?_
      refine g_max C tb_X8_fadeOf_0_ok (i := 31) rfl mt_X8_92 rfl rfl rfl ?_
      cases h
      exact g_iret0 C R tb_X8_fadeOf_0_ok (i := 32) rfl
    · have h := t10 c
      refine g_iconstv C tb_X8_fadeOf_0_ok (i := 15) 0 rfl k_iconstv_0 ?_
      cases h
      exact g_iret0 C R tb_X8_fadeOf_0_ok (i := 16) rfl
  · have h := t7 c
    refine g_aload_n C tb_X8_fadeOf_0_ok (i := 5) rfl rfl ?_
    refine g_iload_n C tb_X8_fadeOf_0_ok (i := 6) rfl rfl ?_
    obtain ⟨r18, er18, h⟩ := cp_e h
    refine g_callV0 C tb_X8_fadeOf_0_ok (i := 7) [.int a1] rfl mw_X8_blueOf mv_X8_blueOf ml_X8_118 k1 rfl rfl rfl rfl (w_X8_blueOf C.G y a0 a1 M) (pm_s er18) rfl rfl rfl ?_
    refine g_iconstv C tb_X8_fadeOf_0_ok (i := 8) 5 rfl k_iconstv_5 ?_
    obtain ⟨n19, h⟩ := gd_e h
    refine g_idiv C tb_X8_fadeOf_0_ok (i := 9) rfl n19 ?_
    cases h
    exact g_iret0 C R tb_X8_fadeOf_0_ok (i := 10) rfl
def f_X8_fade (y : Lay) (a0 : Nat) (M : Mem) : Option (Int32 × Mem) := fixN (fun _ _ => none) (fun (s3 : Int32 → Mem → Option (Int32 × Mem)) (v1 : Int32) (M2 : Mem) => br ((30 : Int32) ≤ v1) (fixN (fun _ _ => none) (fun (s9 : Int32 → Mem → Option (Int32 × Mem)) (v7 : Int32) (M8 : Mem) => br ((30 : Int32) ≤ v7) (some (0, M8)) (gK y a0 (0, 8) (gN (y.2.1 a0 1) (gA y (y.2.1 a0 1) 1 v7 (gN (y.2.1 a0 3) (gA y (y.2.1 a0 3) 1 v7 (gA y (y.2.1 a0 1) 1 v7 (lt (wI M8 (y.2.1 a0 1) v7.toNatClampNeg ((M8.1 (y.2.1 a0 1) v7.toNatClampNeg) - (M8.1 (y.2.1 a0 3) v7.toNatClampNeg))) fun (M19 : Mem) => lt (v7 + (1 : Int32)) fun (v20 : Int32) => s9 v20 M19)))))))) FUEL (0 : Int32) M2) (gK y a0 (0, 8) (gN (y.2.1 a0 3) (c0 (f_X8_fadeOf y a0 v1 M2) fun (r23 : Int32) (M24 : Mem) => gA y (y.2.1 a0 3) 1 v1 (lt (wI M24 (y.2.1 a0 3) v1.toNatClampNeg r23) fun (M26 : Mem) => lt (v1 + (1 : Int32)) fun (v27 : Int32) => s3 v27 M26))))) FUEL (0 : Int32) M
theorem w_X8_fade {g : GX} {l : Launch} (hG : GF g l) (y : Lay) (a0 : Nat) (M : Mem) : C0 g l yX8_fade cX8_fade 2 none 3 y [.ref a0] M (f_X8_fade y a0 M) := by
  refine C0_of hG (by decide) [some (.ref a0), none] rfl rfl (fun out h x Q C R => ?_)
  unfold f_X8_fade at h
  refine g_iconstv C tb_X8_fade_0_ok (i := 0) 0 rfl k_iconstv_0 ?_
  refine g_istore_n C tb_X8_fade_0_ok (i := 1) rfl rfl rfl ?_
  refine g_less (L' := [some (.ref a0), some (.int (0 : Int32))]) ⟨rfl, ⟨rfl, trivial⟩⟩ ?_
  refine fix_i (P := fun (f : Int32 → Mem → Option (Int32 × Mem)) => ∀ (v1 : Int32) (M2 : Mem), f v1 M2 = some out → GG g x 2 Q 0 0 y M2 2 [some (.ref a0), some (.int v1)] []) ?_ ?_ _ (0 : Int32) M h
  · intro v1 M2 h; exact (nn_e h).elim
  · intro s3 ih4 v1 M2 h
    refine g_iload_n C tb_X8_fade_0_ok (i := 2) rfl rfl ?_
    refine g_bipushv C tb_X8_fade_0_ok (i := 3) 30 rfl k_bipushv_30 ?_
    obtain ⟨t5, f6⟩ := br_e h
    refine g_icmp_ge C tb_X8_fade_0_ok (i := 4) 25 rfl rfl (fun c => ?_) (fun c => ?_)
    · have h := t5 c
      refine g_iconstv C tb_X8_fade_0_ok (i := 14) 0 rfl k_iconstv_0 ?_
      refine g_istore_n C tb_X8_fade_0_ok (i := 15) rfl rfl rfl ?_
      refine g_less (L' := [some (.ref a0), some (.int (0 : Int32))]) ⟨rfl, ⟨rfl, trivial⟩⟩ ?_
      refine fix_i (P := fun (f : Int32 → Mem → Option (Int32 × Mem)) => ∀ (v7 : Int32) (M8 : Mem), f v7 M8 = some out → GG g x 2 Q 0 0 y M8 27 [some (.ref a0), some (.int v7)] []) ?_ ?_ _ (0 : Int32) M2 h
      · intro v7 M8 h; exact (nn_e h).elim
      · intro s9 ih10 v7 M8 h
        refine g_iload_n C tb_X8_fade_0_ok (i := 16) rfl rfl ?_
        refine g_bipushv C tb_X8_fade_0_ok (i := 17) 30 rfl k_bipushv_30 ?_
        obtain ⟨t11, f12⟩ := br_e h
        refine g_icmp_ge C tb_X8_fade_0_ok (i := 18) 54 rfl rfl (fun c => ?_) (fun c => ?_)
        · have h := t11 c
          cases h
          exact g_vret0 C R tb_X8_fade_0_ok (i := 32) rfl
        · have h := f12 c
          refine g_aload_n C tb_X8_fade_0_ok (i := 19) rfl rfl ?_
          obtain ⟨k13, h⟩ := gK_e h
          obtain ⟨n14, h⟩ := gN_e h
          refine g_getR C tb_X8_fade_0_ok (i := 20) rfl fl_X8_9 rfl k13 n14 ?_
          refine g_iload_n C tb_X8_fade_0_ok (i := 21) rfl rfl ?_
          refine g_dup2 C tb_X8_fade_0_ok (i := 22) rfl rfl rfl ?_
          obtain ⟨b15, h⟩ := gA_e h
          refine g_iald C tb_X8_fade_0_ok (i := 23) rfl b15 ?_
          refine g_aload_n C tb_X8_fade_0_ok (i := 24) rfl rfl ?_
          obtain ⟨n16, h⟩ := gN_e h
          refine g_getR C tb_X8_fade_0_ok (i := 25) rfl fl_X8_18 rfl k13 n16 ?_
          refine g_iload_n C tb_X8_fade_0_ok (i := 26) rfl rfl ?_
          obtain ⟨b17, h⟩ := gA_e h
          refine g_iald C tb_X8_fade_0_ok (i := 27) rfl b17 ?_
          refine g_isub C tb_X8_fade_0_ok (i := 28) rfl ?_
          obtain ⟨b18, h⟩ := gA_e h
          refine g_iast C tb_X8_fade_0_ok (i := 29) rfl b18 ?_
          refine g_mem (fun M19 eM19 => ?_)
          have h := lt_e eM19 h
          obtain ⟨v20, ev20⟩ : ∃ w : Int32, w = v7 + (1 : Int32) := ⟨_, rfl⟩
          have h := lt_e ev20 h
          refine g_iincv C tb_X8_fade_0_ok (i := 30) (1 : Int32) ev20 rfl rfl k_iconstv_1 rfl rfl ?_
          refine g_goto C tb_X8_fade_0_ok (i := 31) 27 rfl rfl ?_
          exact g_less (L' := [some (.ref a0), some (.int v20)]) ⟨rfl, ⟨rfl, trivial⟩⟩ (ih10 v20 M19 h)
    · have h := f6 c
      refine g_aload_n C tb_X8_fade_0_ok (i := 5) rfl rfl ?_
      obtain ⟨k21, h⟩ := gK_e h
      obtain ⟨n22, h⟩ := gN_e h
      refine g_getR C tb_X8_fade_0_ok (i := 6) rfl fl_X8_18 rfl k21 n22 ?_
      refine g_iload_n C tb_X8_fade_0_ok (i := 7) rfl rfl ?_
      refine g_aload_n C tb_X8_fade_0_ok (i := 8) rfl rfl ?_
      refine g_iload_n C tb_X8_fade_0_ok (i := 9) rfl rfl ?_
      obtain ⟨r23, M24, er23, h⟩ := c0_e h
      refine g_callV0 C tb_X8_fade_0_ok (i := 10) [.int v1] rfl mw_X8_fadeOf mv_X8_fadeOf ml_X8_107 k21 rfl rfl rfl rfl (w_X8_fadeOf C.G y a0 v1 M2) er23 rfl rfl rfl ?_
      obtain ⟨b25, h⟩ := gA_e h
      refine g_iast C tb_X8_fade_0_ok (i := 11) rfl b25 ?_
      refine g_mem (fun M26 eM26 => ?_)
      have h := lt_e eM26 h
      obtain ⟨v27, ev27⟩ : ∃ w : Int32, w = v1 + (1 : Int32) := ⟨_, rfl⟩
      have h := lt_e ev27 h
      refine g_iincv C tb_X8_fade_0_ok (i := 12) (1 : Int32) ev27 rfl rfl k_iconstv_1 rfl rfl ?_
      refine g_goto C tb_X8_fade_0_ok (i := 13) 2 rfl rfl ?_
      exact g_less (L' := [some (.ref a0), some (.int v27)]) ⟨rfl, ⟨rfl, trivial⟩⟩ (ih4 v27 M26 h)
def f_X8_passDay (y : Lay) (a0 : Nat) (M : Mem) : Option (Int32 × Mem) := gK y a0 (0, 8) (gN (y.2.1 a0 1) (gN (y.2.1 a0 2) (gC y (y.2.1 a0 1) (y.2.1 a0 2) (0 : Int32) (0 : Int32) (30 : Int32) (lt (cpI M (y.2.1 a0 1) (y.2.1 a0 2) (0 : Int32).toNatClampNeg (0 : Int32).toNatClampNeg (30 : Int32).toNatClampNeg) fun (M5 : Mem) => fixN (fun _ _ => none) (fun (s8 : Int32 → Mem → Option (Int32 × Mem)) (v6 : Int32) (M7 : Mem) => gN (y.2.1 a0 0) (gK y (y.2.1 a0 0) (0, 1) (br ((M7.1 (y.2.1 a0 0) 4) ≤ v6) (c0 (f_X8_markOverdone y a0 M7) fun (r14 : Int32) (M15 : Mem) => fixN (fun _ _ => none) (fun (s18 : Int32 → Mem → Option (Int32 × Mem)) (v16 : Int32) (M17 : Mem) => br ((30 : Int32) ≤ v16) (c0 (f_X8_fade y a0 M17) fun (r22 : Int32) (M23 : Mem) => lt (wI M23 a0 11 ((M23.1 a0 11) + (1 : Int32))) fun (M24 : Mem) => some (0, M24)) (gA y (y.2.1 a0 1) 1 v16 (gA y (y.2.1 a0 1) 1 v16 (lt (wI M17 (y.2.1 a0 1) v16.toNatClampNeg (jmax (0 : Int32) ((M17.1 (y.2.1 a0 1) v16.toNatClampNeg) - (M17.1 (y.2.1 a0 0) 2)))) fun (M27 : Mem) => lt (v16 + (1 : Int32)) fun (v28 : Int32) => s18 v28 M27)))) FUEL (0 : Int32) M15) (cp (f_X8_isResting y a0 v6 M7) fun (r29 : Int32) => jn (fun (M30 : Mem) => lt (v6 + (1 : Int32)) fun (v32 : Int32) => s8 v32 M30) fun j31 => br (r29 = 0) (br ((M7.1 a0 9) ≤ 0) (j31 M7) (lt (wI M7 a0 9 ((M7.1 a0 9) - (1 : Int32))) fun (M37 : Mem) => c0 (f_X8_swish y a0 v6 (M37.1 a0 9) M37) fun (r38 : Int32) (M39 : Mem) => j31 M39)) (j31 M7))))) FUEL (0 : Int32) M5))))
theorem w_X8_passDay {g : GX} {l : Launch} (hG : GF g l) (y : Lay) (a0 : Nat) (M : Mem) : C0 g l yX8_passDay cX8_passDay 2 none 4 y [.ref a0] M (f_X8_passDay y a0 M) := by
  refine C0_of hG (by decide) [some (.ref a0), none] rfl rfl (fun out h x Q C R => ?_)
  unfold f_X8_passDay at h
  refine g_aload_n C tb_X8_passDay_0_ok (i := 0) rfl rfl ?_
  obtain ⟨k1, h⟩ := gK_e h
  obtain ⟨n2, h⟩ := gN_e h
  refine g_getR C tb_X8_passDay_0_ok (i := 1) rfl fl_X8_9 rfl k1 n2 ?_
  refine g_iconstv C tb_X8_passDay_0_ok (i := 2) 0 rfl k_iconstv_0 ?_
  refine g_aload_n C tb_X8_passDay_0_ok (i := 3) rfl rfl ?_
  obtain ⟨n3, h⟩ := gN_e h
  refine g_getR C tb_X8_passDay_0_ok (i := 4) rfl fl_X8_15 rfl k1 n3 ?_
  refine g_iconstv C tb_X8_passDay_0_ok (i := 5) 0 rfl k_iconstv_0 ?_
  refine g_bipushv C tb_X8_passDay_0_ok (i := 6) 30 rfl k_bipushv_30 ?_
  obtain ⟨b4, h⟩ := gC_e h
  refine g_copy C tb_X8_passDay_0_ok (i := 7) rfl mt_X8_58 rfl b4 ?_
  refine g_mem (fun M5 eM5 => ?_)
  have h := lt_e eM5 h
  refine g_iconstv C tb_X8_passDay_0_ok (i := 8) 0 rfl k_iconstv_0 ?_
  refine g_istore_n C tb_X8_passDay_0_ok (i := 9) rfl rfl rfl ?_
  refine g_less (L' := [some (.ref a0), some (.int (0 : Int32))]) ⟨rfl, ⟨rfl, trivial⟩⟩ ?_
  refine fix_i (P := fun (f : Int32 → Mem → Option (Int32 × Mem)) => ∀ (v6 : Int32) (M7 : Mem), f v6 M7 = some out → GG g x 2 Q 0 0 y M7 17 [some (.ref a0), some (.int v6)] []) ?_ ?_ _ (0 : Int32) M5 h
  · intro v6 M7 h; exact (nn_e h).elim
  · intro s8 ih9 v6 M7 h
    refine g_iload_n C tb_X8_passDay_0_ok (i := 10) rfl rfl ?_
    refine g_aload_n C tb_X8_passDay_0_ok (i := 11) rfl rfl ?_
    obtain ⟨n10, h⟩ := gN_e h
    refine g_getR C tb_X8_passDay_0_ok (i := 12) rfl fl_X8_32 rfl k1 n10 ?_
    obtain ⟨k11, h⟩ := gK_e h
    refine g_getI C tb_X8_passDay_0_ok (i := 13) rfl fl_X8_74 rfl k11 ?_
    obtain ⟨t12, f13⟩ := br_e h
    refine g_icmp_ge C tb_X8_passDay_0_ok (i := 14) 68 rfl rfl (fun c => ?_) (fun c => ?_)
    · have h := t12 c
      refine g_aload_n C tb_X8_passDay_0_ok (i := 35) rfl rfl ?_
      obtain ⟨r14, M15, er14, h⟩ := c0_e h
      refine g_callV0 C tb_X8_passDay_0_ok (i := 36) [] rfl mw_X8_markOverdone mv_X8_markOverdone ml_X8_86 k1 rfl rfl rfl rfl (w_X8_markOverdone C.G y a0 M7) er14 rfl rfl rfl ?_
      refine g_iconstv C tb_X8_passDay_0_ok (i := 37) 0 rfl k_iconstv_0 ?_
      refine g_istore_n C tb_X8_passDay_0_ok (i := 38) rfl rfl rfl ?_
      refine g_less (L' := [some (.ref a0), some (.int (0 : Int32))]) ⟨rfl, ⟨rfl, trivial⟩⟩ ?_
      refine fix_i (P := fun (f : Int32 → Mem → Option (Int32 × Mem)) => ∀ (v16 : Int32) (M17 : Mem), f v16 M17 = some out → GG g x 2 Q 0 0 y M17 74 [some (.ref a0), some (.int v16)] []) ?_ ?_ _ (0 : Int32) M15 h
      · intro v16 M17 h; exact (nn_e h).elim
      · intro s18 ih19 v16 M17 h
        refine g_iload_n C tb_X8_passDay_0_ok (i := 39) rfl rfl ?_
        refine g_bipushv C tb_X8_passDay_1_ok (i := 0) 30 rfl k_bipushv_30 ?_
        obtain ⟨t20, f21⟩ := br_e h
        refine g_icmp_ge C tb_X8_passDay_1_ok (i := 1) 110 rfl rfl (fun c => ?_) (fun c => ?_)
        · have h := t20 c
          refine g_aload_n C tb_X8_passDay_1_ok (i := 18) rfl rfl ?_
          obtain ⟨r22, M23, er22, h⟩ := c0_e h
          refine g_callV0 C tb_X8_passDay_1_ok (i := 19) [] rfl mw_X8_fade mv_X8_fade ml_X8_95 k1 rfl rfl rfl rfl (w_X8_fade C.G y a0 M17) er22 rfl rfl rfl ?_
          refine g_aload_n C tb_X8_passDay_1_ok (i := 20) rfl rfl ?_
          refine g_dup C tb_X8_passDay_1_ok (i := 21) rfl rfl ?_
          refine g_getI C tb_X8_passDay_1_ok (i := 22) rfl fl_X8_52 rfl k1 ?_
          refine g_iconstv C tb_X8_passDay_1_ok (i := 23) 1 rfl k_iconstv_1 ?_
          refine g_iadd C tb_X8_passDay_1_ok (i := 24) rfl ?_
          refine g_putI C tb_X8_passDay_1_ok (i := 25) rfl fl_X8_52 ft_8_11 rfl k1 ?_
          refine g_mem (fun M24 eM24 => ?_)
          have h := lt_e eM24 h
          cases h
          exact g_vret0 C R tb_X8_passDay_1_ok (i := 26) rfl
        · have h := f21 c
          refine g_aload_n C tb_X8_passDay_1_ok (i := 2) rfl rfl ?_
          refine g_getR C tb_X8_passDay_1_ok (i := 3) rfl fl_X8_9 rfl k1 n2 ?_
          refine g_iload_n C tb_X8_passDay_1_ok (i := 4) rfl rfl ?_
          refine g_iconstv C tb_X8_passDay_1_ok (i := 5) 0 rfl k_iconstv_0 ?_
          refine g_aload_n C tb_X8_passDay_1_ok (i := 6) rfl rfl ?_
          refine g_getR C tb_X8_passDay_1_ok (i := 7) rfl fl_X8_9 rfl k1 n2 ?_
          refine g_iload_n C tb_X8_passDay_1_ok (i := 8) rfl rfl ?_
          obtain ⟨b25, h⟩ := gA_e h
          refine g_iald C tb_X8_passDay_1_ok (i := 9) rfl b25 ?_
          refine g_aload_n C tb_X8_passDay_1_ok (i := 10) rfl rfl ?_
          refine g_getR C tb_X8_passDay_1_ok (i := 11) rfl fl_X8_32 rfl k1 n10 ?_
          refine g_getI C tb_X8_passDay_1_ok (i := 12) rfl fl_X8_89 rfl k11 ?_
          refine g_isub C tb_X8_passDay_1_ok (i := 13) rfl ?_
          refine g_max C tb_X8_passDay_1_ok (i := 14) rfl mt_X8_92 rfl rfl rfl ?_
          obtain ⟨b26, h⟩ := gA_e h
          refine g_iast C tb_X8_passDay_1_ok (i := 15) rfl b26 ?_
          refine g_mem (fun M27 eM27 => ?_)
          have h := lt_e eM27 h
          obtain ⟨v28, ev28⟩ : ∃ w : Int32, w = v16 + (1 : Int32) := ⟨_, rfl⟩
          have h := lt_e ev28 h
          refine g_iincv C tb_X8_passDay_1_ok (i := 16) (1 : Int32) ev28 rfl rfl k_iconstv_1 rfl rfl ?_
          refine g_goto C tb_X8_passDay_1_ok (i := 17) 74 rfl rfl ?_
          exact g_less (L' := [some (.ref a0), some (.int v28)]) ⟨rfl, ⟨rfl, trivial⟩⟩ (ih19 v28 M27 h)
    · have h := f13 c
      refine g_aload_n C tb_X8_passDay_0_ok (i := 15) rfl rfl ?_
      refine g_iload_n C tb_X8_passDay_0_ok (i := 16) rfl rfl ?_
      obtain ⟨r29, er29, h⟩ := cp_e h
      refine g_callV0 C tb_X8_passDay_0_ok (i := 17) [.int v6] rfl mw_X8_isResting mv_X8_isResting ml_X8_79 k1 rfl rfl rfl rfl (w_X8_isResting C.G y a0 v6 M7) (pm_s er29) rfl rfl rfl ?_
      obtain ⟨j31, ej31, h⟩ := jn_e h
      have J62 : ∀ (M30 : Mem), j31 M30 = some out → GG g x 2 Q 0 0 y M30 62 [some (.ref a0), some (.int v6)] [] := by
        intro M30 h; subst ej31
        obtain ⟨v32, ev32⟩ : ∃ w : Int32, w = v6 + (1 : Int32) := ⟨_, rfl⟩
        have h := lt_e ev32 h
        refine g_iincv C tb_X8_passDay_0_ok (i := 33) (1 : Int32) ev32 rfl rfl k_iconstv_1 rfl rfl ?_
        refine g_goto C tb_X8_passDay_0_ok (i := 34) 17 rfl rfl ?_
        exact g_less (L' := [some (.ref a0), some (.int v32)]) ⟨rfl, ⟨rfl, trivial⟩⟩ (ih9 v32 M30 h)
      obtain ⟨t33, f34⟩ := br_e h
      refine g_if_ne C tb_X8_passDay_0_ok (i := 18) 62 rfl rfl (fun c => ?_) (fun c => ?_)
      · have h := f34 c
        exact g_less (L' := [some (.ref a0), some (.int v6)]) ⟨rfl, ⟨rfl, trivial⟩⟩ (J62 M7 h)
      · have h := t33 c
        refine g_aload_n C tb_X8_passDay_0_ok (i := 19) rfl rfl ?_
        refine g_getI C tb_X8_passDay_0_ok (i := 20) rfl fl_X8_46 rfl k1 ?_
        obtain ⟨t35, f36⟩ := br_e h
        refine g_if_le C tb_X8_passDay_0_ok (i := 21) 62 rfl rfl (fun c => ?_) (fun c => ?_)
        · have h := t35 c
          exact g_less (L' := [some (.ref a0), some (.int v6)]) ⟨rfl, ⟨rfl, trivial⟩⟩ (J62 M7 h)
        · have h := f36 c
          refine g_aload_n C tb_X8_passDay_0_ok (i := 22) rfl rfl ?_
          refine g_dup C tb_X8_passDay_0_ok (i := 23) rfl rfl ?_
          refine g_getI C tb_X8_passDay_0_ok (i := 24) rfl fl_X8_46 rfl k1 ?_
          refine g_iconstv C tb_X8_passDay_0_ok (i := 25) 1 rfl k_iconstv_1 ?_
          refine g_isub C tb_X8_passDay_0_ok (i := 26) rfl ?_
          refine g_putI C tb_X8_passDay_0_ok (i := 27) rfl fl_X8_46 ft_8_9 rfl k1 ?_
          refine g_mem (fun M37 eM37 => ?_)
          have h := lt_e eM37 h
          refine g_aload_n C tb_X8_passDay_0_ok (i := 28) rfl rfl ?_
          refine g_iload_n C tb_X8_passDay_0_ok (i := 29) rfl rfl ?_
          refine g_aload_n C tb_X8_passDay_0_ok (i := 30) rfl rfl ?_
          refine g_getI C tb_X8_passDay_0_ok (i := 31) rfl fl_X8_46 rfl k1 ?_
          obtain ⟨r38, M39, er38, h⟩ := c0_e h
          refine g_callV0 C tb_X8_passDay_0_ok (i := 32) [.int v6, .int (M37.1 a0 9)] rfl mw_X8_swish mv_X8_swish ml_X8_82 k1 rfl rfl rfl rfl (w_X8_swish C.G y a0 v6 (M37.1 a0 9) M37) er38 rfl rfl rfl ?_
          exact g_less (L' := [some (.ref a0), some (.int v6)]) ⟨rfl, ⟨rfl, trivial⟩⟩ (J62 M39 h)
def f_X8_addKnobs (y : Lay) (a0 : Nat) (a1 : Int32) (M : Mem) : Option (Int32 × Mem) := gK y a0 (0, 8) (lt (wI M a0 9 (jmin (99 : Int32) ((M.1 a0 9) + a1))) fun (M2 : Mem) => some (0, M2))
theorem w_X8_addKnobs {g : GX} {l : Launch} (hG : GF g l) (y : Lay) (a0 : Nat) (a1 : Int32) (M : Mem) : C0 g l yX8_addKnobs cX8_addKnobs 2 none 0 y [.ref a0, .int a1] M (f_X8_addKnobs y a0 a1 M) := by
  refine C0_of hG (by decide) [some (.ref a0), some (.int a1)] rfl rfl (fun out h x Q C R => ?_)
  unfold f_X8_addKnobs at h
  refine g_aload_n C tb_X8_addKnobs_0_ok (i := 0) rfl rfl ?_
  refine g_bipushv C tb_X8_addKnobs_0_ok (i := 1) 99 rfl k_bipushv_99 ?_
  refine g_aload_n C tb_X8_addKnobs_0_ok (i := 2) rfl rfl ?_
  obtain ⟨k1, h⟩ := gK_e h
  refine g_getI C tb_X8_addKnobs_0_ok (i := 3) rfl fl_X8_46 rfl k1 ?_
  refine g_iload_n C tb_X8_addKnobs_0_ok (i := 4) rfl rfl ?_
  refine g_iadd C tb_X8_addKnobs_0_ok (i := 5) rfl ?_
  refine g_min C tb_X8_addKnobs_0_ok (i := 6) rfl mt_X8_64 rfl rfl rfl ?_
  refine g_putI C tb_X8_addKnobs_0_ok (i := 7) rfl fl_X8_46 ft_8_9 rfl k1 ?_
  refine g_mem (fun M2 eM2 => ?_)
  have h := lt_e eM2 h
  cases h
  exact g_vret0 C R tb_X8_addKnobs_0_ok (i := 8) rfl
def f_X8_copyFrom (y : Lay) (a0 : Nat) (a1 : Nat) (M : Mem) : Option (Int32 × Mem) := gK y a1 (0, 8) (gN (y.2.1 a1 1) (gK y a0 (0, 8) (gN (y.2.1 a0 1) (gC y (y.2.1 a1 1) (y.2.1 a0 1) (0 : Int32) (0 : Int32) (30 : Int32) (lt (cpI M (y.2.1 a1 1) (y.2.1 a0 1) (0 : Int32).toNatClampNeg (0 : Int32).toNatClampNeg (30 : Int32).toNatClampNeg) fun (M6 : Mem) => gN (y.2.1 a1 4) (gN (y.2.1 a0 4) (gC y (y.2.1 a1 4) (y.2.1 a0 4) (0 : Int32) (0 : Int32) (6 : Int32) (lt (cpI M6 (y.2.1 a1 4) (y.2.1 a0 4) (0 : Int32).toNatClampNeg (0 : Int32).toNatClampNeg (6 : Int32).toNatClampNeg) fun (M10 : Mem) => gN (y.2.1 a1 5) (gN (y.2.1 a0 5) (gC y (y.2.1 a1 5) (y.2.1 a0 5) (0 : Int32) (0 : Int32) (6 : Int32) (lt (cpI M10 (y.2.1 a1 5) (y.2.1 a0 5) (0 : Int32).toNatClampNeg (0 : Int32).toNatClampNeg (6 : Int32).toNatClampNeg) fun (M14 : Mem) => lt (wI M14 a0 7 (M14.1 a1 7)) fun (M15 : Mem) => lt (wI M15 a0 8 (M15.1 a1 8)) fun (M16 : Mem) => lt (wI M16 a0 9 (M16.1 a1 9)) fun (M17 : Mem) => lt (wI M17 a0 10 (M17.1 a1 10)) fun (M18 : Mem) => lt (wI M18 a0 11 (M18.1 a1 11)) fun (M19 : Mem) => lt (wI M19 a0 12 (M19.1 a1 12)) fun (M20 : Mem) => some (0, M20))))))))))))
theorem w_X8_copyFrom {g : GX} {l : Launch} (hG : GF g l) (y : Lay) (a0 : Nat) (a1 : Nat) (M : Mem) : C0 g l yX8_copyFrom cX8_copyFrom 2 none 0 y [.ref a0, .ref a1] M (f_X8_copyFrom y a0 a1 M) := by
  refine C0_of hG (by decide) [some (.ref a0), some (.ref a1)] rfl rfl (fun out h x Q C R => ?_)
  unfold f_X8_copyFrom at h
  refine g_aload_n C tb_X8_copyFrom_0_ok (i := 0) rfl rfl ?_
  obtain ⟨k1, h⟩ := gK_e h
  obtain ⟨n2, h⟩ := gN_e h
  refine g_getR C tb_X8_copyFrom_0_ok (i := 1) rfl fl_X8_9 rfl k1 n2 ?_
  refine g_iconstv C tb_X8_copyFrom_0_ok (i := 2) 0 rfl k_iconstv_0 ?_
  refine g_aload_n C tb_X8_copyFrom_0_ok (i := 3) rfl rfl ?_
  obtain ⟨k3, h⟩ := gK_e h
  obtain ⟨n4, h⟩ := gN_e h
  refine g_getR C tb_X8_copyFrom_0_ok (i := 4) rfl fl_X8_9 rfl k3 n4 ?_
  refine g_iconstv C tb_X8_copyFrom_0_ok (i := 5) 0 rfl k_iconstv_0 ?_
  refine g_bipushv C tb_X8_copyFrom_0_ok (i := 6) 30 rfl k_bipushv_30 ?_
  obtain ⟨b5, h⟩ := gC_e h
  refine g_copy C tb_X8_copyFrom_0_ok (i := 7) rfl mt_X8_58 rfl b5 ?_
  refine g_mem (fun M6 eM6 => ?_)
  have h := lt_e eM6 h
  refine g_aload_n C tb_X8_copyFrom_0_ok (i := 8) rfl rfl ?_
  obtain ⟨n7, h⟩ := gN_e h
  refine g_getR C tb_X8_copyFrom_0_ok (i := 9) rfl fl_X8_21 rfl k1 n7 ?_
  refine g_iconstv C tb_X8_copyFrom_0_ok (i := 10) 0 rfl k_iconstv_0 ?_
  refine g_aload_n C tb_X8_copyFrom_0_ok (i := 11) rfl rfl ?_
  obtain ⟨n8, h⟩ := gN_e h
  refine g_getR C tb_X8_copyFrom_0_ok (i := 12) rfl fl_X8_21 rfl k3 n8 ?_
  refine g_iconstv C tb_X8_copyFrom_0_ok (i := 13) 0 rfl k_iconstv_0 ?_
  refine g_bipushv C tb_X8_copyFrom_0_ok (i := 14) 6 rfl k_bipushv_6 ?_
  obtain ⟨b9, h⟩ := gC_e h
  refine g_copy C tb_X8_copyFrom_0_ok (i := 15) rfl mt_X8_58 rfl b9 ?_
  refine g_mem (fun M10 eM10 => ?_)
  have h := lt_e eM10 h
  refine g_aload_n C tb_X8_copyFrom_0_ok (i := 16) rfl rfl ?_
  obtain ⟨n11, h⟩ := gN_e h
  refine g_getR C tb_X8_copyFrom_0_ok (i := 17) rfl fl_X8_24 rfl k1 n11 ?_
  refine g_iconstv C tb_X8_copyFrom_0_ok (i := 18) 0 rfl k_iconstv_0 ?_
  refine g_aload_n C tb_X8_copyFrom_0_ok (i := 19) rfl rfl ?_
  obtain ⟨n12, h⟩ := gN_e h
  refine g_getR C tb_X8_copyFrom_0_ok (i := 20) rfl fl_X8_24 rfl k3 n12 ?_
  refine g_iconstv C tb_X8_copyFrom_0_ok (i := 21) 0 rfl k_iconstv_0 ?_
  refine g_bipushv C tb_X8_copyFrom_0_ok (i := 22) 6 rfl k_bipushv_6 ?_
  obtain ⟨b13, h⟩ := gC_e h
  refine g_copy C tb_X8_copyFrom_0_ok (i := 23) rfl mt_X8_58 rfl b13 ?_
  refine g_mem (fun M14 eM14 => ?_)
  have h := lt_e eM14 h
  refine g_aload_n C tb_X8_copyFrom_0_ok (i := 24) rfl rfl ?_
  refine g_aload_n C tb_X8_copyFrom_0_ok (i := 25) rfl rfl ?_
  refine g_getI C tb_X8_copyFrom_0_ok (i := 26) rfl fl_X8_39 rfl k1 ?_
  refine g_putI C tb_X8_copyFrom_0_ok (i := 27) rfl fl_X8_39 ft_8_7 rfl k3 ?_
  refine g_mem (fun M15 eM15 => ?_)
  have h := lt_e eM15 h
  refine g_aload_n C tb_X8_copyFrom_0_ok (i := 28) rfl rfl ?_
  refine g_aload_n C tb_X8_copyFrom_0_ok (i := 29) rfl rfl ?_
  refine g_getI C tb_X8_copyFrom_0_ok (i := 30) rfl fl_X8_43 rfl k1 ?_
  refine g_putI C tb_X8_copyFrom_0_ok (i := 31) rfl fl_X8_43 ft_8_8 rfl k3 ?_
  refine g_mem (fun M16 eM16 => ?_)
  have h := lt_e eM16 h
  refine g_aload_n C tb_X8_copyFrom_0_ok (i := 32) rfl rfl ?_
  refine g_aload_n C tb_X8_copyFrom_0_ok (i := 33) rfl rfl ?_
  refine g_getI C tb_X8_copyFrom_0_ok (i := 34) rfl fl_X8_46 rfl k1 ?_
  refine g_putI C tb_X8_copyFrom_0_ok (i := 35) rfl fl_X8_46 ft_8_9 rfl k3 ?_
  refine g_mem (fun M17 eM17 => ?_)
  have h := lt_e eM17 h
  refine g_aload_n C tb_X8_copyFrom_0_ok (i := 36) rfl rfl ?_
  refine g_aload_n C tb_X8_copyFrom_0_ok (i := 37) rfl rfl ?_
  refine g_getI C tb_X8_copyFrom_0_ok (i := 38) rfl fl_X8_49 rfl k1 ?_
  refine g_putI C tb_X8_copyFrom_0_ok (i := 39) rfl fl_X8_49 ft_8_10 rfl k3 ?_
  refine g_mem (fun M18 eM18 => ?_)
  have h := lt_e eM18 h
  refine g_aload_n C tb_X8_copyFrom_1_ok (i := 0) rfl rfl ?_
  refine g_aload_n C tb_X8_copyFrom_1_ok (i := 1) rfl rfl ?_
  refine g_getI C tb_X8_copyFrom_1_ok (i := 2) rfl fl_X8_52 rfl k1 ?_
  refine g_putI C tb_X8_copyFrom_1_ok (i := 3) rfl fl_X8_52 ft_8_11 rfl k3 ?_
  refine g_mem (fun M19 eM19 => ?_)
  have h := lt_e eM19 h
  refine g_aload_n C tb_X8_copyFrom_1_ok (i := 4) rfl rfl ?_
  refine g_aload_n C tb_X8_copyFrom_1_ok (i := 5) rfl rfl ?_
  refine g_getI C tb_X8_copyFrom_1_ok (i := 6) rfl fl_X8_55 rfl k1 ?_
  refine g_putI C tb_X8_copyFrom_1_ok (i := 7) rfl fl_X8_55 ft_8_12 rfl k3 ?_
  refine g_mem (fun M20 eM20 => ?_)
  have h := lt_e eM20 h
  cases h
  exact g_vret0 C R tb_X8_copyFrom_1_ok (i := 8) rfl
def f_X11_lookAhead (y : Lay) (a0 : Nat) (a1 : Int32) (M : Mem) : Option (Int32 × Mem) := gK y a0 (0, 11) (gN (y.2.1 a0 5) (gN (y.2.1 a0 3) (gK y (y.2.1 a0 3) (0, 4) (gN (y.2.1 (y.2.1 a0 3) 0) (gK y (y.2.1 a0 5) (0, 8) (c0 (f_X8_copyFrom y (y.2.1 a0 5) (y.2.1 (y.2.1 a0 3) 0) M) fun (r7 : Int32) (M8 : Mem) => fixN (fun _ _ => none) (fun (s11 : Int32 → Mem → Option (Int32 × Mem)) (v9 : Int32) (M10 : Mem) => br (a1 ≤ v9) (some (0, M10)) (c0 (f_X8_passDay y (y.2.1 a0 5) M10) fun (r15 : Int32) (M16 : Mem) => lt (v9 + (1 : Int32)) fun (v17 : Int32) => s11 v17 M16)) FUEL (0 : Int32) M8))))))
theorem w_X11_lookAhead {g : GX} {l : Launch} (hG : GF g l) (y : Lay) (a0 : Nat) (a1 : Int32) (M : Mem) : C0 g l yX11_lookAhead cX11_lookAhead 3 none 5 y [.ref a0, .int a1] M (f_X11_lookAhead y a0 a1 M) := by
  refine C0_of hG (by decide) [some (.ref a0), some (.int a1), none] rfl rfl (fun out h x Q C R => ?_)
  unfold f_X11_lookAhead at h
  refine g_aload_n C tb_X11_lookAhead_0_ok (i := 0) rfl rfl ?_
  obtain ⟨k1, h⟩ := gK_e h
  obtain ⟨n2, h⟩ := gN_e h
  refine g_getR C tb_X11_lookAhead_0_ok (i := 1) rfl fl_X11_47 rfl k1 n2 ?_
  refine g_aload_n C tb_X11_lookAhead_0_ok (i := 2) rfl rfl ?_
  obtain ⟨n3, h⟩ := gN_e h
  refine g_getR C tb_X11_lookAhead_0_ok (i := 3) rfl fl_X11_37 rfl k1 n3 ?_
  obtain ⟨k4, h⟩ := gK_e h
  obtain ⟨n5, h⟩ := gN_e h
  refine g_getR C tb_X11_lookAhead_0_ok (i := 4) rfl fl_X11_53 rfl k4 n5 ?_
  obtain ⟨k6, h⟩ := gK_e h
  obtain ⟨r7, M8, er7, h⟩ := c0_e h
  refine g_callV0 C tb_X11_lookAhead_0_ok (i := 5) [.ref (y.2.1 (y.2.1 a0 3) 0)] rfl mw_X8_copyFrom mv_X8_copyFrom ml_X11_343 k6 rfl rfl rfl rfl (w_X8_copyFrom C.G y (y.2.1 a0 5) (y.2.1 (y.2.1 a0 3) 0) M) er7 rfl rfl rfl ?_
  refine g_iconstv C tb_X11_lookAhead_0_ok (i := 6) 0 rfl k_iconstv_0 ?_
  refine g_istore_n C tb_X11_lookAhead_0_ok (i := 7) rfl rfl rfl ?_
  refine g_less (L' := [some (.ref a0), some (.int a1), some (.int (0 : Int32))]) ⟨rfl, ⟨rfl, ⟨rfl, trivial⟩⟩⟩ ?_
  refine fix_i (P := fun (f : Int32 → Mem → Option (Int32 × Mem)) => ∀ (v9 : Int32) (M10 : Mem), f v9 M10 = some out → GG g x 3 Q 0 0 y M10 16 [some (.ref a0), some (.int a1), some (.int v9)] []) ?_ ?_ _ (0 : Int32) M8 h
  · intro v9 M10 h; exact (nn_e h).elim
  · intro s11 ih12 v9 M10 h
    refine g_iload_n C tb_X11_lookAhead_0_ok (i := 8) rfl rfl ?_
    refine g_iload_n C tb_X11_lookAhead_0_ok (i := 9) rfl rfl ?_
    obtain ⟨t13, f14⟩ := br_e h
    refine g_icmp_ge C tb_X11_lookAhead_0_ok (i := 10) 34 rfl rfl (fun c => ?_) (fun c => ?_)
    · have h := t13 c
      cases h
      exact g_vret0 C R tb_X11_lookAhead_0_ok (i := 16) rfl
    · have h := f14 c
      refine g_aload_n C tb_X11_lookAhead_0_ok (i := 11) rfl rfl ?_
      refine g_getR C tb_X11_lookAhead_0_ok (i := 12) rfl fl_X11_47 rfl k1 n2 ?_
      obtain ⟨r15, M16, er15, h⟩ := c0_e h
      refine g_callV0 C tb_X11_lookAhead_0_ok (i := 13) [] rfl mw_X8_passDay mv_X8_passDay ml_X11_221 k6 rfl rfl rfl rfl (w_X8_passDay C.G y (y.2.1 a0 5) M10) er15 rfl rfl rfl ?_
      obtain ⟨v17, ev17⟩ : ∃ w : Int32, w = v9 + (1 : Int32) := ⟨_, rfl⟩
      have h := lt_e ev17 h
      refine g_iincv C tb_X11_lookAhead_0_ok (i := 14) (1 : Int32) ev17 rfl rfl k_iconstv_1 rfl rfl ?_
      refine g_goto C tb_X11_lookAhead_0_ok (i := 15) 16 rfl rfl ?_
      exact g_less (L' := [some (.ref a0), some (.int a1), some (.int v17)]) ⟨rfl, ⟨rfl, ⟨rfl, trivial⟩⟩⟩ (ih12 v17 M16 h)
def f_X8_setSpot (y : Lay) (a0 : Nat) (a1 : Int32) (a2 : Int32) (M : Mem) : Option (Int32 × Mem) := jn (fun (M1 : Mem) => some (0, M1)) fun j2 => br (a1 < 0) (j2 M) (br ((6 : Int32) ≤ a1) (j2 M) (gK y a0 (0, 8) (gN (y.2.1 a0 4) (gA y (y.2.1 a0 4) 1 a1 (lt (wI M (y.2.1 a0 4) a1.toNatClampNeg a2) fun (M10 : Mem) => j2 M10)))))
theorem w_X8_setSpot {g : GX} {l : Launch} (hG : GF g l) (y : Lay) (a0 : Nat) (a1 : Int32) (a2 : Int32) (M : Mem) : C0 g l yX8_setSpot cX8_setSpot 3 none 0 y [.ref a0, .int a1, .int a2] M (f_X8_setSpot y a0 a1 a2 M) := by
  refine C0_of hG (by decide) [some (.ref a0), some (.int a1), some (.int a2)] rfl rfl (fun out h x Q C R => ?_)
  unfold f_X8_setSpot at h
  refine g_iload_n C tb_X8_setSpot_0_ok (i := 0) rfl rfl ?_
  obtain ⟨j2, ej2, h⟩ := jn_e h
  have J17 : ∀ (M1 : Mem), j2 M1 = some out → GG g x 3 Q 0 0 y M1 17 [none, none, none] [] := by
    intro M1 h; subst ej2
    cases h
    exact g_vret0 C R tb_X8_setSpot_0_ok (i := 10) rfl
  obtain ⟨t3, f4⟩ := br_e h
  refine g_if_lt C tb_X8_setSpot_0_ok (i := 1) 17 rfl rfl (fun c => ?_) (fun c => ?_)
  · have h := t3 c
    exact g_less (L' := [none, none, none]) trivial (J17 M h)
  · have h := f4 c
    refine g_iload_n C tb_X8_setSpot_0_ok (i := 2) rfl rfl ?_
    refine g_bipushv C tb_X8_setSpot_0_ok (i := 3) 6 rfl k_bipushv_6 ?_
    obtain ⟨t5, f6⟩ := br_e h
    refine g_icmp_ge C tb_X8_setSpot_0_ok (i := 4) 17 rfl rfl (fun c => ?_) (fun c => ?_)
    · have h := t5 c
      exact g_less (L' := [none, none, none]) trivial (J17 M h)
    · have h := f6 c
      refine g_aload_n C tb_X8_setSpot_0_ok (i := 5) rfl rfl ?_
      obtain ⟨k7, h⟩ := gK_e h
      obtain ⟨n8, h⟩ := gN_e h
      refine g_getR C tb_X8_setSpot_0_ok (i := 6) rfl fl_X8_21 rfl k7 n8 ?_
      refine g_iload_n C tb_X8_setSpot_0_ok (i := 7) rfl rfl ?_
      refine g_iload_n C tb_X8_setSpot_0_ok (i := 8) rfl rfl ?_
      obtain ⟨b9, h⟩ := gA_e h
      refine g_iast C tb_X8_setSpot_0_ok (i := 9) rfl b9 ?_
      refine g_mem (fun M10 eM10 => ?_)
      have h := lt_e eM10 h
      exact g_less (L' := [none, none, none]) trivial (J17 M10 h)
def f_X8_allBlue (y : Lay) (a0 : Nat) (M : Mem) : Option Int32 := fixN (fun _ _ => none) (fun (s3 : Int32 → Int32 → Option Int32) (v1 : Int32) (v2 : Int32) => br ((30 : Int32) ≤ v2) (some v1) (gK y a0 (0, 8) (gN (y.2.1 a0 1) (gA y (y.2.1 a0 1) 1 v2 (lt (v1 + (M.1 (y.2.1 a0 1) v2.toNatClampNeg)) fun (v10 : Int32) => lt (v2 + (1 : Int32)) fun (v11 : Int32) => s3 v10 v11))))) FUEL (0 : Int32) (0 : Int32)
theorem w_X8_allBlue {g : GX} {l : Launch} (hG : GF g l) (y : Lay) (a0 : Nat) (M : Mem) : C0 g l yX8_allBlue cX8_allBlue 3 (some .int) 0 y [.ref a0] M (pm M (f_X8_allBlue y a0 M)) := by
  refine CP_of hG (by decide) [some (.ref a0), none, none] rfl rfl (fun out h x Q C R => ?_)
  unfold f_X8_allBlue at h
  refine g_iconstv C tb_X8_allBlue_0_ok (i := 0) 0 rfl k_iconstv_0 ?_
  refine g_istore_n C tb_X8_allBlue_0_ok (i := 1) rfl rfl rfl ?_
  refine g_iconstv C tb_X8_allBlue_0_ok (i := 2) 0 rfl k_iconstv_0 ?_
  refine g_istore_n C tb_X8_allBlue_0_ok (i := 3) rfl rfl rfl ?_
  refine g_less (L' := [some (.ref a0), some (.int (0 : Int32)), some (.int (0 : Int32))]) ⟨rfl, ⟨rfl, ⟨rfl, trivial⟩⟩⟩ ?_
  refine fix_i (P := fun (f : Int32 → Int32 → Option Int32) => ∀ (v1 : Int32) (v2 : Int32), f v1 v2 = some out → GG g x 3 Q 0 0 y M 4 [some (.ref a0), some (.int v1), some (.int v2)] []) ?_ ?_ _ (0 : Int32) (0 : Int32) h
  · intro v1 v2 h; exact (nn_e h).elim
  · intro s3 ih4 v1 v2 h
    refine g_iload_n C tb_X8_allBlue_0_ok (i := 4) rfl rfl ?_
    refine g_bipushv C tb_X8_allBlue_0_ok (i := 5) 30 rfl k_bipushv_30 ?_
    obtain ⟨t5, f6⟩ := br_e h
    refine g_icmp_ge C tb_X8_allBlue_0_ok (i := 6) 25 rfl rfl (fun c => ?_) (fun c => ?_)
    · have h := t5 c
      refine g_iload_n C tb_X8_allBlue_0_ok (i := 16) rfl rfl ?_
      cases h
      exact g_iret0 C R tb_X8_allBlue_0_ok (i := 17) rfl
    · have h := f6 c
      refine g_iload_n C tb_X8_allBlue_0_ok (i := 7) rfl rfl ?_
      refine g_aload_n C tb_X8_allBlue_0_ok (i := 8) rfl rfl ?_
      obtain ⟨k7, h⟩ := gK_e h
      obtain ⟨n8, h⟩ := gN_e h
      refine g_getR C tb_X8_allBlue_0_ok (i := 9) rfl fl_X8_9 rfl k7 n8 ?_
      refine g_iload_n C tb_X8_allBlue_0_ok (i := 10) rfl rfl ?_
      obtain ⟨b9, h⟩ := gA_e h
      refine g_iald C tb_X8_allBlue_0_ok (i := 11) rfl b9 ?_
      refine g_iadd C tb_X8_allBlue_0_ok (i := 12) rfl ?_
      refine g_topi (fun v10 ev10 => ?_)
      have h := lt_e ev10 h
      refine g_istore_n C tb_X8_allBlue_0_ok (i := 13) rfl rfl rfl ?_
      obtain ⟨v11, ev11⟩ : ∃ w : Int32, w = v2 + (1 : Int32) := ⟨_, rfl⟩
      have h := lt_e ev11 h
      refine g_iincv C tb_X8_allBlue_0_ok (i := 14) (1 : Int32) ev11 rfl rfl k_iconstv_1 rfl rfl ?_
      refine g_goto C tb_X8_allBlue_0_ok (i := 15) 4 rfl rfl ?_
      exact g_less (L' := [some (.ref a0), some (.int v10), some (.int v11)]) ⟨rfl, ⟨rfl, ⟨rfl, trivial⟩⟩⟩ (ih4 v10 v11 h)
def f_X11_needWithin (y : Lay) (a0 : Nat) (a1 : Int32) (a2 : Int32) (a3 : Int32) (M : Mem) : Option (Nat × Int32 × Mem) := jn (fun (_u : Unit) => some (2, 0, M)) fun j1 => br (a1 < a2) (j1 ()) (br (a1 ≤ a3) (some (0, 0, M)) (j1 ()))
theorem w_X11_needWithin {g : GX} {l : Launch} (hG : GF g l) (y : Lay) (a0 : Nat) (a1 : Int32) (a2 : Int32) (a3 : Int32) (M : Mem) : C1 g l yX11_needWithin cX11_needWithin 4 none 0 1 6 y [.ref a0, .int a1, .int a2, .int a3] M (f_X11_needWithin y a0 a1 a2 a3 M) := by
  refine C1_of hG (by decide) [some (.ref a0), some (.int a1), some (.int a2), some (.int a3)] rfl rfl (fun out h x Q C R => ?_)
  unfold f_X11_needWithin at h
  refine g_iload_n C tb_X11_needWithin_0_ok (i := 0) rfl rfl ?_
  refine g_iload_n C tb_X11_needWithin_0_ok (i := 1) rfl rfl ?_
  obtain ⟨j1, ej1, h⟩ := jn_e h
  have J10 : ∀ (_u : Unit), j1 _u = some out → GG g x 4 Q 0 0 y M 10 [none, none, none, none] [] := by
    intro _u h; subst ej1
    cases h
    exact g_throw (T2 := []) C tb_X11_needWithin_0_ok (i0 := 6) (i1 := 7) (i2 := 8) (i3 := 9) (e := 1) R tw_X11_96_98 rfl rfl rfl rfl rfl rfl rfl
  obtain ⟨t2, f3⟩ := br_e h
  refine g_icmp_lt C tb_X11_needWithin_0_ok (i := 2) 10 rfl rfl (fun c => ?_) (fun c => ?_)
  · have h := t2 c
    exact g_less (L' := [none, none, none, none]) trivial (J10 () h)
  · have h := f3 c
    refine g_iload_n C tb_X11_needWithin_0_ok (i := 3) rfl rfl ?_
    refine g_iload_n C tb_X11_needWithin_0_ok (i := 4) rfl rfl ?_
    obtain ⟨t4, f5⟩ := br_e h
    refine g_icmp_le C tb_X11_needWithin_0_ok (i := 5) 18 rfl rfl (fun c => ?_) (fun c => ?_)
    · have h := t4 c
      cases h
      exact g_vret1 C R rfl rfl tb_X11_needWithin_0_ok (i := 10) rfl
    · have h := f5 c
      exact g_less (L' := [none, none, none, none]) trivial (J10 () h)
def f_X11_needWhat (y : Lay) (a0 : Nat) (a1 : Int32) (a2 : Int32) (M : Mem) : Option (Nat × Int32 × Mem) := jn (fun (_u : Unit) => some (1, 0, M)) fun j1 => br (a1 < 0) (j1 ()) (br (a1 ≤ a2) (some (0, 0, M)) (j1 ()))
theorem w_X11_needWhat {g : GX} {l : Launch} (hG : GF g l) (y : Lay) (a0 : Nat) (a1 : Int32) (a2 : Int32) (M : Mem) : C1 g l yX11_needWhat cX11_needWhat 3 none 0 1 6 y [.ref a0, .int a1, .int a2] M (f_X11_needWhat y a0 a1 a2 M) := by
  refine C1_of hG (by decide) [some (.ref a0), some (.int a1), some (.int a2)] rfl rfl (fun out h x Q C R => ?_)
  unfold f_X11_needWhat at h
  refine g_iload_n C tb_X11_needWhat_0_ok (i := 0) rfl rfl ?_
  obtain ⟨j1, ej1, h⟩ := jn_e h
  have J9 : ∀ (_u : Unit), j1 _u = some out → GG g x 3 Q 0 0 y M 9 [none, none, none] [] := by
    intro _u h; subst ej1
    cases h
    exact g_throw (T2 := []) C tb_X11_needWhat_0_ok (i0 := 5) (i1 := 6) (i2 := 7) (i3 := 8) (e := 0) R tw_X11_176_178 rfl rfl rfl rfl rfl rfl rfl
  obtain ⟨t2, f3⟩ := br_e h
  refine g_if_lt C tb_X11_needWhat_0_ok (i := 1) 9 rfl rfl (fun c => ?_) (fun c => ?_)
  · have h := t2 c
    exact g_less (L' := [none, none, none]) trivial (J9 () h)
  · have h := f3 c
    refine g_iload_n C tb_X11_needWhat_0_ok (i := 2) rfl rfl ?_
    refine g_iload_n C tb_X11_needWhat_0_ok (i := 3) rfl rfl ?_
    obtain ⟨t4, f5⟩ := br_e h
    refine g_icmp_le C tb_X11_needWhat_0_ok (i := 4) 17 rfl rfl (fun c => ?_) (fun c => ?_)
    · have h := t4 c
      cases h
      exact g_vret1 C R rfl rfl tb_X11_needWhat_0_ok (i := 9) rfl
    · have h := f5 c
      exact g_less (L' := [none, none, none]) trivial (J9 () h)
def f_X3_draw (y : Lay) (a0 : Nat) (a1 : Int32) (M : Mem) : Option (Int32 × Mem) := gK y a0 (0, 3) (lt (wI M a0 0 (((M.1 a0 0) * (1103515245 : Int32)) + (12345 : Int32))) fun (M2 : Mem) => lt ((((M2.1 a0 0).toUInt32 >>> ((16 : Int32).toUInt32 &&& Int32.toUInt32 31)).toInt32) &&& (32767 : Int32)) fun (v3 : Int32) => jn (fun (v4 : Int32) => some (v4, M2)) fun j5 => br (a1 ≤ 0) (j5 (0 : Int32)) (gd (¬ a1 = 0) (j5 (v3 - v3 / a1 * a1))))
theorem w_X3_draw {g : GX} {l : Launch} (hG : GF g l) (y : Lay) (a0 : Nat) (a1 : Int32) (M : Mem) : C0 g l yX3_draw cX3_draw 3 (some .int) 0 y [.ref a0, .int a1] M (f_X3_draw y a0 a1 M) := by
  refine C0_of hG (by decide) [some (.ref a0), some (.int a1), none] rfl rfl (fun out h x Q C R => ?_)
  unfold f_X3_draw at h
  refine g_aload_n C tb_X3_draw_0_ok (i := 0) rfl rfl ?_
  refine g_aload_n C tb_X3_draw_0_ok (i := 1) rfl rfl ?_
  obtain ⟨k1, h⟩ := gK_e h
  refine g_getI C tb_X3_draw_0_ok (i := 2) rfl fl_X3_7 rfl k1 ?_
  refine g_ldcI C tb_X3_draw_0_ok (i := 3) rfl cl_X3_13 ?_
  refine g_imul C tb_X3_draw_0_ok (i := 4) rfl ?_
  refine g_sipushv C tb_X3_draw_0_ok (i := 5) 12345 rfl k_sipushv_12345 ?_
  refine g_iadd C tb_X3_draw_0_ok (i := 6) rfl ?_
  refine g_putI C tb_X3_draw_0_ok (i := 7) rfl fl_X3_7 ft_3_0 rfl k1 ?_
  refine g_mem (fun M2 eM2 => ?_)
  have h := lt_e eM2 h
  refine g_aload_n C tb_X3_draw_0_ok (i := 8) rfl rfl ?_
  refine g_getI C tb_X3_draw_0_ok (i := 9) rfl fl_X3_7 rfl k1 ?_
  refine g_bipushv C tb_X3_draw_0_ok (i := 10) 16 rfl k_bipushv_16 ?_
  refine g_iushr C tb_X3_draw_0_ok (i := 11) rfl ?_
  refine g_sipushv C tb_X3_draw_0_ok (i := 12) 32767 rfl k_sipushv_32767 ?_
  refine g_iand C tb_X3_draw_0_ok (i := 13) rfl ?_
  refine g_topi (fun v3 ev3 => ?_)
  have h := lt_e ev3 h
  refine g_istore_n C tb_X3_draw_0_ok (i := 14) rfl rfl rfl ?_
  refine g_iload_n C tb_X3_draw_0_ok (i := 15) rfl rfl ?_
  obtain ⟨j5, ej5, h⟩ := jn_e h
  have J38 : ∀ (v4 : Int32), j5 v4 = some out → GG g x 3 Q 0 0 y M2 38 [none, none, none] [.int v4] := by
    intro v4 h; subst ej5
    cases h
    exact g_iret0 C R tb_X3_draw_0_ok (i := 22) rfl
  obtain ⟨t6, f7⟩ := br_e h
  refine g_if_le C tb_X3_draw_0_ok (i := 16) 37 rfl rfl (fun c => ?_) (fun c => ?_)
  · have h := t6 c
    refine g_iconstv C tb_X3_draw_0_ok (i := 21) 0 rfl k_iconstv_0 ?_
    exact g_less (L' := [none, none, none]) trivial (J38 (0 : Int32) h)
  · have h := f7 c
    refine g_iload_n C tb_X3_draw_0_ok (i := 17) rfl rfl ?_
    refine g_iload_n C tb_X3_draw_0_ok (i := 18) rfl rfl ?_
    obtain ⟨n8, h⟩ := gd_e h
    refine g_irem C tb_X3_draw_0_ok (i := 19) rfl n8 ?_
    refine g_goto C tb_X3_draw_0_ok (i := 20) 38 rfl rfl ?_
    exact g_less (L' := [none, none, none]) trivial (J38 (v3 - v3 / a1 * a1) h)
def f_X11_drawAhead (y : Lay) (a0 : Nat) (M : Mem) : Option (Int32 × Mem) := gK y a0 (0, 11) (gN (y.2.1 a0 7) (gK y (y.2.1 a0 7) (0, 3) (c0 (f_X3_draw y (y.2.1 a0 7) (5 : Int32) M) fun (r4 : Int32) (M5 : Mem) => jn (fun (M6 : Mem) => some (0, M6)) fun j7 => br (r4 < (0 : Int32) ∨ (2 : Int32) < r4) (j7 M5) (br (r4 = (0 : Int32)) (gN (y.2.1 a0 5) (gN (y.2.1 a0 1) (gK y (y.2.1 a0 1) (0, 1) (cp (f_X1_cells y (y.2.1 a0 1) M5) fun (r13 : Int32) => c0 (f_X3_draw y (y.2.1 a0 7) r13 M5) fun (r14 : Int32) (M15 : Mem) => gK y (y.2.1 a0 5) (0, 8) (c0 (f_X8_addBlue y (y.2.1 a0 5) r14 (20 : Int32) M15) fun (r17 : Int32) (M18 : Mem) => j7 M18))))) (br (r4 = (1 : Int32)) (gN (y.2.1 a0 1) (gK y (y.2.1 a0 1) (0, 1) (br ((M5.1 (y.2.1 a0 1) 4) ≤ 0) (j7 M5) (c0 (f_X3_draw y (y.2.1 a0 7) (M5.1 (y.2.1 a0 1) 4) M5) fun (r25 : Int32) (M26 : Mem) => gN (y.2.1 a0 5) (cp (f_X1_cells y (y.2.1 a0 1) M26) fun (r28 : Int32) => c0 (f_X3_draw y (y.2.1 a0 7) r28 M26) fun (r29 : Int32) (M30 : Mem) => gK y (y.2.1 a0 5) (0, 8) (c0 (f_X8_setSpot y (y.2.1 a0 5) r25 r29 M30) fun (r32 : Int32) (M33 : Mem) => j7 M33)))))) (gN (y.2.1 a0 5) (gK y (y.2.1 a0 5) (0, 8) (c0 (f_X8_addKnobs y (y.2.1 a0 5) (5 : Int32) M5) fun (r38 : Int32) (M39 : Mem) => j7 M39))))))))
theorem w_X11_drawAhead {g : GX} {l : Launch} (hG : GF g l) (y : Lay) (a0 : Nat) (M : Mem) : C0 g l yX11_drawAhead cX11_drawAhead 2 none 2 y [.ref a0] M (f_X11_drawAhead y a0 M) := by
  refine C0_of hG (by decide) [some (.ref a0), none] rfl rfl (fun out h x Q C R => ?_)
  unfold f_X11_drawAhead at h
  refine g_aload_n C tb_X11_drawAhead_0_ok (i := 0) rfl rfl ?_
  obtain ⟨k1, h⟩ := gK_e h
  obtain ⟨n2, h⟩ := gN_e h
  refine g_getR C tb_X11_drawAhead_0_ok (i := 1) rfl fl_X11_66 rfl k1 n2 ?_
  refine g_iconstv C tb_X11_drawAhead_0_ok (i := 2) 5 rfl k_iconstv_5 ?_
  obtain ⟨k3, h⟩ := gK_e h
  obtain ⟨r4, M5, er4, h⟩ := c0_e h
  refine g_callV0 C tb_X11_drawAhead_0_ok (i := 3) [.int (5 : Int32)] rfl mw_X3_draw mv_X3_draw ml_X11_360 k3 rfl rfl rfl rfl (w_X3_draw C.G y (y.2.1 a0 7) (5 : Int32) M) er4 rfl rfl rfl ?_
  obtain ⟨j7, ej7, h⟩ := jn_e h
  have J123 : ∀ (M6 : Mem), j7 M6 = some out → GG g x 2 Q 0 0 y M6 123 [none, none] [] := by
    intro M6 h; subst ej7
    cases h
    exact g_vret0 C R tb_X11_drawAhead_1_ok (i := 3) rfl
  obtain ⟨t8, f9⟩ := br_e h
  by_cases hsw : r4 < (0 : Int32) ∨ (2 : Int32) < r4
  · have h := t8 hsw
    refine g_tableOut C tb_X11_drawAhead_0_ok (i := 4) 0 2 123 rfl hsw (by decide) rfl ?_
    exact g_less (L' := [none, none]) trivial (J123 M5 h)
  have h := f9 hsw
  obtain ⟨t19, f20⟩ := br_e h
  by_cases hs1000 : r4 = (0 : Int32)
  · have h := t19 hs1000
    refine g_tableIn C tb_X11_drawAhead_0_ok (i := 4) 0 36 28 rfl hs1000 (by decide) rfl ?_
    refine g_aload_n C tb_X11_drawAhead_0_ok (i := 5) rfl rfl ?_
    obtain ⟨n10, h⟩ := gN_e h
    refine g_getR C tb_X11_drawAhead_0_ok (i := 6) rfl fl_X11_47 rfl k1 n10 ?_
    refine g_aload_n C tb_X11_drawAhead_0_ok (i := 7) rfl rfl ?_
    refine g_getR C tb_X11_drawAhead_0_ok (i := 8) rfl fl_X11_66 rfl k1 n2 ?_
    refine g_aload_n C tb_X11_drawAhead_0_ok (i := 9) rfl rfl ?_
    obtain ⟨n11, h⟩ := gN_e h
    refine g_getR C tb_X11_drawAhead_0_ok (i := 10) rfl fl_X11_19 rfl k1 n11 ?_
    obtain ⟨k12, h⟩ := gK_e h
    obtain ⟨r13, er13, h⟩ := cp_e h
    refine g_callV0 C tb_X11_drawAhead_0_ok (i := 11) [] rfl mw_X1_cells mv_X1_cells ml_X11_128 k12 rfl rfl rfl rfl (w_X1_cells C.G y (y.2.1 a0 1) M5) (pm_s er13) rfl rfl rfl ?_
    obtain ⟨r14, M15, er14, h⟩ := c0_e h
    refine g_callV0 C tb_X11_drawAhead_0_ok (i := 12) [.int r13] rfl mw_X3_draw mv_X3_draw ml_X11_360 k3 rfl rfl rfl rfl (w_X3_draw C.G y (y.2.1 a0 7) r13 M5) er14 rfl rfl rfl ?_
    refine g_bipushv C tb_X11_drawAhead_0_ok (i := 13) 20 rfl k_bipushv_20 ?_
    obtain ⟨k16, h⟩ := gK_e h
    obtain ⟨r17, M18, er17, h⟩ := c0_e h
    refine g_callV0 C tb_X11_drawAhead_0_ok (i := 14) [.int r14, .int (20 : Int32)] rfl mw_X8_addBlue mv_X8_addBlue ml_X11_363 k16 rfl rfl rfl rfl (w_X8_addBlue C.G y (y.2.1 a0 5) r14 (20 : Int32) M15) er17 rfl rfl rfl ?_
    refine g_goto C tb_X11_drawAhead_0_ok (i := 15) 123 rfl rfl ?_
    exact g_less (L' := [none, none]) trivial (J123 M18 h)
  have h := f20 hs1000
  obtain ⟨t34, f35⟩ := br_e h
  by_cases hs1001 : r4 = (1 : Int32)
  · have h := t34 hs1001
    refine g_tableIn C tb_X11_drawAhead_0_ok (i := 4) 1 62 54 rfl hs1001 (by decide) rfl ?_
    refine g_aload_n C tb_X11_drawAhead_0_ok (i := 16) rfl rfl ?_
    obtain ⟨n21, h⟩ := gN_e h
    refine g_getR C tb_X11_drawAhead_0_ok (i := 17) rfl fl_X11_19 rfl k1 n21 ?_
    obtain ⟨k22, h⟩ := gK_e h
    refine g_getI C tb_X11_drawAhead_0_ok (i := 18) rfl fl_X11_134 rfl k22 ?_
    obtain ⟨t23, f24⟩ := br_e h
    refine g_if_le C tb_X11_drawAhead_0_ok (i := 19) 123 rfl rfl (fun c => ?_) (fun c => ?_)
    · have h := t23 c
      exact g_less (L' := [none, none]) trivial (J123 M5 h)
    · have h := f24 c
      refine g_aload_n C tb_X11_drawAhead_0_ok (i := 20) rfl rfl ?_
      refine g_getR C tb_X11_drawAhead_0_ok (i := 21) rfl fl_X11_66 rfl k1 n2 ?_
      refine g_aload_n C tb_X11_drawAhead_0_ok (i := 22) rfl rfl ?_
      refine g_getR C tb_X11_drawAhead_0_ok (i := 23) rfl fl_X11_19 rfl k1 n21 ?_
      refine g_getI C tb_X11_drawAhead_0_ok (i := 24) rfl fl_X11_134 rfl k22 ?_
      obtain ⟨r25, M26, er25, h⟩ := c0_e h
      refine g_callV0 C tb_X11_drawAhead_0_ok (i := 25) [.int (M5.1 (y.2.1 a0 1) 4)] rfl mw_X3_draw mv_X3_draw ml_X11_360 k3 rfl rfl rfl rfl (w_X3_draw C.G y (y.2.1 a0 7) (M5.1 (y.2.1 a0 1) 4) M5) er25 rfl rfl rfl ?_
      refine g_istore_n C tb_X11_drawAhead_0_ok (i := 26) rfl rfl rfl ?_
      refine g_aload_n C tb_X11_drawAhead_0_ok (i := 27) rfl rfl ?_
      obtain ⟨n27, h⟩ := gN_e h
      refine g_getR C tb_X11_drawAhead_0_ok (i := 28) rfl fl_X11_47 rfl k1 n27 ?_
      refine g_iload_n C tb_X11_drawAhead_0_ok (i := 29) rfl rfl ?_
      refine g_aload_n C tb_X11_drawAhead_0_ok (i := 30) rfl rfl ?_
      refine g_getR C tb_X11_drawAhead_0_ok (i := 31) rfl fl_X11_66 rfl k1 n2 ?_
      refine g_aload_n C tb_X11_drawAhead_0_ok (i := 32) rfl rfl ?_
      refine g_getR C tb_X11_drawAhead_0_ok (i := 33) rfl fl_X11_19 rfl k1 n21 ?_
      obtain ⟨r28, er28, h⟩ := cp_e h
      refine g_callV0 C tb_X11_drawAhead_0_ok (i := 34) [] rfl mw_X1_cells mv_X1_cells ml_X11_128 k22 rfl rfl rfl rfl (w_X1_cells C.G y (y.2.1 a0 1) M26) (pm_s er28) rfl rfl rfl ?_
      obtain ⟨r29, M30, er29, h⟩ := c0_e h
      refine g_callV0 C tb_X11_drawAhead_0_ok (i := 35) [.int r28] rfl mw_X3_draw mv_X3_draw ml_X11_360 k3 rfl rfl rfl rfl (w_X3_draw C.G y (y.2.1 a0 7) r28 M26) er29 rfl rfl rfl ?_
      obtain ⟨k31, h⟩ := gK_e h
      obtain ⟨r32, M33, er32, h⟩ := c0_e h
      refine g_callV0 C tb_X11_drawAhead_0_ok (i := 36) [.int r25, .int r29] rfl mw_X8_setSpot mv_X8_setSpot ml_X11_231 k31 rfl rfl rfl rfl (w_X8_setSpot C.G y (y.2.1 a0 5) r25 r29 M30) er32 rfl rfl rfl ?_
      refine g_goto C tb_X11_drawAhead_0_ok (i := 37) 123 rfl rfl ?_
      exact g_less (L' := [none, none]) trivial (J123 M33 h)
  have h := f35 hs1001
  have hlast : r4 = (2 : Int32) := i32_sw (l := [(0 : Int32), (1 : Int32)]) (n := 2) hsw (by decide +kernel) (i32_ne [(0 : Int32), (1 : Int32)] rfl (by intro c hc; simp only [List.mem_cons, List.not_mem_nil, or_false] at hc; rcases hc with rfl | rfl <;> assumption))
  refine g_tableIn C tb_X11_drawAhead_0_ok (i := 4) 2 112 104 rfl hlast (by decide) rfl ?_
  refine g_aload_n C tb_X11_drawAhead_0_ok (i := 38) rfl rfl ?_
  obtain ⟨n36, h⟩ := gN_e h
  refine g_getR C tb_X11_drawAhead_0_ok (i := 39) rfl fl_X11_47 rfl k1 n36 ?_
  refine g_iconstv C tb_X11_drawAhead_1_ok (i := 0) 5 rfl k_iconstv_5 ?_
  obtain ⟨k37, h⟩ := gK_e h
  obtain ⟨r38, M39, er38, h⟩ := c0_e h
  refine g_callV0 C tb_X11_drawAhead_1_ok (i := 1) [.int (5 : Int32)] rfl mw_X8_addKnobs mv_X8_addKnobs ml_X11_235 k37 rfl rfl rfl rfl (w_X8_addKnobs C.G y (y.2.1 a0 5) (5 : Int32) M5) er38 rfl rfl rfl ?_
  refine g_goto C tb_X11_drawAhead_1_ok (i := 2) 123 rfl rfl ?_
  exact g_less (L' := [none, none]) trivial (J123 M39 h)
def f_X11_skies (y : Lay) (a0 : Nat) (a1 : Int32) (a2 : Int32) (a3 : Int32) (M : Mem) : Option (Nat × Int32 × Mem) := gK y a0 (0, 11) (cx (f_X11_needWhat y a0 a3 (2 : Int32) M) fun (r2 : Int32) (M3 : Mem) => cx (f_X11_needWithin y a0 a2 (0 : Int32) (40 : Int32) M3) fun (r4 : Int32) (M5 : Mem) => c0 (f_X11_lookAhead y a0 (0 : Int32) M5) fun (r6 : Int32) (M7 : Mem) => gN (y.2.1 a0 7) (gK y (y.2.1 a0 7) (0, 3) (lt (wI M7 (y.2.1 a0 7) 0 a1) fun (M10 : Mem) => fixN (fun _ _ => none) (fun (s13 : Int32 → Mem → Option (Nat × Int32 × Mem)) (v11 : Int32) (M12 : Mem) => br (a2 ≤ v11) (br (a3 = (0 : Int32)) (gN (y.2.1 a0 5) (gK y (y.2.1 a0 5) (0, 8) (gN (y.2.1 a0 3) (gK y (y.2.1 a0 3) (0, 4) (gN (y.2.1 (y.2.1 a0 3) 0) (gK y (y.2.1 (y.2.1 a0 3) 0) (0, 8) (some (0, ((M12.1 (y.2.1 a0 5) 10) - (M12.1 (y.2.1 (y.2.1 a0 3) 0) 10)), M12)))))))) (br (a3 = (1 : Int32)) (gN (y.2.1 a0 5) (gK y (y.2.1 a0 5) (0, 8) (cp (f_X8_allBlue y (y.2.1 a0 5) M12) fun (r27 : Int32) => some (0, r27, M12)))) (gN (y.2.1 a0 5) (gK y (y.2.1 a0 5) (0, 8) (some (0, (M12.1 (y.2.1 a0 5) 9), M12)))))) (c0 (f_X11_drawAhead y a0 M12) fun (r32 : Int32) (M33 : Mem) => gN (y.2.1 a0 5) (gK y (y.2.1 a0 5) (0, 8) (c0 (f_X8_passDay y (y.2.1 a0 5) M33) fun (r36 : Int32) (M37 : Mem) => lt (v11 + (1 : Int32)) fun (v38 : Int32) => s13 v38 M37)))) FUEL (0 : Int32) M10)))
theorem w_X11_skies {g : GX} {l : Launch} (hG : GF g l) (y : Lay) (a0 : Nat) (a1 : Int32) (a2 : Int32) (a3 : Int32) (M : Mem) : C1 g l yX11_skies cX11_skies 5 (some .int) 6 2 12 y [.ref a0, .int a1, .int a2, .int a3] M (f_X11_skies y a0 a1 a2 a3 M) := by
  refine C1_of hG (by decide) [some (.ref a0), some (.int a1), some (.int a2), some (.int a3), none] rfl rfl (fun out h x Q C R => ?_)
  unfold f_X11_skies at h
  refine g_aload_n C tb_X11_skies_0_ok (i := 0) rfl rfl ?_
  refine g_iload_n C tb_X11_skies_0_ok (i := 1) rfl rfl ?_
  refine g_iconstv C tb_X11_skies_0_ok (i := 2) 2 rfl k_iconstv_2 ?_
  obtain ⟨k1, h⟩ := gK_e h
  refine g_callV1 C tb_X11_skies_0_ok (i := 3) R [.int a3, .int (2 : Int32)] rfl mw_X11_needWhat mv_X11_needWhat ml_X11_255 k1 rfl rfl rfl rfl (w_X11_needWhat C.G y a0 a3 (2 : Int32) M) h rfl rfl rfl (fun r2 M3 h => ?_)
  refine g_aload_n C tb_X11_skies_0_ok (i := 4) rfl rfl ?_
  refine g_iload_n C tb_X11_skies_0_ok (i := 5) rfl rfl ?_
  refine g_iconstv C tb_X11_skies_0_ok (i := 6) 0 rfl k_iconstv_0 ?_
  refine g_bipushv C tb_X11_skies_0_ok (i := 7) 40 rfl k_bipushv_40 ?_
  refine g_callV1 C tb_X11_skies_0_ok (i := 8) R [.int a2, .int (0 : Int32), .int (40 : Int32)] rfl mw_X11_needWithin mv_X11_needWithin ml_X11_248 k1 rfl rfl rfl rfl (w_X11_needWithin C.G y a0 a2 (0 : Int32) (40 : Int32) M3) h rfl rfl rfl (fun r4 M5 h => ?_)
  refine g_aload_n C tb_X11_skies_0_ok (i := 9) rfl rfl ?_
  refine g_iconstv C tb_X11_skies_0_ok (i := 10) 0 rfl k_iconstv_0 ?_
  obtain ⟨r6, M7, er6, h⟩ := c0_e h
  refine g_callV0 C tb_X11_skies_0_ok (i := 11) [.int (0 : Int32)] rfl mw_X11_lookAhead mv_X11_lookAhead ml_X11_252 k1 rfl rfl rfl rfl (w_X11_lookAhead C.G y a0 (0 : Int32) M5) er6 rfl rfl rfl ?_
  refine g_aload_n C tb_X11_skies_0_ok (i := 12) rfl rfl ?_
  obtain ⟨n8, h⟩ := gN_e h
  refine g_getR C tb_X11_skies_0_ok (i := 13) rfl fl_X11_66 rfl k1 n8 ?_
  refine g_iload_n C tb_X11_skies_0_ok (i := 14) rfl rfl ?_
  obtain ⟨k9, h⟩ := gK_e h
  refine g_putI C tb_X11_skies_0_ok (i := 15) rfl fl_X11_334 ft_3_0 rfl k9 ?_
  refine g_mem (fun M10 eM10 => ?_)
  have h := lt_e eM10 h
  refine g_iconstv C tb_X11_skies_0_ok (i := 16) 0 rfl k_iconstv_0 ?_
  refine g_istore C tb_X11_skies_0_ok (i := 17) rfl rfl rfl ?_
  refine g_less (L' := [some (.ref a0), none, some (.int a2), some (.int a3), some (.int (0 : Int32))]) ⟨rfl, ⟨rfl, ⟨rfl, ⟨rfl, trivial⟩⟩⟩⟩ ?_
  refine fix_i (P := fun (f : Int32 → Mem → Option (Nat × Int32 × Mem)) => ∀ (v11 : Int32) (M12 : Mem), f v11 M12 = some out → GG g x 5 Q 2 12 y M12 30 [some (.ref a0), none, some (.int a2), some (.int a3), some (.int v11)] []) ?_ ?_ _ (0 : Int32) M10 h
  · intro v11 M12 h; exact (nn_e h).elim
  · intro s13 ih14 v11 M12 h
    refine g_iload C tb_X11_skies_0_ok (i := 18) rfl rfl ?_
    refine g_iload_n C tb_X11_skies_0_ok (i := 19) rfl rfl ?_
    obtain ⟨t15, f16⟩ := br_e h
    refine g_icmp_ge C tb_X11_skies_0_ok (i := 20) 53 rfl rfl (fun c => ?_) (fun c => ?_)
    · have h := t15 c
      refine g_iload_n C tb_X11_skies_0_ok (i := 28) rfl rfl ?_
      obtain ⟨t23, f24⟩ := br_e h
      by_cases hs1000 : a3 = (0 : Int32)
      · have h := t23 hs1000
        refine g_lookup C tb_X11_skies_0_ok (i := 29) 80 26 rfl (by decide) (by rw [hs1000]; decide) rfl ?_
        refine g_aload_n C tb_X11_skies_0_ok (i := 30) rfl rfl ?_
        obtain ⟨n17, h⟩ := gN_e h
        refine g_getR C tb_X11_skies_0_ok (i := 31) rfl fl_X11_47 rfl k1 n17 ?_
        obtain ⟨k18, h⟩ := gK_e h
        refine g_getI C tb_X11_skies_0_ok (i := 32) rfl fl_X11_149 rfl k18 ?_
        refine g_aload_n C tb_X11_skies_0_ok (i := 33) rfl rfl ?_
        obtain ⟨n19, h⟩ := gN_e h
        refine g_getR C tb_X11_skies_0_ok (i := 34) rfl fl_X11_37 rfl k1 n19 ?_
        obtain ⟨k20, h⟩ := gK_e h
        obtain ⟨n21, h⟩ := gN_e h
        refine g_getR C tb_X11_skies_0_ok (i := 35) rfl fl_X11_53 rfl k20 n21 ?_
        obtain ⟨k22, h⟩ := gK_e h
        refine g_getI C tb_X11_skies_0_ok (i := 36) rfl fl_X11_149 rfl k22 ?_
        refine g_isub C tb_X11_skies_0_ok (i := 37) rfl ?_
        cases h
        exact g_iret1 C R rfl rfl tb_X11_skies_0_ok (i := 38) rfl
      have h := f24 hs1000
      obtain ⟨t28, f29⟩ := br_e h
      by_cases hs1001 : a3 = (1 : Int32)
      · have h := t28 hs1001
        refine g_lookup C tb_X11_skies_0_ok (i := 29) 99 45 rfl (by decide) (by rw [hs1001]; decide) rfl ?_
        refine g_aload_n C tb_X11_skies_0_ok (i := 39) rfl rfl ?_
        obtain ⟨n25, h⟩ := gN_e h
        refine g_getR C tb_X11_skies_1_ok (i := 0) rfl fl_X11_47 rfl k1 n25 ?_
        obtain ⟨k26, h⟩ := gK_e h
        obtain ⟨r27, er27, h⟩ := cp_e h
        refine g_callV0 C tb_X11_skies_1_ok (i := 1) [] rfl mw_X8_allBlue mv_X8_allBlue ml_X11_158 k26 rfl rfl rfl rfl (w_X8_allBlue C.G y (y.2.1 a0 5) M12) (pm_s er27) rfl rfl rfl ?_
        cases h
        exact g_iret1 C R rfl rfl tb_X11_skies_1_ok (i := 2) rfl
      have h := f29 hs1001
      refine g_lookup C tb_X11_skies_0_ok (i := 29) 107 53 rfl (by decide) (lk_df (by simp only [List.forall_mem_cons, List.not_mem_nil, false_implies, implies_true, and_true]; exact ⟨fun e => hs1000 (Int32.toInt_inj.mp e.symm), fun e => hs1001 (Int32.toInt_inj.mp e.symm)⟩)) rfl ?_
      refine g_aload_n C tb_X11_skies_1_ok (i := 3) rfl rfl ?_
      obtain ⟨n30, h⟩ := gN_e h
      refine g_getR C tb_X11_skies_1_ok (i := 4) rfl fl_X11_47 rfl k1 n30 ?_
      obtain ⟨k31, h⟩ := gK_e h
      refine g_getI C tb_X11_skies_1_ok (i := 5) rfl fl_X11_140 rfl k31 ?_
      cases h
      exact g_iret1 C R rfl rfl tb_X11_skies_1_ok (i := 6) rfl
    · have h := f16 c
      refine g_aload_n C tb_X11_skies_0_ok (i := 21) rfl rfl ?_
      obtain ⟨r32, M33, er32, h⟩ := c0_e h
      refine g_callV0 C tb_X11_skies_0_ok (i := 22) [] rfl mw_X11_drawAhead mv_X11_drawAhead ml_X11_337 k1 rfl rfl rfl rfl (w_X11_drawAhead C.G y a0 M12) er32 rfl rfl rfl ?_
      refine g_aload_n C tb_X11_skies_0_ok (i := 23) rfl rfl ?_
      obtain ⟨n34, h⟩ := gN_e h
      refine g_getR C tb_X11_skies_0_ok (i := 24) rfl fl_X11_47 rfl k1 n34 ?_
      obtain ⟨k35, h⟩ := gK_e h
      obtain ⟨r36, M37, er36, h⟩ := c0_e h
      refine g_callV0 C tb_X11_skies_0_ok (i := 25) [] rfl mw_X8_passDay mv_X8_passDay ml_X11_221 k35 rfl rfl rfl rfl (w_X8_passDay C.G y (y.2.1 a0 5) M33) er36 rfl rfl rfl ?_
      obtain ⟨v38, ev38⟩ : ∃ w : Int32, w = v11 + (1 : Int32) := ⟨_, rfl⟩
      have h := lt_e ev38 h
      refine g_iincv C tb_X11_skies_0_ok (i := 26) (1 : Int32) ev38 rfl rfl k_iconstv_1 rfl rfl ?_
      refine g_goto C tb_X11_skies_0_ok (i := 27) 30 rfl rfl ?_
      exact g_less (L' := [some (.ref a0), none, some (.int a2), some (.int a3), some (.int v38)]) ⟨rfl, ⟨rfl, ⟨rfl, ⟨rfl, trivial⟩⟩⟩⟩ (ih14 v38 M37 h)
def f_X12_begin (y : Lay) (a0 : Nat) (a1 : Int32) (M : Mem) : Option (Int32 × Mem) := gK y a0 (0, 12) (gN (y.2.1 a0 5) (gA y (y.2.1 a0 5) 1 a1 (lt (wI M (y.2.1 a0 5) a1.toNatClampNeg (3 : Int32)) fun (M4 : Mem) => gA y (y.2.1 a0 5) 1 (a1 + (1 : Int32)) (lt (wI M4 (y.2.1 a0 5) (a1 + (1 : Int32)).toNatClampNeg (3 : Int32)) fun (M6 : Mem) => gA y (y.2.1 a0 5) 1 (a1 + (2 : Int32)) (lt (wI M6 (y.2.1 a0 5) (a1 + (2 : Int32)).toNatClampNeg (0 : Int32)) fun (M8 : Mem) => gA y (y.2.1 a0 5) 1 (a1 + (3 : Int32)) (lt (wI M8 (y.2.1 a0 5) (a1 + (3 : Int32)).toNatClampNeg (20 : Int32)) fun (M10 : Mem) => gA y (y.2.1 a0 5) 1 (a1 + (4 : Int32)) (lt (wI M10 (y.2.1 a0 5) (a1 + (4 : Int32)).toNatClampNeg (2 : Int32)) fun (M12 : Mem) => gA y (y.2.1 a0 5) 1 (a1 + (5 : Int32)) (lt (wI M12 (y.2.1 a0 5) (a1 + (5 : Int32)).toNatClampNeg (60 : Int32)) fun (M14 : Mem) => fixN (fun _ _ => none) (fun (s17 : Int32 → Mem → Option (Int32 × Mem)) (v15 : Int32) (M16 : Mem) => br ((9 : Int32) ≤ v15) (some (0, M16)) (gA y (y.2.1 a0 5) 1 (a1 + v15) (lt (wI M16 (y.2.1 a0 5) (a1 + v15).toNatClampNeg (0 : Int32)) fun (M22 : Mem) => lt (v15 + (1 : Int32)) fun (v23 : Int32) => s17 v23 M22))) FUEL (6 : Int32) M14))))))))
theorem w_X12_begin {g : GX} {l : Launch} (hG : GF g l) (y : Lay) (a0 : Nat) (a1 : Int32) (M : Mem) : C0 g l yX12_begin cX12_begin 3 none 0 y [.ref a0, .int a1] M (f_X12_begin y a0 a1 M) := by
  refine C0_of hG (by decide) [some (.ref a0), some (.int a1), none] rfl rfl (fun out h x Q C R => ?_)
  unfold f_X12_begin at h
  refine g_aload_n C tb_X12_begin_0_ok (i := 0) rfl rfl ?_
  obtain ⟨k1, h⟩ := gK_e h
  obtain ⟨n2, h⟩ := gN_e h
  refine g_getR C tb_X12_begin_0_ok (i := 1) rfl fl_X12_40 rfl k1 n2 ?_
  refine g_iload_n C tb_X12_begin_0_ok (i := 2) rfl rfl ?_
  refine g_iconstv C tb_X12_begin_0_ok (i := 3) 3 rfl k_iconstv_3 ?_
  obtain ⟨b3, h⟩ := gA_e h
  refine g_iast C tb_X12_begin_0_ok (i := 4) rfl b3 ?_
  refine g_mem (fun M4 eM4 => ?_)
  have h := lt_e eM4 h
  refine g_aload_n C tb_X12_begin_0_ok (i := 5) rfl rfl ?_
  refine g_getR C tb_X12_begin_0_ok (i := 6) rfl fl_X12_40 rfl k1 n2 ?_
  refine g_iload_n C tb_X12_begin_0_ok (i := 7) rfl rfl ?_
  refine g_iconstv C tb_X12_begin_0_ok (i := 8) 1 rfl k_iconstv_1 ?_
  refine g_iadd C tb_X12_begin_0_ok (i := 9) rfl ?_
  refine g_iconstv C tb_X12_begin_0_ok (i := 10) 3 rfl k_iconstv_3 ?_
  obtain ⟨b5, h⟩ := gA_e h
  refine g_iast C tb_X12_begin_0_ok (i := 11) rfl b5 ?_
  refine g_mem (fun M6 eM6 => ?_)
  have h := lt_e eM6 h
  refine g_aload_n C tb_X12_begin_0_ok (i := 12) rfl rfl ?_
  refine g_getR C tb_X12_begin_0_ok (i := 13) rfl fl_X12_40 rfl k1 n2 ?_
  refine g_iload_n C tb_X12_begin_0_ok (i := 14) rfl rfl ?_
  refine g_iconstv C tb_X12_begin_0_ok (i := 15) 2 rfl k_iconstv_2 ?_
  refine g_iadd C tb_X12_begin_0_ok (i := 16) rfl ?_
  refine g_iconstv C tb_X12_begin_0_ok (i := 17) 0 rfl k_iconstv_0 ?_
  obtain ⟨b7, h⟩ := gA_e h
  refine g_iast C tb_X12_begin_0_ok (i := 18) rfl b7 ?_
  refine g_mem (fun M8 eM8 => ?_)
  have h := lt_e eM8 h
  refine g_aload_n C tb_X12_begin_0_ok (i := 19) rfl rfl ?_
  refine g_getR C tb_X12_begin_0_ok (i := 20) rfl fl_X12_40 rfl k1 n2 ?_
  refine g_iload_n C tb_X12_begin_0_ok (i := 21) rfl rfl ?_
  refine g_iconstv C tb_X12_begin_0_ok (i := 22) 3 rfl k_iconstv_3 ?_
  refine g_iadd C tb_X12_begin_0_ok (i := 23) rfl ?_
  refine g_bipushv C tb_X12_begin_0_ok (i := 24) 20 rfl k_bipushv_20 ?_
  obtain ⟨b9, h⟩ := gA_e h
  refine g_iast C tb_X12_begin_0_ok (i := 25) rfl b9 ?_
  refine g_mem (fun M10 eM10 => ?_)
  have h := lt_e eM10 h
  refine g_aload_n C tb_X12_begin_0_ok (i := 26) rfl rfl ?_
  refine g_getR C tb_X12_begin_0_ok (i := 27) rfl fl_X12_40 rfl k1 n2 ?_
  refine g_iload_n C tb_X12_begin_0_ok (i := 28) rfl rfl ?_
  refine g_iconstv C tb_X12_begin_0_ok (i := 29) 4 rfl k_iconstv_4 ?_
  refine g_iadd C tb_X12_begin_0_ok (i := 30) rfl ?_
  refine g_iconstv C tb_X12_begin_0_ok (i := 31) 2 rfl k_iconstv_2 ?_
  obtain ⟨b11, h⟩ := gA_e h
  refine g_iast C tb_X12_begin_0_ok (i := 32) rfl b11 ?_
  refine g_mem (fun M12 eM12 => ?_)
  have h := lt_e eM12 h
  refine g_aload_n C tb_X12_begin_0_ok (i := 33) rfl rfl ?_
  refine g_getR C tb_X12_begin_0_ok (i := 34) rfl fl_X12_40 rfl k1 n2 ?_
  refine g_iload_n C tb_X12_begin_0_ok (i := 35) rfl rfl ?_
  refine g_iconstv C tb_X12_begin_0_ok (i := 36) 5 rfl k_iconstv_5 ?_
  refine g_iadd C tb_X12_begin_0_ok (i := 37) rfl ?_
  refine g_bipushv C tb_X12_begin_0_ok (i := 38) 60 rfl k_bipushv_60 ?_
  obtain ⟨b13, h⟩ := gA_e h
  refine g_iast C tb_X12_begin_0_ok (i := 39) rfl b13 ?_
  refine g_mem (fun M14 eM14 => ?_)
  have h := lt_e eM14 h
  refine g_bipushv C tb_X12_begin_1_ok (i := 0) 6 rfl k_bipushv_6 ?_
  refine g_istore_n C tb_X12_begin_1_ok (i := 1) rfl rfl rfl ?_
  refine g_less (L' := [some (.ref a0), some (.int a1), some (.int (6 : Int32))]) ⟨rfl, ⟨rfl, ⟨rfl, trivial⟩⟩⟩ ?_
  refine fix_i (P := fun (f : Int32 → Mem → Option (Int32 × Mem)) => ∀ (v15 : Int32) (M16 : Mem), f v15 M16 = some out → GG g x 3 Q 0 0 y M16 57 [some (.ref a0), some (.int a1), some (.int v15)] []) ?_ ?_ _ (6 : Int32) M14 h
  · intro v15 M16 h; exact (nn_e h).elim
  · intro s17 ih18 v15 M16 h
    refine g_iload_n C tb_X12_begin_1_ok (i := 2) rfl rfl ?_
    refine g_bipushv C tb_X12_begin_1_ok (i := 3) 9 rfl k_bipushv_9 ?_
    obtain ⟨t19, f20⟩ := br_e h
    refine g_icmp_ge C tb_X12_begin_1_ok (i := 4) 78 rfl rfl (fun c => ?_) (fun c => ?_)
    · have h := t19 c
      cases h
      exact g_vret0 C R tb_X12_begin_1_ok (i := 14) rfl
    · have h := f20 c
      refine g_aload_n C tb_X12_begin_1_ok (i := 5) rfl rfl ?_
      refine g_getR C tb_X12_begin_1_ok (i := 6) rfl fl_X12_40 rfl k1 n2 ?_
      refine g_iload_n C tb_X12_begin_1_ok (i := 7) rfl rfl ?_
      refine g_iload_n C tb_X12_begin_1_ok (i := 8) rfl rfl ?_
      refine g_iadd C tb_X12_begin_1_ok (i := 9) rfl ?_
      refine g_iconstv C tb_X12_begin_1_ok (i := 10) 0 rfl k_iconstv_0 ?_
      obtain ⟨b21, h⟩ := gA_e h
      refine g_iast C tb_X12_begin_1_ok (i := 11) rfl b21 ?_
      refine g_mem (fun M22 eM22 => ?_)
      have h := lt_e eM22 h
      obtain ⟨v23, ev23⟩ : ∃ w : Int32, w = v15 + (1 : Int32) := ⟨_, rfl⟩
      have h := lt_e ev23 h
      refine g_iincv C tb_X12_begin_1_ok (i := 12) (1 : Int32) ev23 rfl rfl k_iconstv_1 rfl rfl ?_
      refine g_goto C tb_X12_begin_1_ok (i := 13) 57 rfl rfl ?_
      exact g_less (L' := [some (.ref a0), some (.int a1), some (.int v23)]) ⟨rfl, ⟨rfl, ⟨rfl, trivial⟩⟩⟩ (ih18 v23 M22 h)
def f_X12_init (y : Lay) (a0 : Nat) (M : Mem) : Option (Lay × Mem) := gd (y.2.2 + 2 ≤ 1000) (lt (psh y (4, 2)) fun (y2 : Lay) => lt (zM M (y.2.2 + 1)) fun (M3 : Mem) => gA y2 (y.2.2 + 1) 4 (0 : Int32) (lt (wF y2 (y.2.2 + 1) (0 : Int32).toNatClampNeg 1019) fun (y5 : Lay) => gA y5 (y.2.2 + 1) 4 (1 : Int32) (lt (wF y5 (y.2.2 + 1) (1 : Int32).toNatClampNeg 1020) fun (y7 : Lay) => gK y7 a0 (0, 12) (gN (y.2.2 + 1) (lt (wF y7 a0 0 (y.2.2 + 1)) fun (y10 : Lay) => gd (y10.2.2 + 2 ≤ 1000) (lt (psh y10 (4, 6)) fun (y12 : Lay) => lt (zM M3 (y10.2.2 + 1)) fun (M13 : Mem) => gA y12 (y10.2.2 + 1) 4 (0 : Int32) (lt (wF y12 (y10.2.2 + 1) (0 : Int32).toNatClampNeg 1021) fun (y15 : Lay) => gA y15 (y10.2.2 + 1) 4 (1 : Int32) (lt (wF y15 (y10.2.2 + 1) (1 : Int32).toNatClampNeg 1022) fun (y17 : Lay) => gA y17 (y10.2.2 + 1) 4 (2 : Int32) (lt (wF y17 (y10.2.2 + 1) (2 : Int32).toNatClampNeg 1023) fun (y19 : Lay) => gA y19 (y10.2.2 + 1) 4 (3 : Int32) (lt (wF y19 (y10.2.2 + 1) (3 : Int32).toNatClampNeg 1024) fun (y21 : Lay) => gA y21 (y10.2.2 + 1) 4 (4 : Int32) (lt (wF y21 (y10.2.2 + 1) (4 : Int32).toNatClampNeg 1025) fun (y23 : Lay) => gA y23 (y10.2.2 + 1) 4 (5 : Int32) (lt (wF y23 (y10.2.2 + 1) (5 : Int32).toNatClampNeg 1026) fun (y25 : Lay) => gK y25 a0 (0, 12) (gN (y10.2.2 + 1) (lt (wF y25 a0 1 (y10.2.2 + 1)) fun (y28 : Lay) => gd (y28.2.2 + 2 ≤ 1000) (lt (psh y28 (4, 4)) fun (y30 : Lay) => lt (zM M13 (y28.2.2 + 1)) fun (M31 : Mem) => gA y30 (y28.2.2 + 1) 4 (0 : Int32) (lt (wF y30 (y28.2.2 + 1) (0 : Int32).toNatClampNeg 1021) fun (y33 : Lay) => gA y33 (y28.2.2 + 1) 4 (1 : Int32) (lt (wF y33 (y28.2.2 + 1) (1 : Int32).toNatClampNeg 1022) fun (y35 : Lay) => gA y35 (y28.2.2 + 1) 4 (2 : Int32) (lt (wF y35 (y28.2.2 + 1) (2 : Int32).toNatClampNeg 1023) fun (y37 : Lay) => gA y37 (y28.2.2 + 1) 4 (3 : Int32) (lt (wF y37 (y28.2.2 + 1) (3 : Int32).toNatClampNeg 1024) fun (y39 : Lay) => gK y39 a0 (0, 12) (gN (y28.2.2 + 1) (lt (wF y39 a0 2 (y28.2.2 + 1)) fun (y42 : Lay) => gK y42 a0 (0, 12) (gN (y42.2.1 a0 1) (lt (wR M31 a0 3 (y42.2.1 a0 1)) fun (M45 : Mem) => gd (y42.2.2 + 2 ≤ 1000) (lt (psh y42 (1, 18)) fun (y47 : Lay) => lt (zM M45 (y42.2.2 + 1)) fun (M48 : Mem) => gK y47 a0 (0, 12) (gN (y42.2.2 + 1) (lt (wF y47 a0 5 (y42.2.2 + 1)) fun (y51 : Lay) => gd (y51.2.2 + 2 ≤ 1000) (lt (psh y51 (1, 60)) fun (y53 : Lay) => lt (zM M48 (y51.2.2 + 1)) fun (M54 : Mem) => gK y53 a0 (0, 12) (gN (y51.2.2 + 1) (lt (wF y53 a0 6 (y51.2.2 + 1)) fun (y57 : Lay) => gd (y57.2.2 + 2 ≤ 1000) (lt (psh y57 (1, 12)) fun (y59 : Lay) => lt (zM M54 (y57.2.2 + 1)) fun (M60 : Mem) => gK y59 a0 (0, 12) (gN (y57.2.2 + 1) (lt (wF y59 a0 7 (y57.2.2 + 1)) fun (y63 : Lay) => gd (y63.2.2 + 2 ≤ 1000) (lt (psh y63 (1, 12)) fun (y65 : Lay) => lt (zM M60 (y63.2.2 + 1)) fun (M66 : Mem) => gK y65 a0 (0, 12) (gN (y63.2.2 + 1) (lt (wF y65 a0 8 (y63.2.2 + 1)) fun (y69 : Lay) => gd (y69.2.2 + 2 ≤ 1000) (lt (psh y69 (1, 12)) fun (y71 : Lay) => lt (zM M66 (y69.2.2 + 1)) fun (M72 : Mem) => gK y71 a0 (0, 12) (gN (y69.2.2 + 1) (lt (wF y71 a0 9 (y69.2.2 + 1)) fun (y75 : Lay) => gd (y75.2.2 + 2 ≤ 1000) (lt (psh y75 (1, 1400)) fun (y77 : Lay) => lt (zM M72 (y75.2.2 + 1)) fun (M78 : Mem) => gK y77 a0 (0, 12) (gN (y75.2.2 + 1) (lt (wF y77 a0 10 (y75.2.2 + 1)) fun (y81 : Lay) => gd (y81.2.2 + 2 ≤ 1000) (lt (psh y81 (1, 1400)) fun (y83 : Lay) => lt (zM M78 (y81.2.2 + 1)) fun (M84 : Mem) => gK y83 a0 (0, 12) (gN (y81.2.2 + 1) (lt (wF y83 a0 11 (y81.2.2 + 1)) fun (y87 : Lay) => gd (y87.2.2 + 2 ≤ 1000) (lt (psh y87 (1, 3)) fun (y89 : Lay) => lt (zM M84 (y87.2.2 + 1)) fun (M90 : Mem) => gK y89 a0 (0, 12) (gN (y87.2.2 + 1) (lt (wF y89 a0 12 (y87.2.2 + 1)) fun (y93 : Lay) => gd (y93.2.2 + 2 ≤ 1000) (lt (psh y93 (1, 6)) fun (y95 : Lay) => lt (zM M90 (y93.2.2 + 1)) fun (M96 : Mem) => gK y95 a0 (0, 12) (gN (y93.2.2 + 1) (lt (wF y95 a0 13 (y93.2.2 + 1)) fun (y99 : Lay) => gd (y99.2.2 + 2 ≤ 1000) (lt (psh y99 (1, 700)) fun (y101 : Lay) => lt (zM M96 (y99.2.2 + 1)) fun (M102 : Mem) => gK y101 a0 (0, 12) (gN (y99.2.2 + 1) (lt (wF y101 a0 14 (y99.2.2 + 1)) fun (y105 : Lay) => gK y105 a0 (0, 12) (lt (wI M102 a0 24 ((-1) : Int32)) fun (M107 : Mem) => gd (y105.2.2 + 2 ≤ 1000) (lt (psh y105 (1, 30)) fun (y109 : Lay) => lt (zM M107 (y105.2.2 + 1)) fun (M110 : Mem) => gK y109 a0 (0, 12) (gN (y105.2.2 + 1) (lt (wF y109 a0 28 (y105.2.2 + 1)) fun (y113 : Lay) => gd (y113.2.2 + 2 ≤ 1000) (lt (psh y113 (1, 6)) fun (y115 : Lay) => lt (zM M110 (y113.2.2 + 1)) fun (M116 : Mem) => gK y115 a0 (0, 12) (gN (y113.2.2 + 1) (lt (wF y115 a0 29 (y113.2.2 + 1)) fun (y119 : Lay) => gd (y119.2.2 + 2 ≤ 1000) (lt (psh y119 (1, 1640)) fun (y121 : Lay) => lt (zM M116 (y119.2.2 + 1)) fun (M122 : Mem) => gK y121 a0 (0, 12) (gN (y119.2.2 + 1) (lt (wF y121 a0 30 (y119.2.2 + 1)) fun (y125 : Lay) => gd (y125.2.2 + 2 ≤ 1000) (lt (psh y125 (1, 6)) fun (y127 : Lay) => lt (zM M122 (y125.2.2 + 1)) fun (M128 : Mem) => gK y127 a0 (0, 12) (gN (y125.2.2 + 1) (lt (wF y127 a0 38 (y125.2.2 + 1)) fun (y131 : Lay) => gd (y131.2.2 + 2 ≤ 1000) (lt (psh y131 (1, 64)) fun (y133 : Lay) => lt (zM M128 (y131.2.2 + 1)) fun (M134 : Mem) => gK y133 a0 (0, 12) (gN (y131.2.2 + 1) (lt (wF y133 a0 39 (y131.2.2 + 1)) fun (y137 : Lay) => gd (y137.2.2 + 2 ≤ 1000) (lt (psh y137 (1, 30)) fun (y139 : Lay) => lt (zM M134 (y137.2.2 + 1)) fun (M140 : Mem) => gK y139 a0 (0, 12) (gN (y137.2.2 + 1) (lt (wF y139 a0 40 (y137.2.2 + 1)) fun (y143 : Lay) => gd (y143.2.2 + 2 ≤ 1000) (lt (psh y143 (1, 41)) fun (y145 : Lay) => lt (zM M140 (y143.2.2 + 1)) fun (M146 : Mem) => gK y145 a0 (0, 12) (gN (y143.2.2 + 1) (lt (wF y145 a0 42 (y143.2.2 + 1)) fun (y149 : Lay) => gd (y149.2.2 + 2 ≤ 1000) (lt (psh y149 (1, 30)) fun (y151 : Lay) => lt (zM M146 (y149.2.2 + 1)) fun (M152 : Mem) => gK y151 a0 (0, 12) (gN (y149.2.2 + 1) (lt (wF y151 a0 43 (y149.2.2 + 1)) fun (y155 : Lay) => gd (y155.2.2 + 2 ≤ 1000) (lt (psh y155 (1, 448)) fun (y157 : Lay) => lt (zM M152 (y155.2.2 + 1)) fun (M158 : Mem) => gK y157 a0 (0, 12) (gN (y155.2.2 + 1) (lt (wF y157 a0 44 (y155.2.2 + 1)) fun (y161 : Lay) => gd (y161.2.2 + 2 ≤ 1000) (lt (psh y161 (1, 6)) fun (y163 : Lay) => lt (zM M158 (y161.2.2 + 1)) fun (M164 : Mem) => gK y163 a0 (0, 12) (gN (y161.2.2 + 1) (lt (wF y163 a0 45 (y161.2.2 + 1)) fun (y167 : Lay) => gd (y167.2.2 + 2 ≤ 1000) (lt (psh y167 (1, 8)) fun (y169 : Lay) => lt (zM M164 (y167.2.2 + 1)) fun (M170 : Mem) => gK y169 a0 (0, 12) (gN (y167.2.2 + 1) (lt (wF y169 a0 46 (y167.2.2 + 1)) fun (y173 : Lay) => gd (y173.2.2 + 2 ≤ 1000) (lt (psh y173 (1, 8)) fun (y175 : Lay) => lt (zM M170 (y173.2.2 + 1)) fun (M176 : Mem) => gK y175 a0 (0, 12) (gN (y173.2.2 + 1) (lt (wF y175 a0 47 (y173.2.2 + 1)) fun (y179 : Lay) => gd (y179.2.2 + 2 ≤ 1000) (lt (psh y179 (1, 8)) fun (y181 : Lay) => lt (zM M176 (y179.2.2 + 1)) fun (M182 : Mem) => gK y181 a0 (0, 12) (gN (y179.2.2 + 1) (lt (wF y181 a0 48 (y179.2.2 + 1)) fun (y185 : Lay) => gd (y185.2.2 + 2 ≤ 1000) (lt (psh y185 (1, 41)) fun (y187 : Lay) => lt (zM M182 (y185.2.2 + 1)) fun (M188 : Mem) => gK y187 a0 (0, 12) (gN (y185.2.2 + 1) (lt (wF y187 a0 49 (y185.2.2 + 1)) fun (y191 : Lay) => gd (y191.2.2 + 2 ≤ 1000) (lt (psh y191 (1, 60)) fun (y193 : Lay) => lt (zM M188 (y191.2.2 + 1)) fun (M194 : Mem) => gK y193 a0 (0, 12) (gN (y191.2.2 + 1) (lt (wF y193 a0 50 (y191.2.2 + 1)) fun (y197 : Lay) => gd (y197.2.2 + 2 ≤ 1000) (lt (psh y197 (1, 1800)) fun (y199 : Lay) => lt (zM M194 (y197.2.2 + 1)) fun (M200 : Mem) => gK y199 a0 (0, 12) (gN (y197.2.2 + 1) (lt (wF y199 a0 51 (y197.2.2 + 1)) fun (y203 : Lay) => gd (y203.2.2 + 2 ≤ 1000) (lt (psh y203 (1, 8)) fun (y205 : Lay) => lt (zM M200 (y203.2.2 + 1)) fun (M206 : Mem) => gK y205 a0 (0, 12) (gN (y203.2.2 + 1) (lt (wF y205 a0 53 (y203.2.2 + 1)) fun (y209 : Lay) => gd (y209.2.2 + 2 ≤ 1000) (lt (psh y209 (1, 41)) fun (y211 : Lay) => lt (zM M206 (y209.2.2 + 1)) fun (M212 : Mem) => gK y211 a0 (0, 12) (gN (y209.2.2 + 1) (lt (wF y211 a0 58 (y209.2.2 + 1)) fun (y215 : Lay) => gd (y215.2.2 + 2 ≤ 1000) (lt (psh y215 (1, 1640)) fun (y217 : Lay) => lt (zM M212 (y215.2.2 + 1)) fun (M218 : Mem) => gK y217 a0 (0, 12) (gN (y215.2.2 + 1) (lt (wF y217 a0 59 (y215.2.2 + 1)) fun (y221 : Lay) => gd (y221.2.2 + 2 ≤ 1000) (lt (psh y221 (1, 8)) fun (y223 : Lay) => lt (zM M218 (y221.2.2 + 1)) fun (M224 : Mem) => gK y223 a0 (0, 12) (gN (y221.2.2 + 1) (lt (wF y223 a0 60 (y221.2.2 + 1)) fun (y227 : Lay) => gd (y227.2.2 + 2 ≤ 1000) (lt (psh y227 (1, 8)) fun (y229 : Lay) => lt (zM M224 (y227.2.2 + 1)) fun (M230 : Mem) => gK y229 a0 (0, 12) (gN (y227.2.2 + 1) (lt (wF y229 a0 61 (y227.2.2 + 1)) fun (y233 : Lay) => gd (y233.2.2 + 2 ≤ 1000) (lt (psh y233 (1, 8)) fun (y235 : Lay) => lt (zM M230 (y233.2.2 + 1)) fun (M236 : Mem) => gK y235 a0 (0, 12) (gN (y233.2.2 + 1) (lt (wF y235 a0 62 (y233.2.2 + 1)) fun (y239 : Lay) => gd (y239.2.2 + 2 ≤ 1000) (lt (psh y239 (1, 3)) fun (y241 : Lay) => lt (zM M236 (y239.2.2 + 1)) fun (M242 : Mem) => gK y241 a0 (0, 12) (gN (y239.2.2 + 1) (lt (wF y241 a0 63 (y239.2.2 + 1)) fun (y245 : Lay) => gK y245 a0 (0, 12) (c0 (f_X12_begin y245 a0 (0 : Int32) M242) fun (r247 : Int32) (M248 : Mem) => lt (wI M248 a0 32 (20 : Int32)) fun (M249 : Mem) => some (y245, M249)))))))))))))))))))))))))))))))))))))))))))))))))))))))))))))))))))))))))))))))))))))))))))))))))))))))))))))))))))))))))))))
theorem w_X12_init {g : GX} {l : Launch} (hG : GF g l) (y : Lay) (a0 : Nat) (M : Mem) : CIt g l yX12_init cX12_init 1 1 36 9577 y [.ref a0] M (f_X12_init y a0 M) := by
  refine CI_of hG (by decide) rfl [some (.ref a0)] rfl rfl (fun out h x Q C R hz => ?_)
  have hz0 := hz
  unfold f_X12_init at h
  refine g_aload_n C tb_X12_init_0_ok (i := 0) rfl rfl ?_
  refine g_objI C tb_X12_init_0_ok (i := 1) rfl oi_X12_3 obj_w rfl ?_
  refine g_aload_n C tb_X12_init_0_ok (i := 2) rfl rfl ?_
  refine g_iconstv C tb_X12_init_0_ok (i := 3) 2 rfl k_iconstv_2 ?_
  obtain ⟨g1, h⟩ := gd_e h
  refine g_newaS C tb_X12_init_0_ok (i := 4) (N := 2) hz rfl ck_X12_9 aov (by decide) (by decide) rfl g1 rfl rfl (fun hz => ?_)
  refine g_nm (fun y2 ey2 M3 eM3 => ?_)
  have h := lt_e eM3 (lt_e ey2 h)
  rw [← ey2] at hz
  refine g_dup C tb_X12_init_0_ok (i := 5) rfl rfl ?_
  refine g_iconstv C tb_X12_init_0_ok (i := 6) 0 rfl k_iconstv_0 ?_
  refine g_ldcS C tb_X12_init_0_ok (i := 7) (k := 19) rfl rfl rfl (by decide) ?_
  obtain ⟨b4, h⟩ := gA_e h
  refine g_astS C tb_X12_init_0_ok (i := 8) (k := 19) rfl (by decide) b4 ?_
  refine g_nmy (fun y5 ey5 => ?_)
  have h := lt_e ey5 h
  have hz : HZ g x _ y5 := by rw [ey5]; exact hz
  refine g_dup C tb_X12_init_0_ok (i := 9) rfl rfl ?_
  refine g_iconstv C tb_X12_init_0_ok (i := 10) 1 rfl k_iconstv_1 ?_
  refine g_ldcS C tb_X12_init_0_ok (i := 11) (k := 20) rfl rfl rfl (by decide) ?_
  obtain ⟨b6, h⟩ := gA_e h
  refine g_astS C tb_X12_init_0_ok (i := 12) (k := 20) rfl (by decide) b6 ?_
  refine g_nmy (fun y7 ey7 => ?_)
  have h := lt_e ey7 h
  have hz : HZ g x _ y7 := by rw [ey7]; exact hz
  obtain ⟨k8, h⟩ := gK_e h
  obtain ⟨n9, h⟩ := gN_e h
  refine g_putF C tb_X12_init_0_ok R (i := 13) rfl ff_X12_15 ft_12_0 (Or.inr ⟨_, rfl⟩) rfl n9 k8 ?_
  refine g_nmy (fun y10 ey10 => ?_)
  have h := lt_e ey10 h
  have hz : HZ g x _ y10 := by rw [ey10]; exact hz
  refine g_aload_n C tb_X12_init_0_ok (i := 14) rfl rfl ?_
  refine g_bipushv C tb_X12_init_0_ok (i := 15) 6 rfl k_bipushv_6 ?_
  obtain ⟨g11, h⟩ := gd_e h
  refine g_newaS C tb_X12_init_0_ok (i := 16) (N := 6) hz rfl ck_X12_9 aov (by decide) (by decide) rfl g11 rfl rfl (fun hz => ?_)
  refine g_nm (fun y12 ey12 M13 eM13 => ?_)
  have h := lt_e eM13 (lt_e ey12 h)
  rw [← ey12] at hz
  refine g_dup C tb_X12_init_0_ok (i := 17) rfl rfl ?_
  refine g_iconstv C tb_X12_init_0_ok (i := 18) 0 rfl k_iconstv_0 ?_
  refine g_ldcS C tb_X12_init_0_ok (i := 19) (k := 21) rfl rfl rfl (by decide) ?_
  obtain ⟨b14, h⟩ := gA_e h
  refine g_astS C tb_X12_init_0_ok (i := 20) (k := 21) rfl (by decide) b14 ?_
  refine g_nmy (fun y15 ey15 => ?_)
  have h := lt_e ey15 h
  have hz : HZ g x _ y15 := by rw [ey15]; exact hz
  refine g_dup C tb_X12_init_0_ok (i := 21) rfl rfl ?_
  refine g_iconstv C tb_X12_init_0_ok (i := 22) 1 rfl k_iconstv_1 ?_
  refine g_ldcS C tb_X12_init_0_ok (i := 23) (k := 22) rfl rfl rfl (by decide) ?_
  obtain ⟨b16, h⟩ := gA_e h
  refine g_astS C tb_X12_init_0_ok (i := 24) (k := 22) rfl (by decide) b16 ?_
  refine g_nmy (fun y17 ey17 => ?_)
  have h := lt_e ey17 h
  have hz : HZ g x _ y17 := by rw [ey17]; exact hz
  refine g_dup C tb_X12_init_0_ok (i := 25) rfl rfl ?_
  refine g_iconstv C tb_X12_init_0_ok (i := 26) 2 rfl k_iconstv_2 ?_
  refine g_ldcS C tb_X12_init_0_ok (i := 27) (k := 23) rfl rfl rfl (by decide) ?_
  obtain ⟨b18, h⟩ := gA_e h
  refine g_astS C tb_X12_init_0_ok (i := 28) (k := 23) rfl (by decide) b18 ?_
  refine g_nmy (fun y19 ey19 => ?_)
  have h := lt_e ey19 h
  have hz : HZ g x _ y19 := by rw [ey19]; exact hz
  refine g_dup C tb_X12_init_0_ok (i := 29) rfl rfl ?_
  refine g_iconstv C tb_X12_init_0_ok (i := 30) 3 rfl k_iconstv_3 ?_
  refine g_ldcS C tb_X12_init_0_ok (i := 31) (k := 24) rfl rfl rfl (by decide) ?_
  obtain ⟨b20, h⟩ := gA_e h
  refine g_astS C tb_X12_init_0_ok (i := 32) (k := 24) rfl (by decide) b20 ?_
  refine g_nmy (fun y21 ey21 => ?_)
  have h := lt_e ey21 h
  have hz : HZ g x _ y21 := by rw [ey21]; exact hz
  refine g_dup C tb_X12_init_0_ok (i := 33) rfl rfl ?_
  refine g_iconstv C tb_X12_init_0_ok (i := 34) 4 rfl k_iconstv_4 ?_
  refine g_ldcS C tb_X12_init_0_ok (i := 35) (k := 25) rfl rfl rfl (by decide) ?_
  obtain ⟨b22, h⟩ := gA_e h
  refine g_astS C tb_X12_init_0_ok (i := 36) (k := 25) rfl (by decide) b22 ?_
  refine g_nmy (fun y23 ey23 => ?_)
  have h := lt_e ey23 h
  have hz : HZ g x _ y23 := by rw [ey23]; exact hz
  refine g_dup C tb_X12_init_0_ok (i := 37) rfl rfl ?_
  refine g_iconstv C tb_X12_init_0_ok (i := 38) 5 rfl k_iconstv_5 ?_
  refine g_ldcS C tb_X12_init_0_ok (i := 39) (k := 26) rfl rfl rfl (by decide) ?_
  obtain ⟨b24, h⟩ := gA_e h
  refine g_astS C tb_X12_init_1_ok (i := 0) (k := 26) rfl (by decide) b24 ?_
  refine g_nmy (fun y25 ey25 => ?_)
  have h := lt_e ey25 h
  have hz : HZ g x _ y25 := by rw [ey25]; exact hz
  obtain ⟨k26, h⟩ := gK_e h
  obtain ⟨n27, h⟩ := gN_e h
  refine g_putF C tb_X12_init_1_ok R (i := 1) rfl ff_X12_31 ft_12_1 (Or.inr ⟨_, rfl⟩) rfl n27 k26 ?_
  refine g_nmy (fun y28 ey28 => ?_)
  have h := lt_e ey28 h
  have hz : HZ g x _ y28 := by rw [ey28]; exact hz
  refine g_aload_n C tb_X12_init_1_ok (i := 2) rfl rfl ?_
  refine g_iconstv C tb_X12_init_1_ok (i := 3) 4 rfl k_iconstv_4 ?_
  obtain ⟨g29, h⟩ := gd_e h
  refine g_newaS C tb_X12_init_1_ok (i := 4) (N := 4) hz rfl ck_X12_9 aov (by decide) (by decide) rfl g29 rfl rfl (fun hz => ?_)
  refine g_nm (fun y30 ey30 M31 eM31 => ?_)
  have h := lt_e eM31 (lt_e ey30 h)
  rw [← ey30] at hz
  refine g_dup C tb_X12_init_1_ok (i := 5) rfl rfl ?_
  refine g_iconstv C tb_X12_init_1_ok (i := 6) 0 rfl k_iconstv_0 ?_
  refine g_ldcS C tb_X12_init_1_ok (i := 7) (k := 21) rfl rfl rfl (by decide) ?_
  obtain ⟨b32, h⟩ := gA_e h
  refine g_astS C tb_X12_init_1_ok (i := 8) (k := 21) rfl (by decide) b32 ?_
  refine g_nmy (fun y33 ey33 => ?_)
  have h := lt_e ey33 h
  have hz : HZ g x _ y33 := by rw [ey33]; exact hz
  refine g_dup C tb_X12_init_1_ok (i := 9) rfl rfl ?_
  refine g_iconstv C tb_X12_init_1_ok (i := 10) 1 rfl k_iconstv_1 ?_
  refine g_ldcS C tb_X12_init_1_ok (i := 11) (k := 22) rfl rfl rfl (by decide) ?_
  obtain ⟨b34, h⟩ := gA_e h
  refine g_astS C tb_X12_init_1_ok (i := 12) (k := 22) rfl (by decide) b34 ?_
  refine g_nmy (fun y35 ey35 => ?_)
  have h := lt_e ey35 h
  have hz : HZ g x _ y35 := by rw [ey35]; exact hz
  refine g_dup C tb_X12_init_1_ok (i := 13) rfl rfl ?_
  refine g_iconstv C tb_X12_init_1_ok (i := 14) 2 rfl k_iconstv_2 ?_
  refine g_ldcS C tb_X12_init_1_ok (i := 15) (k := 23) rfl rfl rfl (by decide) ?_
  obtain ⟨b36, h⟩ := gA_e h
  refine g_astS C tb_X12_init_1_ok (i := 16) (k := 23) rfl (by decide) b36 ?_
  refine g_nmy (fun y37 ey37 => ?_)
  have h := lt_e ey37 h
  have hz : HZ g x _ y37 := by rw [ey37]; exact hz
  refine g_dup C tb_X12_init_1_ok (i := 17) rfl rfl ?_
  refine g_iconstv C tb_X12_init_1_ok (i := 18) 3 rfl k_iconstv_3 ?_
  refine g_ldcS C tb_X12_init_1_ok (i := 19) (k := 24) rfl rfl rfl (by decide) ?_
  obtain ⟨b38, h⟩ := gA_e h
  refine g_astS C tb_X12_init_1_ok (i := 20) (k := 24) rfl (by decide) b38 ?_
  refine g_nmy (fun y39 ey39 => ?_)
  have h := lt_e ey39 h
  have hz : HZ g x _ y39 := by rw [ey39]; exact hz
  obtain ⟨k40, h⟩ := gK_e h
  obtain ⟨n41, h⟩ := gN_e h
  refine g_putF C tb_X12_init_1_ok R (i := 21) rfl ff_X12_34 ft_12_2 (Or.inr ⟨_, rfl⟩) rfl n41 k40 ?_
  refine g_nmy (fun y42 ey42 => ?_)
  have h := lt_e ey42 h
  have hz : HZ g x _ y42 := by rw [ey42]; exact hz
  refine g_aload_n C tb_X12_init_1_ok (i := 22) rfl rfl ?_
  refine g_aload_n C tb_X12_init_1_ok (i := 23) rfl rfl ?_
  obtain ⟨k43, h⟩ := gK_e h
  obtain ⟨n44, h⟩ := gN_e h
  refine g_getR C tb_X12_init_1_ok (i := 24) rfl fl_X12_31 rfl k43 n44 ?_
  refine g_putM C tb_X12_init_1_ok (i := 25) rfl fl_X12_37 ft_12_3 (Or.inr ⟨_, rfl⟩) rfl n44 k43 ?_
  refine g_mem (fun M45 eM45 => ?_)
  have h := lt_e eM45 h
  refine g_aload_n C tb_X12_init_1_ok (i := 26) rfl rfl ?_
  refine g_bipushv C tb_X12_init_1_ok (i := 27) 18 rfl k_bipushv_18 ?_
  obtain ⟨g46, h⟩ := gd_e h
  refine g_newaI C tb_X12_init_1_ok (i := 28) (N := 18) hz rfl acl_int (by decide) (by decide) rfl g46 rfl rfl (fun hz => ?_)
  refine g_nm (fun y47 ey47 M48 eM48 => ?_)
  have h := lt_e eM48 (lt_e ey47 h)
  rw [← ey47] at hz
  obtain ⟨k49, h⟩ := gK_e h
  obtain ⟨n50, h⟩ := gN_e h
  refine g_putF C tb_X12_init_1_ok R (i := 29) rfl ff_X12_40 ft_12_5 (Or.inr ⟨_, rfl⟩) rfl n50 k49 ?_
  refine g_nmy (fun y51 ey51 => ?_)
  have h := lt_e ey51 h
  have hz : HZ g x _ y51 := by rw [ey51]; exact hz
  refine g_aload_n C tb_X12_init_1_ok (i := 30) rfl rfl ?_
  refine g_bipushv C tb_X12_init_1_ok (i := 31) 60 rfl k_bipushv_60 ?_
  obtain ⟨g52, h⟩ := gd_e h
  refine g_newaI C tb_X12_init_1_ok (i := 32) (N := 60) hz rfl acl_int (by decide) (by decide) rfl g52 rfl rfl (fun hz => ?_)
  refine g_nm (fun y53 ey53 M54 eM54 => ?_)
  have h := lt_e eM54 (lt_e ey53 h)
  rw [← ey53] at hz
  obtain ⟨k55, h⟩ := gK_e h
  obtain ⟨n56, h⟩ := gN_e h
  refine g_putF C tb_X12_init_1_ok R (i := 33) rfl ff_X12_44 ft_12_6 (Or.inr ⟨_, rfl⟩) rfl n56 k55 ?_
  refine g_nmy (fun y57 ey57 => ?_)
  have h := lt_e ey57 h
  have hz : HZ g x _ y57 := by rw [ey57]; exact hz
  refine g_aload_n C tb_X12_init_1_ok (i := 34) rfl rfl ?_
  refine g_bipushv C tb_X12_init_1_ok (i := 35) 12 rfl k_bipushv_12 ?_
  obtain ⟨g58, h⟩ := gd_e h
  refine g_newaI C tb_X12_init_1_ok (i := 36) (N := 12) hz rfl acl_int (by decide) (by decide) rfl g58 rfl rfl (fun hz => ?_)
  refine g_nm (fun y59 ey59 M60 eM60 => ?_)
  have h := lt_e eM60 (lt_e ey59 h)
  rw [← ey59] at hz
  obtain ⟨k61, h⟩ := gK_e h
  obtain ⟨n62, h⟩ := gN_e h
  refine g_putF C tb_X12_init_1_ok R (i := 37) rfl ff_X12_47 ft_12_7 (Or.inr ⟨_, rfl⟩) rfl n62 k61 ?_
  refine g_nmy (fun y63 ey63 => ?_)
  have h := lt_e ey63 h
  have hz : HZ g x _ y63 := by rw [ey63]; exact hz
  refine g_aload_n C tb_X12_init_1_ok (i := 38) rfl rfl ?_
  refine g_bipushv C tb_X12_init_1_ok (i := 39) 12 rfl k_bipushv_12 ?_
  obtain ⟨g64, h⟩ := gd_e h
  refine g_newaI C tb_X12_init_2_ok (i := 0) (N := 12) hz rfl acl_int (by decide) (by decide) rfl g64 rfl rfl (fun hz => ?_)
  refine g_nm (fun y65 ey65 M66 eM66 => ?_)
  have h := lt_e eM66 (lt_e ey65 h)
  rw [← ey65] at hz
  obtain ⟨k67, h⟩ := gK_e h
  obtain ⟨n68, h⟩ := gN_e h
  refine g_putF C tb_X12_init_2_ok R (i := 1) rfl ff_X12_50 ft_12_8 (Or.inr ⟨_, rfl⟩) rfl n68 k67 ?_
  refine g_nmy (fun y69 ey69 => ?_)
  have h := lt_e ey69 h
  have hz : HZ g x _ y69 := by rw [ey69]; exact hz
  refine g_aload_n C tb_X12_init_2_ok (i := 2) rfl rfl ?_
  refine g_bipushv C tb_X12_init_2_ok (i := 3) 12 rfl k_bipushv_12 ?_
  obtain ⟨g70, h⟩ := gd_e h
  refine g_newaI C tb_X12_init_2_ok (i := 4) (N := 12) hz rfl acl_int (by decide) (by decide) rfl g70 rfl rfl (fun hz => ?_)
  refine g_nm (fun y71 ey71 M72 eM72 => ?_)
  have h := lt_e eM72 (lt_e ey71 h)
  rw [← ey71] at hz
  obtain ⟨k73, h⟩ := gK_e h
  obtain ⟨n74, h⟩ := gN_e h
  refine g_putF C tb_X12_init_2_ok R (i := 5) rfl ff_X12_53 ft_12_9 (Or.inr ⟨_, rfl⟩) rfl n74 k73 ?_
  refine g_nmy (fun y75 ey75 => ?_)
  have h := lt_e ey75 h
  have hz : HZ g x _ y75 := by rw [ey75]; exact hz
  refine g_aload_n C tb_X12_init_2_ok (i := 6) rfl rfl ?_
  refine g_sipushv C tb_X12_init_2_ok (i := 7) 1400 rfl k_sipushv_1400 ?_
  obtain ⟨g76, h⟩ := gd_e h
  refine g_newaI C tb_X12_init_2_ok (i := 8) (N := 1400) hz rfl acl_int (by decide) (by decide) rfl g76 rfl rfl (fun hz => ?_)
  refine g_nm (fun y77 ey77 M78 eM78 => ?_)
  have h := lt_e eM78 (lt_e ey77 h)
  rw [← ey77] at hz
  obtain ⟨k79, h⟩ := gK_e h
  obtain ⟨n80, h⟩ := gN_e h
  refine g_putF C tb_X12_init_2_ok R (i := 9) rfl ff_X12_56 ft_12_10 (Or.inr ⟨_, rfl⟩) rfl n80 k79 ?_
  refine g_nmy (fun y81 ey81 => ?_)
  have h := lt_e ey81 h
  have hz : HZ g x _ y81 := by rw [ey81]; exact hz
  refine g_aload_n C tb_X12_init_2_ok (i := 10) rfl rfl ?_
  refine g_sipushv C tb_X12_init_2_ok (i := 11) 1400 rfl k_sipushv_1400 ?_
  obtain ⟨g82, h⟩ := gd_e h
  refine g_newaI C tb_X12_init_2_ok (i := 12) (N := 1400) hz rfl acl_int (by decide) (by decide) rfl g82 rfl rfl (fun hz => ?_)
  refine g_nm (fun y83 ey83 M84 eM84 => ?_)
  have h := lt_e eM84 (lt_e ey83 h)
  rw [← ey83] at hz
  obtain ⟨k85, h⟩ := gK_e h
  obtain ⟨n86, h⟩ := gN_e h
  refine g_putF C tb_X12_init_2_ok R (i := 13) rfl ff_X12_59 ft_12_11 (Or.inr ⟨_, rfl⟩) rfl n86 k85 ?_
  refine g_nmy (fun y87 ey87 => ?_)
  have h := lt_e ey87 h
  have hz : HZ g x _ y87 := by rw [ey87]; exact hz
  refine g_aload_n C tb_X12_init_2_ok (i := 14) rfl rfl ?_
  refine g_iconstv C tb_X12_init_2_ok (i := 15) 3 rfl k_iconstv_3 ?_
  obtain ⟨g88, h⟩ := gd_e h
  refine g_newaI C tb_X12_init_2_ok (i := 16) (N := 3) hz rfl acl_int (by decide) (by decide) rfl g88 rfl rfl (fun hz => ?_)
  refine g_nm (fun y89 ey89 M90 eM90 => ?_)
  have h := lt_e eM90 (lt_e ey89 h)
  rw [← ey89] at hz
  obtain ⟨k91, h⟩ := gK_e h
  obtain ⟨n92, h⟩ := gN_e h
  refine g_putF C tb_X12_init_2_ok R (i := 17) rfl ff_X12_62 ft_12_12 (Or.inr ⟨_, rfl⟩) rfl n92 k91 ?_
  refine g_nmy (fun y93 ey93 => ?_)
  have h := lt_e ey93 h
  have hz : HZ g x _ y93 := by rw [ey93]; exact hz
  refine g_aload_n C tb_X12_init_2_ok (i := 18) rfl rfl ?_
  refine g_bipushv C tb_X12_init_2_ok (i := 19) 6 rfl k_bipushv_6 ?_
  obtain ⟨g94, h⟩ := gd_e h
  refine g_newaI C tb_X12_init_2_ok (i := 20) (N := 6) hz rfl acl_int (by decide) (by decide) rfl g94 rfl rfl (fun hz => ?_)
  refine g_nm (fun y95 ey95 M96 eM96 => ?_)
  have h := lt_e eM96 (lt_e ey95 h)
  rw [← ey95] at hz
  obtain ⟨k97, h⟩ := gK_e h
  obtain ⟨n98, h⟩ := gN_e h
  refine g_putF C tb_X12_init_2_ok R (i := 21) rfl ff_X12_65 ft_12_13 (Or.inr ⟨_, rfl⟩) rfl n98 k97 ?_
  refine g_nmy (fun y99 ey99 => ?_)
  have h := lt_e ey99 h
  have hz : HZ g x _ y99 := by rw [ey99]; exact hz
  refine g_aload_n C tb_X12_init_2_ok (i := 22) rfl rfl ?_
  refine g_sipushv C tb_X12_init_2_ok (i := 23) 700 rfl k_sipushv_700 ?_
  obtain ⟨g100, h⟩ := gd_e h
  refine g_newaI C tb_X12_init_2_ok (i := 24) (N := 700) hz rfl acl_int (by decide) (by decide) rfl g100 rfl rfl (fun hz => ?_)
  refine g_nm (fun y101 ey101 M102 eM102 => ?_)
  have h := lt_e eM102 (lt_e ey101 h)
  rw [← ey101] at hz
  obtain ⟨k103, h⟩ := gK_e h
  obtain ⟨n104, h⟩ := gN_e h
  refine g_putF C tb_X12_init_2_ok R (i := 25) rfl ff_X12_68 ft_12_14 (Or.inr ⟨_, rfl⟩) rfl n104 k103 ?_
  refine g_nmy (fun y105 ey105 => ?_)
  have h := lt_e ey105 h
  have hz : HZ g x _ y105 := by rw [ey105]; exact hz
  refine g_aload_n C tb_X12_init_2_ok (i := 26) rfl rfl ?_
  refine g_iconstv C tb_X12_init_2_ok (i := 27) (-1) rfl k_iconstv_m1 ?_
  obtain ⟨k106, h⟩ := gK_e h
  refine g_putI C tb_X12_init_2_ok (i := 28) rfl fl_X12_71 ft_12_24 rfl k106 ?_
  refine g_mem (fun M107 eM107 => ?_)
  have h := lt_e eM107 h
  refine g_aload_n C tb_X12_init_2_ok (i := 29) rfl rfl ?_
  refine g_bipushv C tb_X12_init_2_ok (i := 30) 30 rfl k_bipushv_30 ?_
  obtain ⟨g108, h⟩ := gd_e h
  refine g_newaI C tb_X12_init_2_ok (i := 31) (N := 30) hz rfl acl_int (by decide) (by decide) rfl g108 rfl rfl (fun hz => ?_)
  refine g_nm (fun y109 ey109 M110 eM110 => ?_)
  have h := lt_e eM110 (lt_e ey109 h)
  rw [← ey109] at hz
  obtain ⟨k111, h⟩ := gK_e h
  obtain ⟨n112, h⟩ := gN_e h
  refine g_putF C tb_X12_init_2_ok R (i := 32) rfl ff_X12_75 ft_12_28 (Or.inr ⟨_, rfl⟩) rfl n112 k111 ?_
  refine g_nmy (fun y113 ey113 => ?_)
  have h := lt_e ey113 h
  have hz : HZ g x _ y113 := by rw [ey113]; exact hz
  refine g_aload_n C tb_X12_init_2_ok (i := 33) rfl rfl ?_
  refine g_bipushv C tb_X12_init_2_ok (i := 34) 6 rfl k_bipushv_6 ?_
  obtain ⟨g114, h⟩ := gd_e h
  refine g_newaI C tb_X12_init_2_ok (i := 35) (N := 6) hz rfl acl_int (by decide) (by decide) rfl g114 rfl rfl (fun hz => ?_)
  refine g_nm (fun y115 ey115 M116 eM116 => ?_)
  have h := lt_e eM116 (lt_e ey115 h)
  rw [← ey115] at hz
  obtain ⟨k117, h⟩ := gK_e h
  obtain ⟨n118, h⟩ := gN_e h
  refine g_putF C tb_X12_init_2_ok R (i := 36) rfl ff_X12_77 ft_12_29 (Or.inr ⟨_, rfl⟩) rfl n118 k117 ?_
  refine g_nmy (fun y119 ey119 => ?_)
  have h := lt_e ey119 h
  have hz : HZ g x _ y119 := by rw [ey119]; exact hz
  refine g_aload_n C tb_X12_init_2_ok (i := 37) rfl rfl ?_
  refine g_sipushv C tb_X12_init_2_ok (i := 38) 1640 rfl k_sipushv_1640 ?_
  obtain ⟨g120, h⟩ := gd_e h
  refine g_newaI C tb_X12_init_2_ok (i := 39) (N := 1640) hz rfl acl_int (by decide) (by decide) rfl g120 rfl rfl (fun hz => ?_)
  refine g_nm (fun y121 ey121 M122 eM122 => ?_)
  have h := lt_e eM122 (lt_e ey121 h)
  rw [← ey121] at hz
  obtain ⟨k123, h⟩ := gK_e h
  obtain ⟨n124, h⟩ := gN_e h
  refine g_putF C tb_X12_init_3_ok R (i := 0) rfl ff_X12_80 ft_12_30 (Or.inr ⟨_, rfl⟩) rfl n124 k123 ?_
  refine g_nmy (fun y125 ey125 => ?_)
  have h := lt_e ey125 h
  have hz : HZ g x _ y125 := by rw [ey125]; exact hz
  refine g_aload_n C tb_X12_init_3_ok (i := 1) rfl rfl ?_
  refine g_bipushv C tb_X12_init_3_ok (i := 2) 6 rfl k_bipushv_6 ?_
  obtain ⟨g126, h⟩ := gd_e h
  refine g_newaI C tb_X12_init_3_ok (i := 3) (N := 6) hz rfl acl_int (by decide) (by decide) rfl g126 rfl rfl (fun hz => ?_)
  refine g_nm (fun y127 ey127 M128 eM128 => ?_)
  have h := lt_e eM128 (lt_e ey127 h)
  rw [← ey127] at hz
  obtain ⟨k129, h⟩ := gK_e h
  obtain ⟨n130, h⟩ := gN_e h
  refine g_putF C tb_X12_init_3_ok R (i := 4) rfl ff_X12_83 ft_12_38 (Or.inr ⟨_, rfl⟩) rfl n130 k129 ?_
  refine g_nmy (fun y131 ey131 => ?_)
  have h := lt_e ey131 h
  have hz : HZ g x _ y131 := by rw [ey131]; exact hz
  refine g_aload_n C tb_X12_init_3_ok (i := 5) rfl rfl ?_
  refine g_bipushv C tb_X12_init_3_ok (i := 6) 64 rfl k_bipushv_64 ?_
  obtain ⟨g132, h⟩ := gd_e h
  refine g_newaI C tb_X12_init_3_ok (i := 7) (N := 64) hz rfl acl_int (by decide) (by decide) rfl g132 rfl rfl (fun hz => ?_)
  refine g_nm (fun y133 ey133 M134 eM134 => ?_)
  have h := lt_e eM134 (lt_e ey133 h)
  rw [← ey133] at hz
  obtain ⟨k135, h⟩ := gK_e h
  obtain ⟨n136, h⟩ := gN_e h
  refine g_putF C tb_X12_init_3_ok R (i := 8) rfl ff_X12_86 ft_12_39 (Or.inr ⟨_, rfl⟩) rfl n136 k135 ?_
  refine g_nmy (fun y137 ey137 => ?_)
  have h := lt_e ey137 h
  have hz : HZ g x _ y137 := by rw [ey137]; exact hz
  refine g_aload_n C tb_X12_init_3_ok (i := 9) rfl rfl ?_
  refine g_bipushv C tb_X12_init_3_ok (i := 10) 30 rfl k_bipushv_30 ?_
  obtain ⟨g138, h⟩ := gd_e h
  refine g_newaI C tb_X12_init_3_ok (i := 11) (N := 30) hz rfl acl_int (by decide) (by decide) rfl g138 rfl rfl (fun hz => ?_)
  refine g_nm (fun y139 ey139 M140 eM140 => ?_)
  have h := lt_e eM140 (lt_e ey139 h)
  rw [← ey139] at hz
  obtain ⟨k141, h⟩ := gK_e h
  obtain ⟨n142, h⟩ := gN_e h
  refine g_putF C tb_X12_init_3_ok R (i := 12) rfl ff_X12_89 ft_12_40 (Or.inr ⟨_, rfl⟩) rfl n142 k141 ?_
  refine g_nmy (fun y143 ey143 => ?_)
  have h := lt_e ey143 h
  have hz : HZ g x _ y143 := by rw [ey143]; exact hz
  refine g_aload_n C tb_X12_init_3_ok (i := 13) rfl rfl ?_
  refine g_bipushv C tb_X12_init_3_ok (i := 14) 41 rfl k_bipushv_41 ?_
  obtain ⟨g144, h⟩ := gd_e h
  refine g_newaI C tb_X12_init_3_ok (i := 15) (N := 41) hz rfl acl_int (by decide) (by decide) rfl g144 rfl rfl (fun hz => ?_)
  refine g_nm (fun y145 ey145 M146 eM146 => ?_)
  have h := lt_e eM146 (lt_e ey145 h)
  rw [← ey145] at hz
  obtain ⟨k147, h⟩ := gK_e h
  obtain ⟨n148, h⟩ := gN_e h
  refine g_putF C tb_X12_init_3_ok R (i := 16) rfl ff_X12_92 ft_12_42 (Or.inr ⟨_, rfl⟩) rfl n148 k147 ?_
  refine g_nmy (fun y149 ey149 => ?_)
  have h := lt_e ey149 h
  have hz : HZ g x _ y149 := by rw [ey149]; exact hz
  refine g_aload_n C tb_X12_init_3_ok (i := 17) rfl rfl ?_
  refine g_bipushv C tb_X12_init_3_ok (i := 18) 30 rfl k_bipushv_30 ?_
  obtain ⟨g150, h⟩ := gd_e h
  refine g_newaI C tb_X12_init_3_ok (i := 19) (N := 30) hz rfl acl_int (by decide) (by decide) rfl g150 rfl rfl (fun hz => ?_)
  refine g_nm (fun y151 ey151 M152 eM152 => ?_)
  have h := lt_e eM152 (lt_e ey151 h)
  rw [← ey151] at hz
  obtain ⟨k153, h⟩ := gK_e h
  obtain ⟨n154, h⟩ := gN_e h
  refine g_putF C tb_X12_init_3_ok R (i := 20) rfl ff_X12_95 ft_12_43 (Or.inr ⟨_, rfl⟩) rfl n154 k153 ?_
  refine g_nmy (fun y155 ey155 => ?_)
  have h := lt_e ey155 h
  have hz : HZ g x _ y155 := by rw [ey155]; exact hz
  refine g_aload_n C tb_X12_init_3_ok (i := 21) rfl rfl ?_
  refine g_sipushv C tb_X12_init_3_ok (i := 22) 448 rfl k_sipushv_448 ?_
  obtain ⟨g156, h⟩ := gd_e h
  refine g_newaI C tb_X12_init_3_ok (i := 23) (N := 448) hz rfl acl_int (by decide) (by decide) rfl g156 rfl rfl (fun hz => ?_)
  refine g_nm (fun y157 ey157 M158 eM158 => ?_)
  have h := lt_e eM158 (lt_e ey157 h)
  rw [← ey157] at hz
  obtain ⟨k159, h⟩ := gK_e h
  obtain ⟨n160, h⟩ := gN_e h
  refine g_putF C tb_X12_init_3_ok R (i := 24) rfl ff_X12_98 ft_12_44 (Or.inr ⟨_, rfl⟩) rfl n160 k159 ?_
  refine g_nmy (fun y161 ey161 => ?_)
  have h := lt_e ey161 h
  have hz : HZ g x _ y161 := by rw [ey161]; exact hz
  refine g_aload_n C tb_X12_init_3_ok (i := 25) rfl rfl ?_
  refine g_bipushv C tb_X12_init_3_ok (i := 26) 6 rfl k_bipushv_6 ?_
  obtain ⟨g162, h⟩ := gd_e h
  refine g_newaI C tb_X12_init_3_ok (i := 27) (N := 6) hz rfl acl_int (by decide) (by decide) rfl g162 rfl rfl (fun hz => ?_)
  refine g_nm (fun y163 ey163 M164 eM164 => ?_)
  have h := lt_e eM164 (lt_e ey163 h)
  rw [← ey163] at hz
  obtain ⟨k165, h⟩ := gK_e h
  obtain ⟨n166, h⟩ := gN_e h
  refine g_putF C tb_X12_init_3_ok R (i := 28) rfl ff_X12_101 ft_12_45 (Or.inr ⟨_, rfl⟩) rfl n166 k165 ?_
  refine g_nmy (fun y167 ey167 => ?_)
  have h := lt_e ey167 h
  have hz : HZ g x _ y167 := by rw [ey167]; exact hz
  refine g_aload_n C tb_X12_init_3_ok (i := 29) rfl rfl ?_
  refine g_bipushv C tb_X12_init_3_ok (i := 30) 8 rfl k_bipushv_8 ?_
  obtain ⟨g168, h⟩ := gd_e h
  refine g_newaI C tb_X12_init_3_ok (i := 31) (N := 8) hz rfl acl_int (by decide) (by decide) rfl g168 rfl rfl (fun hz => ?_)
  refine g_nm (fun y169 ey169 M170 eM170 => ?_)
  have h := lt_e eM170 (lt_e ey169 h)
  rw [← ey169] at hz
  obtain ⟨k171, h⟩ := gK_e h
  obtain ⟨n172, h⟩ := gN_e h
  refine g_putF C tb_X12_init_3_ok R (i := 32) rfl ff_X12_104 ft_12_46 (Or.inr ⟨_, rfl⟩) rfl n172 k171 ?_
  refine g_nmy (fun y173 ey173 => ?_)
  have h := lt_e ey173 h
  have hz : HZ g x _ y173 := by rw [ey173]; exact hz
  refine g_aload_n C tb_X12_init_3_ok (i := 33) rfl rfl ?_
  refine g_bipushv C tb_X12_init_3_ok (i := 34) 8 rfl k_bipushv_8 ?_
  obtain ⟨g174, h⟩ := gd_e h
  refine g_newaI C tb_X12_init_3_ok (i := 35) (N := 8) hz rfl acl_int (by decide) (by decide) rfl g174 rfl rfl (fun hz => ?_)
  refine g_nm (fun y175 ey175 M176 eM176 => ?_)
  have h := lt_e eM176 (lt_e ey175 h)
  rw [← ey175] at hz
  obtain ⟨k177, h⟩ := gK_e h
  obtain ⟨n178, h⟩ := gN_e h
  refine g_putF C tb_X12_init_3_ok R (i := 36) rfl ff_X12_107 ft_12_47 (Or.inr ⟨_, rfl⟩) rfl n178 k177 ?_
  refine g_nmy (fun y179 ey179 => ?_)
  have h := lt_e ey179 h
  have hz : HZ g x _ y179 := by rw [ey179]; exact hz
  refine g_aload_n C tb_X12_init_3_ok (i := 37) rfl rfl ?_
  refine g_bipushv C tb_X12_init_3_ok (i := 38) 8 rfl k_bipushv_8 ?_
  obtain ⟨g180, h⟩ := gd_e h
  refine g_newaI C tb_X12_init_3_ok (i := 39) (N := 8) hz rfl acl_int (by decide) (by decide) rfl g180 rfl rfl (fun hz => ?_)
  refine g_nm (fun y181 ey181 M182 eM182 => ?_)
  have h := lt_e eM182 (lt_e ey181 h)
  rw [← ey181] at hz
  obtain ⟨k183, h⟩ := gK_e h
  obtain ⟨n184, h⟩ := gN_e h
  refine g_putF C tb_X12_init_4_ok R (i := 0) rfl ff_X12_110 ft_12_48 (Or.inr ⟨_, rfl⟩) rfl n184 k183 ?_
  refine g_nmy (fun y185 ey185 => ?_)
  have h := lt_e ey185 h
  have hz : HZ g x _ y185 := by rw [ey185]; exact hz
  refine g_aload_n C tb_X12_init_4_ok (i := 1) rfl rfl ?_
  refine g_bipushv C tb_X12_init_4_ok (i := 2) 41 rfl k_bipushv_41 ?_
  obtain ⟨g186, h⟩ := gd_e h
  refine g_newaI C tb_X12_init_4_ok (i := 3) (N := 41) hz rfl acl_int (by decide) (by decide) rfl g186 rfl rfl (fun hz => ?_)
  refine g_nm (fun y187 ey187 M188 eM188 => ?_)
  have h := lt_e eM188 (lt_e ey187 h)
  rw [← ey187] at hz
  obtain ⟨k189, h⟩ := gK_e h
  obtain ⟨n190, h⟩ := gN_e h
  refine g_putF C tb_X12_init_4_ok R (i := 4) rfl ff_X12_113 ft_12_49 (Or.inr ⟨_, rfl⟩) rfl n190 k189 ?_
  refine g_nmy (fun y191 ey191 => ?_)
  have h := lt_e ey191 h
  have hz : HZ g x _ y191 := by rw [ey191]; exact hz
  refine g_aload_n C tb_X12_init_4_ok (i := 5) rfl rfl ?_
  refine g_bipushv C tb_X12_init_4_ok (i := 6) 60 rfl k_bipushv_60 ?_
  obtain ⟨g192, h⟩ := gd_e h
  refine g_newaI C tb_X12_init_4_ok (i := 7) (N := 60) hz rfl acl_int (by decide) (by decide) rfl g192 rfl rfl (fun hz => ?_)
  refine g_nm (fun y193 ey193 M194 eM194 => ?_)
  have h := lt_e eM194 (lt_e ey193 h)
  rw [← ey193] at hz
  obtain ⟨k195, h⟩ := gK_e h
  obtain ⟨n196, h⟩ := gN_e h
  refine g_putF C tb_X12_init_4_ok R (i := 8) rfl ff_X12_116 ft_12_50 (Or.inr ⟨_, rfl⟩) rfl n196 k195 ?_
  refine g_nmy (fun y197 ey197 => ?_)
  have h := lt_e ey197 h
  have hz : HZ g x _ y197 := by rw [ey197]; exact hz
  refine g_aload_n C tb_X12_init_4_ok (i := 9) rfl rfl ?_
  refine g_sipushv C tb_X12_init_4_ok (i := 10) 1800 rfl k_sipushv_1800 ?_
  obtain ⟨g198, h⟩ := gd_e h
  refine g_newaI C tb_X12_init_4_ok (i := 11) (N := 1800) hz rfl acl_int (by decide) (by decide) rfl g198 rfl rfl (fun hz => ?_)
  refine g_nm (fun y199 ey199 M200 eM200 => ?_)
  have h := lt_e eM200 (lt_e ey199 h)
  rw [← ey199] at hz
  obtain ⟨k201, h⟩ := gK_e h
  obtain ⟨n202, h⟩ := gN_e h
  refine g_putF C tb_X12_init_4_ok R (i := 12) rfl ff_X12_119 ft_12_51 (Or.inr ⟨_, rfl⟩) rfl n202 k201 ?_
  refine g_nmy (fun y203 ey203 => ?_)
  have h := lt_e ey203 h
  have hz : HZ g x _ y203 := by rw [ey203]; exact hz
  refine g_aload_n C tb_X12_init_4_ok (i := 13) rfl rfl ?_
  refine g_bipushv C tb_X12_init_4_ok (i := 14) 8 rfl k_bipushv_8 ?_
  obtain ⟨g204, h⟩ := gd_e h
  refine g_newaI C tb_X12_init_4_ok (i := 15) (N := 8) hz rfl acl_int (by decide) (by decide) rfl g204 rfl rfl (fun hz => ?_)
  refine g_nm (fun y205 ey205 M206 eM206 => ?_)
  have h := lt_e eM206 (lt_e ey205 h)
  rw [← ey205] at hz
  obtain ⟨k207, h⟩ := gK_e h
  obtain ⟨n208, h⟩ := gN_e h
  refine g_putF C tb_X12_init_4_ok R (i := 16) rfl ff_X12_122 ft_12_53 (Or.inr ⟨_, rfl⟩) rfl n208 k207 ?_
  refine g_nmy (fun y209 ey209 => ?_)
  have h := lt_e ey209 h
  have hz : HZ g x _ y209 := by rw [ey209]; exact hz
  refine g_aload_n C tb_X12_init_4_ok (i := 17) rfl rfl ?_
  refine g_bipushv C tb_X12_init_4_ok (i := 18) 41 rfl k_bipushv_41 ?_
  obtain ⟨g210, h⟩ := gd_e h
  refine g_newaI C tb_X12_init_4_ok (i := 19) (N := 41) hz rfl acl_int (by decide) (by decide) rfl g210 rfl rfl (fun hz => ?_)
  refine g_nm (fun y211 ey211 M212 eM212 => ?_)
  have h := lt_e eM212 (lt_e ey211 h)
  rw [← ey211] at hz
  obtain ⟨k213, h⟩ := gK_e h
  obtain ⟨n214, h⟩ := gN_e h
  refine g_putF C tb_X12_init_4_ok R (i := 20) rfl ff_X12_125 ft_12_58 (Or.inr ⟨_, rfl⟩) rfl n214 k213 ?_
  refine g_nmy (fun y215 ey215 => ?_)
  have h := lt_e ey215 h
  have hz : HZ g x _ y215 := by rw [ey215]; exact hz
  refine g_aload_n C tb_X12_init_4_ok (i := 21) rfl rfl ?_
  refine g_sipushv C tb_X12_init_4_ok (i := 22) 1640 rfl k_sipushv_1640 ?_
  obtain ⟨g216, h⟩ := gd_e h
  refine g_newaI C tb_X12_init_4_ok (i := 23) (N := 1640) hz rfl acl_int (by decide) (by decide) rfl g216 rfl rfl (fun hz => ?_)
  refine g_nm (fun y217 ey217 M218 eM218 => ?_)
  have h := lt_e eM218 (lt_e ey217 h)
  rw [← ey217] at hz
  obtain ⟨k219, h⟩ := gK_e h
  obtain ⟨n220, h⟩ := gN_e h
  refine g_putF C tb_X12_init_4_ok R (i := 24) rfl ff_X12_128 ft_12_59 (Or.inr ⟨_, rfl⟩) rfl n220 k219 ?_
  refine g_nmy (fun y221 ey221 => ?_)
  have h := lt_e ey221 h
  have hz : HZ g x _ y221 := by rw [ey221]; exact hz
  refine g_aload_n C tb_X12_init_4_ok (i := 25) rfl rfl ?_
  refine g_bipushv C tb_X12_init_4_ok (i := 26) 8 rfl k_bipushv_8 ?_
  obtain ⟨g222, h⟩ := gd_e h
  refine g_newaI C tb_X12_init_4_ok (i := 27) (N := 8) hz rfl acl_int (by decide) (by decide) rfl g222 rfl rfl (fun hz => ?_)
  refine g_nm (fun y223 ey223 M224 eM224 => ?_)
  have h := lt_e eM224 (lt_e ey223 h)
  rw [← ey223] at hz
  obtain ⟨k225, h⟩ := gK_e h
  obtain ⟨n226, h⟩ := gN_e h
  refine g_putF C tb_X12_init_4_ok R (i := 28) rfl ff_X12_131 ft_12_60 (Or.inr ⟨_, rfl⟩) rfl n226 k225 ?_
  refine g_nmy (fun y227 ey227 => ?_)
  have h := lt_e ey227 h
  have hz : HZ g x _ y227 := by rw [ey227]; exact hz
  refine g_aload_n C tb_X12_init_4_ok (i := 29) rfl rfl ?_
  refine g_bipushv C tb_X12_init_4_ok (i := 30) 8 rfl k_bipushv_8 ?_
  obtain ⟨g228, h⟩ := gd_e h
  refine g_newaI C tb_X12_init_4_ok (i := 31) (N := 8) hz rfl acl_int (by decide) (by decide) rfl g228 rfl rfl (fun hz => ?_)
  refine g_nm (fun y229 ey229 M230 eM230 => ?_)
  have h := lt_e eM230 (lt_e ey229 h)
  rw [← ey229] at hz
  obtain ⟨k231, h⟩ := gK_e h
  obtain ⟨n232, h⟩ := gN_e h
  refine g_putF C tb_X12_init_4_ok R (i := 32) rfl ff_X12_134 ft_12_61 (Or.inr ⟨_, rfl⟩) rfl n232 k231 ?_
  refine g_nmy (fun y233 ey233 => ?_)
  have h := lt_e ey233 h
  have hz : HZ g x _ y233 := by rw [ey233]; exact hz
  refine g_aload_n C tb_X12_init_4_ok (i := 33) rfl rfl ?_
  refine g_bipushv C tb_X12_init_4_ok (i := 34) 8 rfl k_bipushv_8 ?_
  obtain ⟨g234, h⟩ := gd_e h
  refine g_newaI C tb_X12_init_4_ok (i := 35) (N := 8) hz rfl acl_int (by decide) (by decide) rfl g234 rfl rfl (fun hz => ?_)
  refine g_nm (fun y235 ey235 M236 eM236 => ?_)
  have h := lt_e eM236 (lt_e ey235 h)
  rw [← ey235] at hz
  obtain ⟨k237, h⟩ := gK_e h
  obtain ⟨n238, h⟩ := gN_e h
  refine g_putF C tb_X12_init_4_ok R (i := 36) rfl ff_X12_137 ft_12_62 (Or.inr ⟨_, rfl⟩) rfl n238 k237 ?_
  refine g_nmy (fun y239 ey239 => ?_)
  have h := lt_e ey239 h
  have hz : HZ g x _ y239 := by rw [ey239]; exact hz
  refine g_aload_n C tb_X12_init_4_ok (i := 37) rfl rfl ?_
  refine g_iconstv C tb_X12_init_4_ok (i := 38) 3 rfl k_iconstv_3 ?_
  obtain ⟨g240, h⟩ := gd_e h
  refine g_newaI C tb_X12_init_4_ok (i := 39) (N := 3) hz rfl acl_int (by decide) (by decide) rfl g240 rfl rfl (fun hz => ?_)
  refine g_nm (fun y241 ey241 M242 eM242 => ?_)
  have h := lt_e eM242 (lt_e ey241 h)
  rw [← ey241] at hz
  obtain ⟨k243, h⟩ := gK_e h
  obtain ⟨n244, h⟩ := gN_e h
  refine g_putF C tb_X12_init_5_ok R (i := 0) rfl ff_X12_140 ft_12_63 (Or.inr ⟨_, rfl⟩) rfl n244 k243 ?_
  refine g_nmy (fun y245 ey245 => ?_)
  have h := lt_e ey245 h
  have hz : HZ g x _ y245 := by rw [ey245]; exact hz
  refine g_aload_n C tb_X12_init_5_ok (i := 1) rfl rfl ?_
  refine g_iconstv C tb_X12_init_5_ok (i := 2) 0 rfl k_iconstv_0 ?_
  obtain ⟨k246, h⟩ := gK_e h
  obtain ⟨r247, M248, er247, h⟩ := c0_e h
  refine g_callV0 C tb_X12_init_5_ok (i := 3) [.int (0 : Int32)] rfl mw_X12_begin mv_X12_begin ml_X12_143 k246 rfl rfl rfl rfl (w_X12_begin C.G y245 a0 (0 : Int32) M242) er247 rfl rfl rfl ?_
  refine g_aload_n C tb_X12_init_5_ok (i := 4) rfl rfl ?_
  refine g_bipushv C tb_X12_init_5_ok (i := 5) 20 rfl k_bipushv_20 ?_
  refine g_putI C tb_X12_init_5_ok (i := 6) rfl fl_X12_147 ft_12_32 rfl k246 ?_
  refine g_mem (fun M249 eM249 => ?_)
  have h := lt_e eM249 h
  cases h
  exact g_vretI C R hz rfl (by have h8 : x.2.2.2.2.1.heap.size + 0 = bs g + y.2.2 := hz0; have h9 : x.2.2.2.2.1.heap.size + _ = bs g + _ := hz; omega) rfl tb_X12_init_5_ok (i := 7) rfl
