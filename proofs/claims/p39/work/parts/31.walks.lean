def f_X9_init (y : Lay) (a0 : Nat) (M : Mem) : Option (Lay × Mem) := gd (y.2.2 + 2 ≤ 1000) (lt (psh y (2, 700)) fun (y2 : Lay) => lt (zM M (y.2.2 + 1)) fun (M3 : Mem) => gK y2 a0 (0, 9) (gN (y.2.2 + 1) (lt (wF y2 a0 0 (y.2.2 + 1)) fun (y6 : Lay) => some (y6, M3))))
set_option maxRecDepth 20000 in
theorem w_X9_init {g : GX} {l : Launch} (hG : GF g l) (y : Lay) (a0 : Nat) (M : Mem) : CIt g l yX9_init cX9_init 1 0 1 700 y [.ref a0] M (f_X9_init y a0 M) := by
  refine CI_of hG (by decide) rfl [some (.ref a0)] rfl rfl (fun out h x Q C R hz => ?_)
  have hz0 := hz
  unfold f_X9_init at h
  refine g_aload_n C tb_X9_init_0_ok (i := 0) rfl rfl ?_
  refine g_objI C tb_X9_init_0_ok (i := 1) rfl oi_X9_3 obj_w rfl ?_
  refine g_aload_n C tb_X9_init_0_ok (i := 2) rfl rfl ?_
  refine g_sipushv C tb_X9_init_0_ok (i := 3) 700 rfl k_sipushv_700 ?_
  obtain ⟨g1, h⟩ := gd_e h
  refine g_newaB C tb_X9_init_0_ok (i := 4) (N := 700) hz rfl acl_byte (by decide) (by decide) rfl g1 (by decide) (by decide) (fun hz => ?_)
  refine g_nm (fun y2 ey2 M3 eM3 => ?_)
  have h := lt_e ey2 h
  have h := lt_e eM3 h
  rw [← ey2] at hz
  obtain ⟨k4, h⟩ := gK_e h
  obtain ⟨n5, h⟩ := gN_e h
  refine g_putF C tb_X9_init_0_ok R (i := 5) rfl ff_X9_9 ft_9_0 (Or.inr ⟨_, rfl⟩) rfl n5 k4 ?_
  refine g_nmy (fun y6 ey6 => ?_)
  have h := lt_e ey6 h
  have hz : HZ g x 1 y6 := by rw [ey6]; exact hz
  cases h
  exact g_vretI C R hz rfl (by have h8 : x.2.2.2.2.1.heap.size + 0 = bs g + y.2.2 := hz0; have h9 : x.2.2.2.2.1.heap.size + _ = bs g + _ := hz; omega) rfl tb_X9_init_0_ok (i := 6) rfl
def f_X5_init (y : Lay) (a0 : Nat) (M : Mem) : Option (Lay × Mem) := gd (y.2.2 + 2 ≤ 1000) (lt (psh y (1, 700)) fun (y2 : Lay) => lt (zM M (y.2.2 + 1)) fun (M3 : Mem) => gK y2 a0 (0, 5) (gN (y.2.2 + 1) (lt (wF y2 a0 0 (y.2.2 + 1)) fun (y6 : Lay) => gd (y6.2.2 + 2 ≤ 1000) (lt (psh y6 (1, 40)) fun (y8 : Lay) => lt (zM M3 (y6.2.2 + 1)) fun (M9 : Mem) => gK y8 a0 (0, 5) (gN (y6.2.2 + 1) (lt (wF y8 a0 1 (y6.2.2 + 1)) fun (y12 : Lay) => some (y12, M9)))))))
set_option maxRecDepth 20000 in
theorem w_X5_init {g : GX} {l : Launch} (hG : GF g l) (y : Lay) (a0 : Nat) (M : Mem) : CIt g l yX5_init cX5_init 1 0 2 740 y [.ref a0] M (f_X5_init y a0 M) := by
  refine CI_of hG (by decide) rfl [some (.ref a0)] rfl rfl (fun out h x Q C R hz => ?_)
  have hz0 := hz
  unfold f_X5_init at h
  refine g_aload_n C tb_X5_init_0_ok (i := 0) rfl rfl ?_
  refine g_objI C tb_X5_init_0_ok (i := 1) rfl oi_X5_3 obj_w rfl ?_
  refine g_aload_n C tb_X5_init_0_ok (i := 2) rfl rfl ?_
  refine g_sipushv C tb_X5_init_0_ok (i := 3) 700 rfl k_sipushv_700 ?_
  obtain ⟨g1, h⟩ := gd_e h
  refine g_newaI C tb_X5_init_0_ok (i := 4) (N := 700) hz rfl acl_int (by decide) (by decide) rfl g1 (by decide) (by decide) (fun hz => ?_)
  refine g_nm (fun y2 ey2 M3 eM3 => ?_)
  have h := lt_e ey2 h
  have h := lt_e eM3 h
  rw [← ey2] at hz
  obtain ⟨k4, h⟩ := gK_e h
  obtain ⟨n5, h⟩ := gN_e h
  refine g_putF C tb_X5_init_0_ok R (i := 5) rfl ff_X5_9 ft_5_0 (Or.inr ⟨_, rfl⟩) rfl n5 k4 ?_
  refine g_nmy (fun y6 ey6 => ?_)
  have h := lt_e ey6 h
  have hz : HZ g x 1 y6 := by rw [ey6]; exact hz
  refine g_aload_n C tb_X5_init_0_ok (i := 6) rfl rfl ?_
  refine g_bipushv C tb_X5_init_0_ok (i := 7) 40 rfl k_bipushv_40 ?_
  obtain ⟨g7, h⟩ := gd_e h
  refine g_newaI C tb_X5_init_0_ok (i := 8) (N := 40) hz rfl acl_int (by decide) (by decide) rfl g7 (by decide) (by decide) (fun hz => ?_)
  refine g_nm (fun y8 ey8 M9 eM9 => ?_)
  have h := lt_e ey8 h
  have h := lt_e eM9 h
  rw [← ey8] at hz
  obtain ⟨k10, h⟩ := gK_e h
  obtain ⟨n11, h⟩ := gN_e h
  refine g_putF C tb_X5_init_0_ok R (i := 9) rfl ff_X5_15 ft_5_1 (Or.inr ⟨_, rfl⟩) rfl n11 k10 ?_
  refine g_nmy (fun y12 ey12 => ?_)
  have h := lt_e ey12 h
  have hz : HZ g x 2 y12 := by rw [ey12]; exact hz
  cases h
  exact g_vretI C R hz rfl (by have h8 : x.2.2.2.2.1.heap.size + 0 = bs g + y.2.2 := hz0; have h9 : x.2.2.2.2.1.heap.size + _ = bs g + _ := hz; omega) rfl tb_X5_init_0_ok (i := 10) rfl
def f_X1_cells (y : Lay) (a0 : Nat) (M : Mem) : Option Int32 := gK y a0 (0, 1) (some ((M.1 a0 0) * (M.1 a0 1)))
theorem w_X1_cells {g : GX} {l : Launch} (hG : GF g l) (y : Lay) (a0 : Nat) (M : Mem) : C0 g l yX1_cells cX1_cells 1 (some .int) 0 y [.ref a0] M (pm M (f_X1_cells y a0 M)) := by
  refine CP_of hG (by decide) [some (.ref a0)] rfl rfl (fun out h x Q C R => ?_)
  unfold f_X1_cells at h
  refine g_aload_n C tb_X1_cells_0_ok (i := 0) rfl rfl ?_
  obtain ⟨k1, h⟩ := gK_e h
  refine g_getI C tb_X1_cells_0_ok (i := 1) rfl fl_X1_48 rfl k1 ?_
  refine g_aload_n C tb_X1_cells_0_ok (i := 2) rfl rfl ?_
  refine g_getI C tb_X1_cells_0_ok (i := 3) rfl fl_X1_51 rfl k1 ?_
  refine g_imul C tb_X1_cells_0_ok (i := 4) rfl ?_
  cases h
  exact g_iret0 C R tb_X1_cells_0_ok (i := 5) rfl
def f_X1_columnOf (y : Lay) (a0 : Nat) (a1 : Int32) (M : Mem) : Option Int32 := gK y a0 (0, 1) (jn (fun (v2 : Int32) => some v2) fun j3 => br ((M.1 a0 0) ≤ 0) (j3 (0 : Int32)) (gd (¬ (M.1 a0 0) = 0) (j3 (a1 - a1 / (M.1 a0 0) * (M.1 a0 0)))))
theorem w_X1_columnOf {g : GX} {l : Launch} (hG : GF g l) (y : Lay) (a0 : Nat) (a1 : Int32) (M : Mem) : C0 g l yX1_columnOf cX1_columnOf 2 (some .int) 0 y [.ref a0, .int a1] M (pm M (f_X1_columnOf y a0 a1 M)) := by
  refine CP_of hG (by decide) [some (.ref a0), some (.int a1)] rfl rfl (fun out h x Q C R => ?_)
  unfold f_X1_columnOf at h
  refine g_aload_n C tb_X1_columnOf_0_ok (i := 0) rfl rfl ?_
  obtain ⟨k1, h⟩ := gK_e h
  refine g_getI C tb_X1_columnOf_0_ok (i := 1) rfl fl_X1_48 rfl k1 ?_
  obtain ⟨j3, ej3, h⟩ := jn_e h
  have J17 : ∀ (v2 : Int32), j3 v2 = some out → GG g x 2 Q 0 0 y M 17 [none, none] [.int v2] := by
    intro v2 h; subst ej3
    cases h
    exact g_iret0 C R tb_X1_columnOf_0_ok (i := 9) rfl
  obtain ⟨t4, f5⟩ := br_e h
  refine g_if_le C tb_X1_columnOf_0_ok (i := 2) 16 rfl rfl (fun c => ?_) (fun c => ?_)
  · have h := t4 c
    refine g_iconstv C tb_X1_columnOf_0_ok (i := 8) 0 rfl k_iconstv_0 ?_
    exact g_less (L' := [none, none]) trivial (J17 (0 : Int32) h)
  · have h := f5 c
    refine g_iload_n C tb_X1_columnOf_0_ok (i := 3) rfl rfl ?_
    refine g_aload_n C tb_X1_columnOf_0_ok (i := 4) rfl rfl ?_
    refine g_getI C tb_X1_columnOf_0_ok (i := 5) rfl fl_X1_48 rfl k1 ?_
    obtain ⟨n6, h⟩ := gd_e h
    refine g_irem C tb_X1_columnOf_0_ok (i := 6) rfl n6 ?_
    refine g_goto C tb_X1_columnOf_0_ok (i := 7) 17 rfl rfl ?_
    exact g_less (L' := [none, none]) trivial (J17 (a1 - a1 / (M.1 a0 0) * (M.1 a0 0)) h)
def f_X1_bitsBeside (y : Lay) (a0 : Nat) (a1 : Int32) (M : Mem) : Option Int32 := gK y a0 (0, 1) (jn (fun (v2 : Int32) => cp (f_X1_cells y a0 M) fun (r4 : Int32) => jn (fun (v5 : Int32) => cp (f_X1_columnOf y a0 a1 M) fun (r7 : Int32) => jn (fun (v8 : Int32) => cp (f_X1_columnOf y a0 a1 M) fun (r10 : Int32) => jn (fun (v11 : Int32) => some v11) fun j12 => br (((M.1 a0 0) - (1 : Int32)) ≤ r10) (j12 v8) (lt (v8 ||| ((1 : Int32) <<< ((a1 + (1 : Int32)) &&& 31))) fun (v15 : Int32) => j12 v15)) fun j9 => br (r7 ≤ 0) (j9 v5) (lt (v5 ||| ((1 : Int32) <<< ((a1 - (1 : Int32)) &&& 31))) fun (v18 : Int32) => j9 v18)) fun j6 => br (r4 ≤ (a1 + (M.1 a0 0))) (j6 v2) (lt (v2 ||| ((1 : Int32) <<< ((a1 + (M.1 a0 0)) &&& 31))) fun (v21 : Int32) => j6 v21)) fun j3 => br (a1 < (M.1 a0 0)) (j3 (0 : Int32)) (lt ((0 : Int32) ||| ((1 : Int32) <<< ((a1 - (M.1 a0 0)) &&& 31))) fun (v24 : Int32) => j3 v24))
theorem w_X1_bitsBeside {g : GX} {l : Launch} (hG : GF g l) (y : Lay) (a0 : Nat) (a1 : Int32) (M : Mem) : C0 g l yX1_bitsBeside cX1_bitsBeside 3 (some .int) 1 y [.ref a0, .int a1] M (pm M (f_X1_bitsBeside y a0 a1 M)) := by
  refine CP_of hG (by decide) [some (.ref a0), some (.int a1), none] rfl rfl (fun out h x Q C R => ?_)
  unfold f_X1_bitsBeside at h
  refine g_iconstv C tb_X1_bitsBeside_0_ok (i := 0) 0 rfl k_iconstv_0 ?_
  refine g_istore_n C tb_X1_bitsBeside_0_ok (i := 1) rfl rfl rfl ?_
  refine g_iload_n C tb_X1_bitsBeside_0_ok (i := 2) rfl rfl ?_
  refine g_aload_n C tb_X1_bitsBeside_0_ok (i := 3) rfl rfl ?_
  obtain ⟨k1, h⟩ := gK_e h
  refine g_getI C tb_X1_bitsBeside_0_ok (i := 4) rfl fl_X1_48 rfl k1 ?_
  obtain ⟨j3, ej3, h⟩ := jn_e h
  have J21 : ∀ (v2 : Int32), j3 v2 = some out → GG g x 3 Q 0 0 y M 21 [some (.ref a0), some (.int a1), some (.int v2)] [] := by
    intro v2 h; subst ej3
    refine g_iload_n C tb_X1_bitsBeside_0_ok (i := 15) rfl rfl ?_
    refine g_aload_n C tb_X1_bitsBeside_0_ok (i := 16) rfl rfl ?_
    refine g_getI C tb_X1_bitsBeside_0_ok (i := 17) rfl fl_X1_48 rfl k1 ?_
    refine g_iadd C tb_X1_bitsBeside_0_ok (i := 18) rfl ?_
    refine g_aload_n C tb_X1_bitsBeside_0_ok (i := 19) rfl rfl ?_
    obtain ⟨r4, er4, h⟩ := cp_e h
    refine g_callV0 C tb_X1_bitsBeside_0_ok (i := 20) [] rfl mw_X1_cells mv_X1_cells ml_X1_54 k1 rfl rfl rfl rfl (w_X1_cells C.G y a0 M) (pm_s er4) rfl rfl rfl ?_
    obtain ⟨j6, ej6, h⟩ := jn_e h
    have J45 : ∀ (v5 : Int32), j6 v5 = some out → GG g x 3 Q 0 0 y M 45 [some (.ref a0), some (.int a1), some (.int v5)] [] := by
      intro v5 h; subst ej6
      refine g_aload_n C tb_X1_bitsBeside_0_ok (i := 31) rfl rfl ?_
      refine g_iload_n C tb_X1_bitsBeside_0_ok (i := 32) rfl rfl ?_
      obtain ⟨r7, er7, h⟩ := cp_e h
      refine g_callV0 C tb_X1_bitsBeside_0_ok (i := 33) [.int a1] rfl mw_X1_columnOf mv_X1_columnOf ml_X1_62 k1 rfl rfl rfl rfl (w_X1_columnOf C.G y a0 a1 M) (pm_s er7) rfl rfl rfl ?_
      obtain ⟨j9, ej9, h⟩ := jn_e h
      have J61 : ∀ (v8 : Int32), j9 v8 = some out → GG g x 3 Q 0 0 y M 61 [some (.ref a0), some (.int a1), some (.int v8)] [] := by
        intro v8 h; subst ej9
        refine g_aload_n C tb_X1_bitsBeside_1_ok (i := 3) rfl rfl ?_
        refine g_iload_n C tb_X1_bitsBeside_1_ok (i := 4) rfl rfl ?_
        obtain ⟨r10, er10, h⟩ := cp_e h
        refine g_callV0 C tb_X1_bitsBeside_1_ok (i := 5) [.int a1] rfl mw_X1_columnOf mv_X1_columnOf ml_X1_62 k1 rfl rfl rfl rfl (w_X1_columnOf C.G y a0 a1 M) (pm_s er10) rfl rfl rfl ?_
        refine g_aload_n C tb_X1_bitsBeside_1_ok (i := 6) rfl rfl ?_
        refine g_getI C tb_X1_bitsBeside_1_ok (i := 7) rfl fl_X1_48 rfl k1 ?_
        refine g_iconstv C tb_X1_bitsBeside_1_ok (i := 8) 1 rfl k_iconstv_1 ?_
        refine g_isub C tb_X1_bitsBeside_1_ok (i := 9) rfl ?_
        obtain ⟨j12, ej12, h⟩ := jn_e h
        have J83 : ∀ (v11 : Int32), j12 v11 = some out → GG g x 3 Q 0 0 y M 83 [none, none, some (.int v11)] [] := by
          intro v11 h; subst ej12
          refine g_iload_n C tb_X1_bitsBeside_1_ok (i := 19) rfl rfl ?_
          cases h
          exact g_iret0 C R tb_X1_bitsBeside_1_ok (i := 20) rfl
        obtain ⟨t13, f14⟩ := br_e h
        refine g_icmp_ge C tb_X1_bitsBeside_1_ok (i := 10) 83 rfl rfl (fun c => ?_) (fun c => ?_)
        · have h := t13 c
          exact g_less (L' := [none, none, some (.int v8)]) ⟨rfl, trivial⟩ (J83 v8 h)
        · have h := f14 c
          refine g_iload_n C tb_X1_bitsBeside_1_ok (i := 11) rfl rfl ?_
          refine g_iconstv C tb_X1_bitsBeside_1_ok (i := 12) 1 rfl k_iconstv_1 ?_
          refine g_iload_n C tb_X1_bitsBeside_1_ok (i := 13) rfl rfl ?_
          refine g_iconstv C tb_X1_bitsBeside_1_ok (i := 14) 1 rfl k_iconstv_1 ?_
          refine g_iadd C tb_X1_bitsBeside_1_ok (i := 15) rfl ?_
          refine g_ishl C tb_X1_bitsBeside_1_ok (i := 16) rfl ?_
          refine g_ior C tb_X1_bitsBeside_1_ok (i := 17) rfl ?_
          refine g_topi (fun v15 ev15 => ?_)
          have h := lt_e ev15 h
          refine g_istore_n C tb_X1_bitsBeside_1_ok (i := 18) rfl rfl rfl ?_
          exact g_less (L' := [none, none, some (.int v15)]) ⟨rfl, trivial⟩ (J83 v15 h)
      obtain ⟨t16, f17⟩ := br_e h
      refine g_if_le C tb_X1_bitsBeside_0_ok (i := 34) 61 rfl rfl (fun c => ?_) (fun c => ?_)
      · have h := t16 c
        exact g_less (L' := [some (.ref a0), some (.int a1), some (.int v5)]) ⟨rfl, ⟨rfl, ⟨rfl, trivial⟩⟩⟩ (J61 v5 h)
      · have h := f17 c
        refine g_iload_n C tb_X1_bitsBeside_0_ok (i := 35) rfl rfl ?_
        refine g_iconstv C tb_X1_bitsBeside_0_ok (i := 36) 1 rfl k_iconstv_1 ?_
        refine g_iload_n C tb_X1_bitsBeside_0_ok (i := 37) rfl rfl ?_
        refine g_iconstv C tb_X1_bitsBeside_0_ok (i := 38) 1 rfl k_iconstv_1 ?_
        refine g_isub C tb_X1_bitsBeside_0_ok (i := 39) rfl ?_
        refine g_ishl C tb_X1_bitsBeside_1_ok (i := 0) rfl ?_
        refine g_ior C tb_X1_bitsBeside_1_ok (i := 1) rfl ?_
        refine g_topi (fun v18 ev18 => ?_)
        have h := lt_e ev18 h
        refine g_istore_n C tb_X1_bitsBeside_1_ok (i := 2) rfl rfl rfl ?_
        exact g_less (L' := [some (.ref a0), some (.int a1), some (.int v18)]) ⟨rfl, ⟨rfl, ⟨rfl, trivial⟩⟩⟩ (J61 v18 h)
    obtain ⟨t19, f20⟩ := br_e h
    refine g_icmp_ge C tb_X1_bitsBeside_0_ok (i := 21) 45 rfl rfl (fun c => ?_) (fun c => ?_)
    · have h := t19 c
      exact g_less (L' := [some (.ref a0), some (.int a1), some (.int v2)]) ⟨rfl, ⟨rfl, ⟨rfl, trivial⟩⟩⟩ (J45 v2 h)
    · have h := f20 c
      refine g_iload_n C tb_X1_bitsBeside_0_ok (i := 22) rfl rfl ?_
      refine g_iconstv C tb_X1_bitsBeside_0_ok (i := 23) 1 rfl k_iconstv_1 ?_
      refine g_iload_n C tb_X1_bitsBeside_0_ok (i := 24) rfl rfl ?_
      refine g_aload_n C tb_X1_bitsBeside_0_ok (i := 25) rfl rfl ?_
      refine g_getI C tb_X1_bitsBeside_0_ok (i := 26) rfl fl_X1_48 rfl k1 ?_
      refine g_iadd C tb_X1_bitsBeside_0_ok (i := 27) rfl ?_
      refine g_ishl C tb_X1_bitsBeside_0_ok (i := 28) rfl ?_
      refine g_ior C tb_X1_bitsBeside_0_ok (i := 29) rfl ?_
      refine g_topi (fun v21 ev21 => ?_)
      have h := lt_e ev21 h
      refine g_istore_n C tb_X1_bitsBeside_0_ok (i := 30) rfl rfl rfl ?_
      exact g_less (L' := [some (.ref a0), some (.int a1), some (.int v21)]) ⟨rfl, ⟨rfl, ⟨rfl, trivial⟩⟩⟩ (J45 v21 h)
  obtain ⟨t22, f23⟩ := br_e h
  refine g_icmp_lt C tb_X1_bitsBeside_0_ok (i := 5) 21 rfl rfl (fun c => ?_) (fun c => ?_)
  · have h := t22 c
    exact g_less (L' := [some (.ref a0), some (.int a1), some (.int (0 : Int32))]) ⟨rfl, ⟨rfl, ⟨rfl, trivial⟩⟩⟩ (J21 (0 : Int32) h)
  · have h := f23 c
    refine g_iload_n C tb_X1_bitsBeside_0_ok (i := 6) rfl rfl ?_
    refine g_iconstv C tb_X1_bitsBeside_0_ok (i := 7) 1 rfl k_iconstv_1 ?_
    refine g_iload_n C tb_X1_bitsBeside_0_ok (i := 8) rfl rfl ?_
    refine g_aload_n C tb_X1_bitsBeside_0_ok (i := 9) rfl rfl ?_
    refine g_getI C tb_X1_bitsBeside_0_ok (i := 10) rfl fl_X1_48 rfl k1 ?_
    refine g_isub C tb_X1_bitsBeside_0_ok (i := 11) rfl ?_
    refine g_ishl C tb_X1_bitsBeside_0_ok (i := 12) rfl ?_
    refine g_ior C tb_X1_bitsBeside_0_ok (i := 13) rfl ?_
    refine g_topi (fun v24 ev24 => ?_)
    have h := lt_e ev24 h
    refine g_istore_n C tb_X1_bitsBeside_0_ok (i := 14) rfl rfl rfl ?_
    exact g_less (L' := [some (.ref a0), some (.int a1), some (.int v24)]) ⟨rfl, ⟨rfl, ⟨rfl, trivial⟩⟩⟩ (J21 v24 h)
def f_X1_shape (y : Lay) (a0 : Nat) (a1 : Int32) (a2 : Int32) (M : Mem) : Option (Int32 × Mem) := gK y a0 (0, 1) (lt (wI M a0 0 a1) fun (M2 : Mem) => lt (wI M2 a0 1 a2) fun (M3 : Mem) => fixN (fun _ _ => none) (fun (s6 : Int32 → Mem → Option (Int32 × Mem)) (v4 : Int32) (M5 : Mem) => br ((30 : Int32) ≤ v4) (some (0, M5)) (gN (y.2.1 a0 6) (cp (f_X1_cells y a0 M5) fun (r11 : Int32) => jn (fun (v12 : Int32) => gA y (y.2.1 a0 6) 1 v4 (lt (wI M5 (y.2.1 a0 6) v4.toNatClampNeg v12) fun (M15 : Mem) => lt (v4 + (1 : Int32)) fun (v16 : Int32) => s6 v16 M15)) fun j13 => br (r11 ≤ v4) (j13 (0 : Int32)) (cp (f_X1_bitsBeside y a0 v4 M5) fun (r19 : Int32) => j13 r19)))) FUEL (0 : Int32) M3)
theorem w_X1_shape {g : GX} {l : Launch} (hG : GF g l) (y : Lay) (a0 : Nat) (a1 : Int32) (a2 : Int32) (M : Mem) : C0 g l yX1_shape cX1_shape 4 none 2 y [.ref a0, .int a1, .int a2] M (f_X1_shape y a0 a1 a2 M) := by
  refine C0_of hG (by decide) [some (.ref a0), some (.int a1), some (.int a2), none] rfl rfl (fun out h x Q C R => ?_)
  unfold f_X1_shape at h
  refine g_aload_n C tb_X1_shape_0_ok (i := 0) rfl rfl ?_
  refine g_iload_n C tb_X1_shape_0_ok (i := 1) rfl rfl ?_
  obtain ⟨k1, h⟩ := gK_e h
  refine g_putI C tb_X1_shape_0_ok (i := 2) rfl fl_X1_48 ft_1_0 rfl k1 ?_
  refine g_mem (fun M2 eM2 => ?_)
  have h := lt_e eM2 h
  refine g_aload_n C tb_X1_shape_0_ok (i := 3) rfl rfl ?_
  refine g_iload_n C tb_X1_shape_0_ok (i := 4) rfl rfl ?_
  refine g_putI C tb_X1_shape_0_ok (i := 5) rfl fl_X1_51 ft_1_1 rfl k1 ?_
  refine g_mem (fun M3 eM3 => ?_)
  have h := lt_e eM3 h
  refine g_iconstv C tb_X1_shape_0_ok (i := 6) 0 rfl k_iconstv_0 ?_
  refine g_istore_n C tb_X1_shape_0_ok (i := 7) rfl rfl rfl ?_
  refine g_less (L' := [some (.ref a0), none, none, some (.int (0 : Int32))]) ⟨rfl, ⟨rfl, trivial⟩⟩ ?_
  refine fix_i (P := fun (f : Int32 → Mem → Option (Int32 × Mem)) => ∀ (v4 : Int32) (M5 : Mem), f v4 M5 = some out → GG g x 4 Q 0 0 y M5 12 [some (.ref a0), none, none, some (.int v4)] []) ?_ ?_ _ (0 : Int32) M3 h
  · intro v4 M5 h; exact (nn_e h).elim
  · intro s6 ih7 v4 M5 h
    refine g_iload_n C tb_X1_shape_0_ok (i := 8) rfl rfl ?_
    refine g_bipushv C tb_X1_shape_0_ok (i := 9) 30 rfl k_bipushv_30 ?_
    obtain ⟨t8, f9⟩ := br_e h
    refine g_icmp_ge C tb_X1_shape_0_ok (i := 10) 47 rfl rfl (fun c => ?_) (fun c => ?_)
    · have h := t8 c
      cases h
      exact g_vret0 C R tb_X1_shape_0_ok (i := 26) rfl
    · have h := f9 c
      refine g_aload_n C tb_X1_shape_0_ok (i := 11) rfl rfl ?_
      obtain ⟨n10, h⟩ := gN_e h
      refine g_getR C tb_X1_shape_0_ok (i := 12) rfl fl_X1_9 rfl k1 n10 ?_
      refine g_iload_n C tb_X1_shape_0_ok (i := 13) rfl rfl ?_
      refine g_iload_n C tb_X1_shape_0_ok (i := 14) rfl rfl ?_
      refine g_aload_n C tb_X1_shape_0_ok (i := 15) rfl rfl ?_
      obtain ⟨r11, er11, h⟩ := cp_e h
      refine g_callV0 C tb_X1_shape_0_ok (i := 16) [] rfl mw_X1_cells mv_X1_cells ml_X1_54 k1 rfl rfl rfl rfl (w_X1_cells C.G y a0 M5) (pm_s er11) rfl rfl rfl ?_
      obtain ⟨j13, ej13, h⟩ := jn_e h
      have J40 : ∀ (v12 : Int32), j13 v12 = some out → GG g x 4 Q 0 0 y M5 40 [some (.ref a0), none, none, some (.int v4)] [.int v12, .int v4, .ref (y.2.1 a0 6)] := by
        intro v12 h; subst ej13
        obtain ⟨b14, h⟩ := gA_e h
        refine g_iast C tb_X1_shape_0_ok (i := 23) rfl b14 ?_
        refine g_mem (fun M15 eM15 => ?_)
        have h := lt_e eM15 h
        obtain ⟨v16, ev16⟩ : ∃ w : Int32, w = v4 + (1 : Int32) := ⟨_, rfl⟩
        have h := lt_e ev16 h
        refine g_iincv C tb_X1_shape_0_ok (i := 24) (1 : Int32) ev16 rfl rfl k_iconstv_1 rfl rfl ?_
        refine g_goto C tb_X1_shape_0_ok (i := 25) 12 rfl rfl ?_
        exact g_less (L' := [some (.ref a0), none, none, some (.int v16)]) ⟨rfl, ⟨rfl, trivial⟩⟩ (ih7 v16 M15 h)
      obtain ⟨t17, f18⟩ := br_e h
      refine g_icmp_ge C tb_X1_shape_0_ok (i := 17) 39 rfl rfl (fun c => ?_) (fun c => ?_)
      · have h := t17 c
        refine g_iconstv C tb_X1_shape_0_ok (i := 22) 0 rfl k_iconstv_0 ?_
        exact g_less (L' := [some (.ref a0), none, none, some (.int v4)]) ⟨rfl, ⟨rfl, trivial⟩⟩ (J40 (0 : Int32) h)
      · have h := f18 c
        refine g_aload_n C tb_X1_shape_0_ok (i := 18) rfl rfl ?_
        refine g_iload_n C tb_X1_shape_0_ok (i := 19) rfl rfl ?_
        obtain ⟨r19, er19, h⟩ := cp_e h
        refine g_callV0 C tb_X1_shape_0_ok (i := 20) [.int v4] rfl mw_X1_bitsBeside mv_X1_bitsBeside ml_X1_58 k1 rfl rfl rfl rfl (w_X1_bitsBeside C.G y a0 v4 M5) (pm_s er19) rfl rfl rfl ?_
        refine g_goto C tb_X1_shape_0_ok (i := 21) 40 rfl rfl ?_
        exact g_less (L' := [some (.ref a0), none, none, some (.int v4)]) ⟨rfl, ⟨rfl, trivial⟩⟩ (J40 r19 h)
def f_X5_clear (y : Lay) (a0 : Nat) (M : Mem) : Option (Int32 × Mem) := gK y a0 (0, 5) (lt (wI M a0 2 (0 : Int32)) fun (M2 : Mem) => some (0, M2))
theorem w_X5_clear {g : GX} {l : Launch} (hG : GF g l) (y : Lay) (a0 : Nat) (M : Mem) : C0 g l yX5_clear cX5_clear 1 none 0 y [.ref a0] M (f_X5_clear y a0 M) := by
  refine C0_of hG (by decide) [some (.ref a0)] rfl rfl (fun out h x Q C R => ?_)
  unfold f_X5_clear at h
  refine g_aload_n C tb_X5_clear_0_ok (i := 0) rfl rfl ?_
  refine g_iconstv C tb_X5_clear_0_ok (i := 1) 0 rfl k_iconstv_0 ?_
  obtain ⟨k1, h⟩ := gK_e h
  refine g_putI C tb_X5_clear_0_ok (i := 2) rfl fl_X5_18 ft_5_2 rfl k1 ?_
  refine g_mem (fun M2 eM2 => ?_)
  have h := lt_e eM2 h
  cases h
  exact g_vret0 C R tb_X5_clear_0_ok (i := 3) rfl
def f_X1_begin (y : Lay) (a0 : Nat) (M : Mem) : Option (Int32 × Mem) := gK y a0 (0, 1) (c0 (f_X1_shape y a0 (3 : Int32) (3 : Int32) M) fun (r2 : Int32) (M3 : Mem) => lt (wI M3 a0 2 (2 : Int32)) fun (M4 : Mem) => lt (wI M4 a0 3 (60 : Int32)) fun (M5 : Mem) => lt (wI M5 a0 4 (0 : Int32)) fun (M6 : Mem) => lt (wI M6 a0 5 (0 : Int32)) fun (M7 : Mem) => gN (y.2.1 a0 7) (gK y (y.2.1 a0 7) (0, 5) (c0 (f_X5_clear y (y.2.1 a0 7) M7) fun (r10 : Int32) (M11 : Mem) => gN (y.2.1 a0 8) (gK y (y.2.1 a0 8) (0, 5) (c0 (f_X5_clear y (y.2.1 a0 8) M11) fun (r14 : Int32) (M15 : Mem) => some (0, M15))))))
theorem w_X1_begin {g : GX} {l : Launch} (hG : GF g l) (y : Lay) (a0 : Nat) (M : Mem) : C0 g l yX1_begin cX1_begin 1 none 3 y [.ref a0] M (f_X1_begin y a0 M) := by
  refine C0_of hG (by decide) [some (.ref a0)] rfl rfl (fun out h x Q C R => ?_)
  unfold f_X1_begin at h
  refine g_aload_n C tb_X1_begin_0_ok (i := 0) rfl rfl ?_
  refine g_iconstv C tb_X1_begin_0_ok (i := 1) 3 rfl k_iconstv_3 ?_
  refine g_iconstv C tb_X1_begin_0_ok (i := 2) 3 rfl k_iconstv_3 ?_
  obtain ⟨k1, h⟩ := gK_e h
  obtain ⟨r2, M3, er2, h⟩ := c0_e h
  refine g_callV0 C tb_X1_begin_0_ok (i := 3) [.int (3 : Int32), .int (3 : Int32)] rfl mw_X1_shape mv_X1_shape ml_X1_28 k1 rfl rfl rfl rfl (w_X1_shape C.G y a0 (3 : Int32) (3 : Int32) M) er2 rfl rfl rfl ?_
  refine g_aload_n C tb_X1_begin_0_ok (i := 4) rfl rfl ?_
  refine g_iconstv C tb_X1_begin_0_ok (i := 5) 2 rfl k_iconstv_2 ?_
  refine g_putI C tb_X1_begin_0_ok (i := 6) rfl fl_X1_32 ft_1_2 rfl k1 ?_
  refine g_mem (fun M4 eM4 => ?_)
  have h := lt_e eM4 h
  refine g_aload_n C tb_X1_begin_0_ok (i := 7) rfl rfl ?_
  refine g_bipushv C tb_X1_begin_0_ok (i := 8) 60 rfl k_bipushv_60 ?_
  refine g_putI C tb_X1_begin_0_ok (i := 9) rfl fl_X1_36 ft_1_3 rfl k1 ?_
  refine g_mem (fun M5 eM5 => ?_)
  have h := lt_e eM5 h
  refine g_aload_n C tb_X1_begin_0_ok (i := 10) rfl rfl ?_
  refine g_iconstv C tb_X1_begin_0_ok (i := 11) 0 rfl k_iconstv_0 ?_
  refine g_putI C tb_X1_begin_0_ok (i := 12) rfl fl_X1_39 ft_1_4 rfl k1 ?_
  refine g_mem (fun M6 eM6 => ?_)
  have h := lt_e eM6 h
  refine g_aload_n C tb_X1_begin_0_ok (i := 13) rfl rfl ?_
  refine g_iconstv C tb_X1_begin_0_ok (i := 14) 0 rfl k_iconstv_0 ?_
  refine g_putI C tb_X1_begin_0_ok (i := 15) rfl fl_X1_42 ft_1_5 rfl k1 ?_
  refine g_mem (fun M7 eM7 => ?_)
  have h := lt_e eM7 h
  refine g_aload_n C tb_X1_begin_0_ok (i := 16) rfl rfl ?_
  obtain ⟨n8, h⟩ := gN_e h
  refine g_getR C tb_X1_begin_0_ok (i := 17) rfl fl_X1_18 rfl k1 n8 ?_
  obtain ⟨k9, h⟩ := gK_e h
  obtain ⟨r10, M11, er10, h⟩ := c0_e h
  refine g_callV0 C tb_X1_begin_0_ok (i := 18) [] rfl mw_X5_clear mv_X5_clear ml_X1_45 k9 rfl rfl rfl rfl (w_X5_clear C.G y (y.2.1 a0 7) M7) er10 rfl rfl rfl ?_
  refine g_aload_n C tb_X1_begin_0_ok (i := 19) rfl rfl ?_
  obtain ⟨n12, h⟩ := gN_e h
  refine g_getR C tb_X1_begin_0_ok (i := 20) rfl fl_X1_22 rfl k1 n12 ?_
  obtain ⟨k13, h⟩ := gK_e h
  obtain ⟨r14, M15, er14, h⟩ := c0_e h
  refine g_callV0 C tb_X1_begin_0_ok (i := 21) [] rfl mw_X5_clear mv_X5_clear ml_X1_45 k13 rfl rfl rfl rfl (w_X5_clear C.G y (y.2.1 a0 8) M11) er14 rfl rfl rfl ?_
  cases h
  exact g_vret0 C R tb_X1_begin_0_ok (i := 22) rfl
def f_X1_init (y : Lay) (a0 : Nat) (M : Mem) : Option (Lay × Mem) := gd (y.2.2 + 2 ≤ 1000) (lt (psh y (1, 30)) fun (y2 : Lay) => lt (zM M (y.2.2 + 1)) fun (M3 : Mem) => gK y2 a0 (0, 1) (gN (y.2.2 + 1) (lt (wF y2 a0 6 (y.2.2 + 1)) fun (y6 : Lay) => gd (y6.2.2 + 2 ≤ 1000) (lt (psh y6 (0, 5)) fun (y8 : Lay) => lt (zM M3 (y6.2.2 + 1)) fun (M9 : Mem) => ci (f_X5_init y8 (y6.2.2 + 1) M9) fun (y10 : Lay) (M11 : Mem) => gK y10 a0 (0, 1) (gN (y6.2.2 + 1) (lt (wF y10 a0 7 (y6.2.2 + 1)) fun (y14 : Lay) => gd (y14.2.2 + 2 ≤ 1000) (lt (psh y14 (0, 5)) fun (y16 : Lay) => lt (zM M11 (y14.2.2 + 1)) fun (M17 : Mem) => ci (f_X5_init y16 (y14.2.2 + 1) M17) fun (y18 : Lay) (M19 : Mem) => gK y18 a0 (0, 1) (gN (y14.2.2 + 1) (lt (wF y18 a0 8 (y14.2.2 + 1)) fun (y22 : Lay) => gK y22 a0 (0, 1) (c0 (f_X1_begin y22 a0 M19) fun (r24 : Int32) (M25 : Mem) => some (y22, M25)))))))))))
set_option maxRecDepth 20000 in
theorem w_X1_init {g : GX} {l : Launch} (hG : GF g l) (y : Lay) (a0 : Nat) (M : Mem) : CIt g l yX1_init cX1_init 1 4 7 1516 y [.ref a0] M (f_X1_init y a0 M) := by
  refine CI_of hG (by decide) rfl [some (.ref a0)] rfl rfl (fun out h x Q C R hz => ?_)
  have hz0 := hz
  unfold f_X1_init at h
  refine g_aload_n C tb_X1_init_0_ok (i := 0) rfl rfl ?_
  refine g_objI C tb_X1_init_0_ok (i := 1) rfl oi_X1_3 obj_w rfl ?_
  refine g_aload_n C tb_X1_init_0_ok (i := 2) rfl rfl ?_
  refine g_bipushv C tb_X1_init_0_ok (i := 3) 30 rfl k_bipushv_30 ?_
  obtain ⟨g1, h⟩ := gd_e h
  refine g_newaI C tb_X1_init_0_ok (i := 4) (N := 30) hz rfl acl_int (by decide) (by decide) rfl g1 (by decide) (by decide) (fun hz => ?_)
  refine g_nm (fun y2 ey2 M3 eM3 => ?_)
  have h := lt_e ey2 h
  have h := lt_e eM3 h
  rw [← ey2] at hz
  obtain ⟨k4, h⟩ := gK_e h
  obtain ⟨n5, h⟩ := gN_e h
  refine g_putF C tb_X1_init_0_ok R (i := 5) rfl ff_X1_9 ft_1_6 (Or.inr ⟨_, rfl⟩) rfl n5 k4 ?_
  refine g_nmy (fun y6 ey6 => ?_)
  have h := lt_e ey6 h
  have hz : HZ g x 1 y6 := by rw [ey6]; exact hz
  refine g_aload_n C tb_X1_init_0_ok (i := 6) rfl rfl ?_
  obtain ⟨g7, h⟩ := gd_e h
  refine g_new C tb_X1_init_0_ok (i := 7) hz rfl cls_5 cnw_5 ck_X1_15 ins_5 ini_5 (Or.inr g7) (by decide) (by decide) (fun hz => ?_)
  refine g_nm (fun y8 ey8 M9 eM9 => ?_)
  have h := lt_e ey8 h
  have h := lt_e eM9 h
  rw [← ey8] at hz
  refine g_dup C tb_X1_init_0_ok (i := 8) rfl rfl ?_
  obtain ⟨y10, M11, ey10, h⟩ := ci_e h
  refine g_callI C tb_X1_init_0_ok (i := 9) [] hz rfl mw_X5_init mi_X5_init mli_X1_17 rfl rfl rfl rfl (w_X5_init C.G y8 (y6.2.2 + 1) M9) ey10 (by decide) (by decide) rfl (fun hz => ?_)
  obtain ⟨k12, h⟩ := gK_e h
  obtain ⟨n13, h⟩ := gN_e h
  refine g_putF C tb_X1_init_0_ok R (i := 10) rfl ff_X1_18 ft_1_7 (Or.inl ⟨_, rfl⟩) rfl n13 k12 ?_
  refine g_nmy (fun y14 ey14 => ?_)
  have h := lt_e ey14 h
  have hz : HZ g x 4 y14 := by rw [ey14]; exact hz
  refine g_aload_n C tb_X1_init_0_ok (i := 11) rfl rfl ?_
  obtain ⟨g15, h⟩ := gd_e h
  refine g_new C tb_X1_init_0_ok (i := 12) hz rfl cls_5 cnw_5 ck_X1_15 ins_5 ini_5 (Or.inr g15) (by decide) (by decide) (fun hz => ?_)
  refine g_nm (fun y16 ey16 M17 eM17 => ?_)
  have h := lt_e ey16 h
  have h := lt_e eM17 h
  rw [← ey16] at hz
  refine g_dup C tb_X1_init_0_ok (i := 13) rfl rfl ?_
  obtain ⟨y18, M19, ey18, h⟩ := ci_e h
  refine g_callI C tb_X1_init_0_ok (i := 14) [] hz rfl mw_X5_init mi_X5_init mli_X1_17 rfl rfl rfl rfl (w_X5_init C.G y16 (y14.2.2 + 1) M17) ey18 (by decide) (by decide) rfl (fun hz => ?_)
  obtain ⟨k20, h⟩ := gK_e h
  obtain ⟨n21, h⟩ := gN_e h
  refine g_putF C tb_X1_init_0_ok R (i := 15) rfl ff_X1_22 ft_1_8 (Or.inl ⟨_, rfl⟩) rfl n21 k20 ?_
  refine g_nmy (fun y22 ey22 => ?_)
  have h := lt_e ey22 h
  have hz : HZ g x 7 y22 := by rw [ey22]; exact hz
  refine g_aload_n C tb_X1_init_0_ok (i := 16) rfl rfl ?_
  obtain ⟨k23, h⟩ := gK_e h
  obtain ⟨r24, M25, er24, h⟩ := c0_e h
  refine g_callV0 C tb_X1_init_0_ok (i := 17) [] rfl mw_X1_begin mv_X1_begin ml_X1_25 k23 rfl rfl rfl rfl (w_X1_begin C.G y22 a0 M19) er24 rfl rfl rfl ?_
  cases h
  exact g_vretI C R hz rfl (by have h8 : x.2.2.2.2.1.heap.size + 0 = bs g + y.2.2 := hz0; have h9 : x.2.2.2.2.1.heap.size + _ = bs g + _ := hz; omega) rfl tb_X1_init_0_ok (i := 18) rfl
def f_X8_begin (y : Lay) (a0 : Nat) (M : Mem) : Option (Int32 × Mem) := fixN (fun _ _ => none) (fun (s3 : Int32 → Mem → Option (Int32 × Mem)) (v1 : Int32) (M2 : Mem) => br ((30 : Int32) ≤ v1) (fixN (fun _ _ => none) (fun (s9 : Int32 → Mem → Option (Int32 × Mem)) (v7 : Int32) (M8 : Mem) => br ((6 : Int32) ≤ v7) (gK y a0 (0, 8) (lt (wI M8 a0 7 (0 : Int32)) fun (M14 : Mem) => lt (wI M14 a0 8 (0 : Int32)) fun (M15 : Mem) => lt (wI M15 a0 9 (20 : Int32)) fun (M16 : Mem) => lt (wI M16 a0 10 (0 : Int32)) fun (M17 : Mem) => lt (wI M17 a0 11 (0 : Int32)) fun (M18 : Mem) => lt (wI M18 a0 12 (0 : Int32)) fun (M19 : Mem) => some (0, M19))) (gK y a0 (0, 8) (gN (y.2.1 a0 4) (gA y (y.2.1 a0 4) 1 v7 (lt (wI M8 (y.2.1 a0 4) v7.toNatClampNeg (0 : Int32)) fun (M23 : Mem) => gN (y.2.1 a0 5) (gA y (y.2.1 a0 5) 1 v7 (lt (wI M23 (y.2.1 a0 5) v7.toNatClampNeg (0 : Int32)) fun (M26 : Mem) => lt (v7 + (1 : Int32)) fun (v27 : Int32) => s9 v27 M26))))))) FUEL (0 : Int32) M2) (gK y a0 (0, 8) (gN (y.2.1 a0 1) (gA y (y.2.1 a0 1) 1 v1 (lt (wI M2 (y.2.1 a0 1) v1.toNatClampNeg (0 : Int32)) fun (M31 : Mem) => lt (v1 + (1 : Int32)) fun (v32 : Int32) => s3 v32 M31))))) FUEL (0 : Int32) M
theorem w_X8_begin {g : GX} {l : Launch} (hG : GF g l) (y : Lay) (a0 : Nat) (M : Mem) : C0 g l yX8_begin cX8_begin 2 none 0 y [.ref a0] M (f_X8_begin y a0 M) := by
  refine C0_of hG (by decide) [some (.ref a0), none] rfl rfl (fun out h x Q C R => ?_)
  unfold f_X8_begin at h
  refine g_iconstv C tb_X8_begin_0_ok (i := 0) 0 rfl k_iconstv_0 ?_
  refine g_istore_n C tb_X8_begin_0_ok (i := 1) rfl rfl rfl ?_
  refine g_less (L' := [some (.ref a0), some (.int (0 : Int32))]) ⟨rfl, ⟨rfl, trivial⟩⟩ ?_
  refine fix_i (P := fun (f : Int32 → Mem → Option (Int32 × Mem)) => ∀ (v1 : Int32) (M2 : Mem), f v1 M2 = some out → GG g x 2 Q 0 0 y M2 2 [some (.ref a0), some (.int v1)] []) ?_ ?_ _ (0 : Int32) M h
  · intro v1 M2 h; exact (nn_e h).elim
  · intro s3 ih4 v1 M2 h
    refine g_iload_n C tb_X8_begin_0_ok (i := 2) rfl rfl ?_
    refine g_bipushv C tb_X8_begin_0_ok (i := 3) 30 rfl k_bipushv_30 ?_
    obtain ⟨t5, f6⟩ := br_e h
    refine g_icmp_ge C tb_X8_begin_0_ok (i := 4) 21 rfl rfl (fun c => ?_) (fun c => ?_)
    · have h := t5 c
      refine g_iconstv C tb_X8_begin_0_ok (i := 12) 0 rfl k_iconstv_0 ?_
      refine g_istore_n C tb_X8_begin_0_ok (i := 13) rfl rfl rfl ?_
      refine g_less (L' := [some (.ref a0), some (.int (0 : Int32))]) ⟨rfl, ⟨rfl, trivial⟩⟩ ?_
      refine fix_i (P := fun (f : Int32 → Mem → Option (Int32 × Mem)) => ∀ (v7 : Int32) (M8 : Mem), f v7 M8 = some out → GG g x 2 Q 0 0 y M8 23 [some (.ref a0), some (.int v7)] []) ?_ ?_ _ (0 : Int32) M2 h
      · intro v7 M8 h; exact (nn_e h).elim
      · intro s9 ih10 v7 M8 h
        refine g_iload_n C tb_X8_begin_0_ok (i := 14) rfl rfl ?_
        refine g_bipushv C tb_X8_begin_0_ok (i := 15) 6 rfl k_bipushv_6 ?_
        obtain ⟨t11, f12⟩ := br_e h
        refine g_icmp_ge C tb_X8_begin_0_ok (i := 16) 49 rfl rfl (fun c => ?_) (fun c => ?_)
        · have h := t11 c
          refine g_aload_n C tb_X8_begin_0_ok (i := 29) rfl rfl ?_
          refine g_iconstv C tb_X8_begin_0_ok (i := 30) 0 rfl k_iconstv_0 ?_
          obtain ⟨k13, h⟩ := gK_e h
          refine g_putI C tb_X8_begin_0_ok (i := 31) rfl fl_X8_39 ft_8_7 rfl k13 ?_
          refine g_mem (fun M14 eM14 => ?_)
          have h := lt_e eM14 h
          refine g_aload_n C tb_X8_begin_0_ok (i := 32) rfl rfl ?_
          refine g_iconstv C tb_X8_begin_0_ok (i := 33) 0 rfl k_iconstv_0 ?_
          refine g_putI C tb_X8_begin_0_ok (i := 34) rfl fl_X8_43 ft_8_8 rfl k13 ?_
          refine g_mem (fun M15 eM15 => ?_)
          have h := lt_e eM15 h
          refine g_aload_n C tb_X8_begin_0_ok (i := 35) rfl rfl ?_
          refine g_bipushv C tb_X8_begin_0_ok (i := 36) 20 rfl k_bipushv_20 ?_
          refine g_putI C tb_X8_begin_0_ok (i := 37) rfl fl_X8_46 ft_8_9 rfl k13 ?_
          refine g_mem (fun M16 eM16 => ?_)
          have h := lt_e eM16 h
          refine g_aload_n C tb_X8_begin_0_ok (i := 38) rfl rfl ?_
          refine g_iconstv C tb_X8_begin_0_ok (i := 39) 0 rfl k_iconstv_0 ?_
          refine g_putI C tb_X8_begin_1_ok (i := 0) rfl fl_X8_49 ft_8_10 rfl k13 ?_
          refine g_mem (fun M17 eM17 => ?_)
          have h := lt_e eM17 h
          refine g_aload_n C tb_X8_begin_1_ok (i := 1) rfl rfl ?_
          refine g_iconstv C tb_X8_begin_1_ok (i := 2) 0 rfl k_iconstv_0 ?_
          refine g_putI C tb_X8_begin_1_ok (i := 3) rfl fl_X8_52 ft_8_11 rfl k13 ?_
          refine g_mem (fun M18 eM18 => ?_)
          have h := lt_e eM18 h
          refine g_aload_n C tb_X8_begin_1_ok (i := 4) rfl rfl ?_
          refine g_iconstv C tb_X8_begin_1_ok (i := 5) 0 rfl k_iconstv_0 ?_
          refine g_putI C tb_X8_begin_1_ok (i := 6) rfl fl_X8_55 ft_8_12 rfl k13 ?_
          refine g_mem (fun M19 eM19 => ?_)
          have h := lt_e eM19 h
          cases h
          exact g_vret0 C R tb_X8_begin_1_ok (i := 7) rfl
        · have h := f12 c
          refine g_aload_n C tb_X8_begin_0_ok (i := 17) rfl rfl ?_
          obtain ⟨k20, h⟩ := gK_e h
          obtain ⟨n21, h⟩ := gN_e h
          refine g_getR C tb_X8_begin_0_ok (i := 18) rfl fl_X8_21 rfl k20 n21 ?_
          refine g_iload_n C tb_X8_begin_0_ok (i := 19) rfl rfl ?_
          refine g_iconstv C tb_X8_begin_0_ok (i := 20) 0 rfl k_iconstv_0 ?_
          obtain ⟨b22, h⟩ := gA_e h
          refine g_iast C tb_X8_begin_0_ok (i := 21) rfl b22 ?_
          refine g_mem (fun M23 eM23 => ?_)
          have h := lt_e eM23 h
          refine g_aload_n C tb_X8_begin_0_ok (i := 22) rfl rfl ?_
          obtain ⟨n24, h⟩ := gN_e h
          refine g_getR C tb_X8_begin_0_ok (i := 23) rfl fl_X8_24 rfl k20 n24 ?_
          refine g_iload_n C tb_X8_begin_0_ok (i := 24) rfl rfl ?_
          refine g_iconstv C tb_X8_begin_0_ok (i := 25) 0 rfl k_iconstv_0 ?_
          obtain ⟨b25, h⟩ := gA_e h
          refine g_iast C tb_X8_begin_0_ok (i := 26) rfl b25 ?_
          refine g_mem (fun M26 eM26 => ?_)
          have h := lt_e eM26 h
          obtain ⟨v27, ev27⟩ : ∃ w : Int32, w = v7 + (1 : Int32) := ⟨_, rfl⟩
          have h := lt_e ev27 h
          refine g_iincv C tb_X8_begin_0_ok (i := 27) (1 : Int32) ev27 rfl rfl k_iconstv_1 rfl rfl ?_
          refine g_goto C tb_X8_begin_0_ok (i := 28) 23 rfl rfl ?_
          exact g_less (L' := [some (.ref a0), some (.int v27)]) ⟨rfl, ⟨rfl, trivial⟩⟩ (ih10 v27 M26 h)
    · have h := f6 c
      refine g_aload_n C tb_X8_begin_0_ok (i := 5) rfl rfl ?_
      obtain ⟨k28, h⟩ := gK_e h
      obtain ⟨n29, h⟩ := gN_e h
      refine g_getR C tb_X8_begin_0_ok (i := 6) rfl fl_X8_9 rfl k28 n29 ?_
      refine g_iload_n C tb_X8_begin_0_ok (i := 7) rfl rfl ?_
      refine g_iconstv C tb_X8_begin_0_ok (i := 8) 0 rfl k_iconstv_0 ?_
      obtain ⟨b30, h⟩ := gA_e h
      refine g_iast C tb_X8_begin_0_ok (i := 9) rfl b30 ?_
      refine g_mem (fun M31 eM31 => ?_)
      have h := lt_e eM31 h
      obtain ⟨v32, ev32⟩ : ∃ w : Int32, w = v1 + (1 : Int32) := ⟨_, rfl⟩
      have h := lt_e ev32 h
      refine g_iincv C tb_X8_begin_0_ok (i := 10) (1 : Int32) ev32 rfl rfl k_iconstv_1 rfl rfl ?_
      refine g_goto C tb_X8_begin_0_ok (i := 11) 2 rfl rfl ?_
      exact g_less (L' := [some (.ref a0), some (.int v32)]) ⟨rfl, ⟨rfl, trivial⟩⟩ (ih4 v32 M31 h)
def f_X8_init (y : Lay) (a0 : Nat) (a1 : Nat) (M : Mem) : Option (Lay × Mem) := gd (y.2.2 + 2 ≤ 1000) (lt (psh y (1, 30)) fun (y2 : Lay) => lt (zM M (y.2.2 + 1)) fun (M3 : Mem) => gK y2 a0 (0, 8) (gN (y.2.2 + 1) (lt (wF y2 a0 1 (y.2.2 + 1)) fun (y6 : Lay) => gd (y6.2.2 + 2 ≤ 1000) (lt (psh y6 (1, 30)) fun (y8 : Lay) => lt (zM M3 (y6.2.2 + 1)) fun (M9 : Mem) => gK y8 a0 (0, 8) (gN (y6.2.2 + 1) (lt (wF y8 a0 2 (y6.2.2 + 1)) fun (y12 : Lay) => gd (y12.2.2 + 2 ≤ 1000) (lt (psh y12 (1, 30)) fun (y14 : Lay) => lt (zM M9 (y12.2.2 + 1)) fun (M15 : Mem) => gK y14 a0 (0, 8) (gN (y12.2.2 + 1) (lt (wF y14 a0 3 (y12.2.2 + 1)) fun (y18 : Lay) => gd (y18.2.2 + 2 ≤ 1000) (lt (psh y18 (1, 6)) fun (y20 : Lay) => lt (zM M15 (y18.2.2 + 1)) fun (M21 : Mem) => gK y20 a0 (0, 8) (gN (y18.2.2 + 1) (lt (wF y20 a0 4 (y18.2.2 + 1)) fun (y24 : Lay) => gd (y24.2.2 + 2 ≤ 1000) (lt (psh y24 (1, 6)) fun (y26 : Lay) => lt (zM M21 (y24.2.2 + 1)) fun (M27 : Mem) => gK y26 a0 (0, 8) (gN (y24.2.2 + 1) (lt (wF y26 a0 5 (y24.2.2 + 1)) fun (y30 : Lay) => gd (y30.2.2 + 2 ≤ 1000) (lt (psh y30 (1, 6)) fun (y32 : Lay) => lt (zM M27 (y30.2.2 + 1)) fun (M33 : Mem) => gK y32 a0 (0, 8) (gN (y30.2.2 + 1) (lt (wF y32 a0 6 (y30.2.2 + 1)) fun (y36 : Lay) => gK y36 a0 (0, 8) (gN a1 (lt (wF y36 a0 0 a1) fun (y39 : Lay) => gK y39 a0 (0, 8) (c0 (f_X8_begin y39 a0 M33) fun (r41 : Int32) (M42 : Mem) => some (y39, M42))))))))))))))))))))))
set_option maxRecDepth 20000 in
theorem w_X8_init {g : GX} {l : Launch} (hG : GF g l) (y : Lay) (a0 : Nat) (a1 : Nat) (M : Mem) : CIt g l yX8_init cX8_init 2 1 6 108 y [.ref a0, .ref a1] M (f_X8_init y a0 a1 M) := by
  refine CI_of hG (by decide) rfl [some (.ref a0), some (.ref a1)] rfl rfl (fun out h x Q C R hz => ?_)
  have hz0 := hz
  unfold f_X8_init at h
  refine g_aload_n C tb_X8_init_0_ok (i := 0) rfl rfl ?_
  refine g_objI C tb_X8_init_0_ok (i := 1) rfl oi_X8_3 obj_w rfl ?_
  refine g_aload_n C tb_X8_init_0_ok (i := 2) rfl rfl ?_
  refine g_bipushv C tb_X8_init_0_ok (i := 3) 30 rfl k_bipushv_30 ?_
  obtain ⟨g1, h⟩ := gd_e h
  refine g_newaI C tb_X8_init_0_ok (i := 4) (N := 30) hz rfl acl_int (by decide) (by decide) rfl g1 (by decide) (by decide) (fun hz => ?_)
  refine g_nm (fun y2 ey2 M3 eM3 => ?_)
  have h := lt_e ey2 h
  have h := lt_e eM3 h
  rw [← ey2] at hz
  obtain ⟨k4, h⟩ := gK_e h
  obtain ⟨n5, h⟩ := gN_e h
  refine g_putF C tb_X8_init_0_ok R (i := 5) rfl ff_X8_9 ft_8_1 (Or.inr ⟨_, rfl⟩) rfl n5 k4 ?_
  refine g_nmy (fun y6 ey6 => ?_)
  have h := lt_e ey6 h
  have hz : HZ g x 1 y6 := by rw [ey6]; exact hz
  refine g_aload_n C tb_X8_init_0_ok (i := 6) rfl rfl ?_
  refine g_bipushv C tb_X8_init_0_ok (i := 7) 30 rfl k_bipushv_30 ?_
  obtain ⟨g7, h⟩ := gd_e h
  refine g_newaI C tb_X8_init_0_ok (i := 8) (N := 30) hz rfl acl_int (by decide) (by decide) rfl g7 (by decide) (by decide) (fun hz => ?_)
  refine g_nm (fun y8 ey8 M9 eM9 => ?_)
  have h := lt_e ey8 h
  have h := lt_e eM9 h
  rw [← ey8] at hz
  obtain ⟨k10, h⟩ := gK_e h
  obtain ⟨n11, h⟩ := gN_e h
  refine g_putF C tb_X8_init_0_ok R (i := 9) rfl ff_X8_15 ft_8_2 (Or.inr ⟨_, rfl⟩) rfl n11 k10 ?_
  refine g_nmy (fun y12 ey12 => ?_)
  have h := lt_e ey12 h
  have hz : HZ g x 2 y12 := by rw [ey12]; exact hz
  refine g_aload_n C tb_X8_init_0_ok (i := 10) rfl rfl ?_
  refine g_bipushv C tb_X8_init_0_ok (i := 11) 30 rfl k_bipushv_30 ?_
  obtain ⟨g13, h⟩ := gd_e h
  refine g_newaI C tb_X8_init_0_ok (i := 12) (N := 30) hz rfl acl_int (by decide) (by decide) rfl g13 (by decide) (by decide) (fun hz => ?_)
  refine g_nm (fun y14 ey14 M15 eM15 => ?_)
  have h := lt_e ey14 h
  have h := lt_e eM15 h
  rw [← ey14] at hz
  obtain ⟨k16, h⟩ := gK_e h
  obtain ⟨n17, h⟩ := gN_e h
  refine g_putF C tb_X8_init_0_ok R (i := 13) rfl ff_X8_18 ft_8_3 (Or.inr ⟨_, rfl⟩) rfl n17 k16 ?_
  refine g_nmy (fun y18 ey18 => ?_)
  have h := lt_e ey18 h
  have hz : HZ g x 3 y18 := by rw [ey18]; exact hz
  refine g_aload_n C tb_X8_init_0_ok (i := 14) rfl rfl ?_
  refine g_bipushv C tb_X8_init_0_ok (i := 15) 6 rfl k_bipushv_6 ?_
  obtain ⟨g19, h⟩ := gd_e h
  refine g_newaI C tb_X8_init_0_ok (i := 16) (N := 6) hz rfl acl_int (by decide) (by decide) rfl g19 (by decide) (by decide) (fun hz => ?_)
  refine g_nm (fun y20 ey20 M21 eM21 => ?_)
  have h := lt_e ey20 h
  have h := lt_e eM21 h
  rw [← ey20] at hz
  obtain ⟨k22, h⟩ := gK_e h
  obtain ⟨n23, h⟩ := gN_e h
  refine g_putF C tb_X8_init_0_ok R (i := 17) rfl ff_X8_21 ft_8_4 (Or.inr ⟨_, rfl⟩) rfl n23 k22 ?_
  refine g_nmy (fun y24 ey24 => ?_)
  have h := lt_e ey24 h
  have hz : HZ g x 4 y24 := by rw [ey24]; exact hz
  refine g_aload_n C tb_X8_init_0_ok (i := 18) rfl rfl ?_
  refine g_bipushv C tb_X8_init_0_ok (i := 19) 6 rfl k_bipushv_6 ?_
  obtain ⟨g25, h⟩ := gd_e h
  refine g_newaI C tb_X8_init_0_ok (i := 20) (N := 6) hz rfl acl_int (by decide) (by decide) rfl g25 (by decide) (by decide) (fun hz => ?_)
  refine g_nm (fun y26 ey26 M27 eM27 => ?_)
  have h := lt_e ey26 h
  have h := lt_e eM27 h
  rw [← ey26] at hz
  obtain ⟨k28, h⟩ := gK_e h
  obtain ⟨n29, h⟩ := gN_e h
  refine g_putF C tb_X8_init_0_ok R (i := 21) rfl ff_X8_24 ft_8_5 (Or.inr ⟨_, rfl⟩) rfl n29 k28 ?_
  refine g_nmy (fun y30 ey30 => ?_)
  have h := lt_e ey30 h
  have hz : HZ g x 5 y30 := by rw [ey30]; exact hz
  refine g_aload_n C tb_X8_init_0_ok (i := 22) rfl rfl ?_
  refine g_bipushv C tb_X8_init_0_ok (i := 23) 6 rfl k_bipushv_6 ?_
  obtain ⟨g31, h⟩ := gd_e h
  refine g_newaI C tb_X8_init_0_ok (i := 24) (N := 6) hz rfl acl_int (by decide) (by decide) rfl g31 (by decide) (by decide) (fun hz => ?_)
  refine g_nm (fun y32 ey32 M33 eM33 => ?_)
  have h := lt_e ey32 h
  have h := lt_e eM33 h
  rw [← ey32] at hz
  obtain ⟨k34, h⟩ := gK_e h
  obtain ⟨n35, h⟩ := gN_e h
  refine g_putF C tb_X8_init_0_ok R (i := 25) rfl ff_X8_29 ft_8_6 (Or.inr ⟨_, rfl⟩) rfl n35 k34 ?_
  refine g_nmy (fun y36 ey36 => ?_)
  have h := lt_e ey36 h
  have hz : HZ g x 6 y36 := by rw [ey36]; exact hz
  refine g_aload_n C tb_X8_init_0_ok (i := 26) rfl rfl ?_
  refine g_aload_n C tb_X8_init_0_ok (i := 27) rfl rfl ?_
  obtain ⟨k37, h⟩ := gK_e h
  obtain ⟨n38, h⟩ := gN_e h
  refine g_putF C tb_X8_init_0_ok R (i := 28) rfl ff_X8_32 ft_8_0 (Or.inl ⟨_, rfl⟩) rfl n38 k37 ?_
  refine g_nmy (fun y39 ey39 => ?_)
  have h := lt_e ey39 h
  have hz : HZ g x 6 y39 := by rw [ey39]; exact hz
  refine g_aload_n C tb_X8_init_0_ok (i := 29) rfl rfl ?_
  obtain ⟨k40, h⟩ := gK_e h
  obtain ⟨r41, M42, er41, h⟩ := c0_e h
  refine g_callV0 C tb_X8_init_0_ok (i := 30) [] rfl mw_X8_begin mv_X8_begin ml_X8_36 k40 rfl rfl rfl rfl (w_X8_begin C.G y39 a0 M33) er41 rfl rfl rfl ?_
  cases h
  exact g_vretI C R hz rfl (by have h8 : x.2.2.2.2.1.heap.size + 0 = bs g + y.2.2 := hz0; have h9 : x.2.2.2.2.1.heap.size + _ = bs g + _ := hz; omega) rfl tb_X8_init_0_ok (i := 31) rfl
def f_X10_init (y : Lay) (a0 : Nat) (a1 : Nat) (M : Mem) : Option (Lay × Mem) := gK y a0 (0, 10) (gN a1 (lt (wF y a0 0 a1) fun (y3 : Lay) => some (y3, M)))
set_option maxRecDepth 20000 in
theorem w_X10_init {g : GX} {l : Launch} (hG : GF g l) (y : Lay) (a0 : Nat) (a1 : Nat) (M : Mem) : CIt g l yX10_init cX10_init 2 0 0 0 y [.ref a0, .ref a1] M (f_X10_init y a0 a1 M) := by
  refine CI_of hG (by decide) rfl [some (.ref a0), some (.ref a1)] rfl rfl (fun out h x Q C R hz => ?_)
  have hz0 := hz
  unfold f_X10_init at h
  refine g_aload_n C tb_X10_init_0_ok (i := 0) rfl rfl ?_
  refine g_objI C tb_X10_init_0_ok (i := 1) rfl oi_X10_3 obj_w rfl ?_
  refine g_aload_n C tb_X10_init_0_ok (i := 2) rfl rfl ?_
  refine g_aload_n C tb_X10_init_0_ok (i := 3) rfl rfl ?_
  obtain ⟨k1, h⟩ := gK_e h
  obtain ⟨n2, h⟩ := gN_e h
  refine g_putF C tb_X10_init_0_ok R (i := 4) rfl ff_X10_9 ft_10_0 (Or.inl ⟨_, rfl⟩) rfl n2 k1 ?_
  refine g_nmy (fun y3 ey3 => ?_)
  have h := lt_e ey3 h
  have hz : HZ g x 0 y3 := by rw [ey3]; exact hz
  cases h
  exact g_vretI C R hz rfl (by have h8 : x.2.2.2.2.1.heap.size + 0 = bs g + y.2.2 := hz0; have h9 : x.2.2.2.2.1.heap.size + _ = bs g + _ := hz; omega) rfl tb_X10_init_0_ok (i := 5) rfl
def f_X6_init (y : Lay) (a0 : Nat) (a1 : Nat) (a2 : Nat) (M : Mem) : Option (Lay × Mem) := gK y a0 (0, 6) (gN a1 (lt (wF y a0 0 a1) fun (y3 : Lay) => gK y3 a0 (0, 6) (gN a2 (lt (wR M a0 1 a2) fun (M6 : Mem) => some (y3, M6)))))
set_option maxRecDepth 20000 in
theorem w_X6_init {g : GX} {l : Launch} (hG : GF g l) (y : Lay) (a0 : Nat) (a1 : Nat) (a2 : Nat) (M : Mem) : CIt g l yX6_init cX6_init 3 0 0 0 y [.ref a0, .ref a1, .ref a2] M (f_X6_init y a0 a1 a2 M) := by
  refine CI_of hG (by decide) rfl [some (.ref a0), some (.ref a1), some (.ref a2)] rfl rfl (fun out h x Q C R hz => ?_)
  have hz0 := hz
  unfold f_X6_init at h
  refine g_aload_n C tb_X6_init_0_ok (i := 0) rfl rfl ?_
  refine g_objI C tb_X6_init_0_ok (i := 1) rfl oi_X6_3 obj_w rfl ?_
  refine g_aload_n C tb_X6_init_0_ok (i := 2) rfl rfl ?_
  refine g_aload_n C tb_X6_init_0_ok (i := 3) rfl rfl ?_
  obtain ⟨k1, h⟩ := gK_e h
  obtain ⟨n2, h⟩ := gN_e h
  refine g_putF C tb_X6_init_0_ok R (i := 4) rfl ff_X6_9 ft_6_0 (Or.inl ⟨_, rfl⟩) rfl n2 k1 ?_
  refine g_nmy (fun y3 ey3 => ?_)
  have h := lt_e ey3 h
  have hz : HZ g x 0 y3 := by rw [ey3]; exact hz
  refine g_aload_n C tb_X6_init_0_ok (i := 5) rfl rfl ?_
  refine g_aload_n C tb_X6_init_0_ok (i := 6) rfl rfl ?_
  obtain ⟨k4, h⟩ := gK_e h
  obtain ⟨n5, h⟩ := gN_e h
  refine g_putM C tb_X6_init_0_ok (i := 7) rfl fl_X6_15 ft_6_1 (Or.inl ⟨_, rfl⟩) rfl n5 k4 ?_
  refine g_mem (fun M6 eM6 => ?_)
  have h := lt_e eM6 h
  cases h
  exact g_vretI C R hz rfl (by have h8 : x.2.2.2.2.1.heap.size + 0 = bs g + y.2.2 := hz0; have h9 : x.2.2.2.2.1.heap.size + _ = bs g + _ := hz; omega) rfl tb_X6_init_0_ok (i := 8) rfl
def f_X2_init (y : Lay) (a0 : Nat) (a1 : Nat) (M : Mem) : Option (Lay × Mem) := gd (y.2.2 + 2 ≤ 1000) (lt (psh y (0, 1)) fun (y2 : Lay) => lt (zM M (y.2.2 + 1)) fun (M3 : Mem) => ci (f_X1_init y2 (y.2.2 + 1) M3) fun (y4 : Lay) (M5 : Mem) => gK y4 a0 (0, 2) (gN (y.2.2 + 1) (lt (wF y4 a0 2 (y.2.2 + 1)) fun (y8 : Lay) => gd (y8.2.2 + 2 ≤ 1000) (lt (psh y8 (0, 8)) fun (y10 : Lay) => lt (zM M5 (y8.2.2 + 1)) fun (M11 : Mem) => gK y10 a0 (0, 2) (gN (y10.2.1 a0 2) (ci (f_X8_init y10 (y8.2.2 + 1) (y10.2.1 a0 2) M11) fun (y14 : Lay) (M15 : Mem) => gK y14 a0 (0, 2) (gN (y8.2.2 + 1) (lt (wF y14 a0 3 (y8.2.2 + 1)) fun (y18 : Lay) => gd (y18.2.2 + 2 ≤ 1000) (lt (psh y18 (0, 10)) fun (y20 : Lay) => lt (zM M15 (y18.2.2 + 1)) fun (M21 : Mem) => ci (f_X10_init y20 (y18.2.2 + 1) a1 M21) fun (y22 : Lay) (M23 : Mem) => gK y22 a0 (0, 2) (gN (y18.2.2 + 1) (lt (wF y22 a0 0 (y18.2.2 + 1)) fun (y26 : Lay) => gd (y26.2.2 + 2 ≤ 1000) (lt (psh y26 (0, 6)) fun (y28 : Lay) => lt (zM M23 (y26.2.2 + 1)) fun (M29 : Mem) => gK y28 a0 (0, 2) (gN (y28.2.1 a0 0) (gN (y28.2.1 a0 2) (gK y28 (y28.2.1 a0 2) (0, 1) (gN (y28.2.1 (y28.2.1 a0 2) 7) (ci (f_X6_init y28 (y26.2.2 + 1) (y28.2.1 a0 0) (y28.2.1 (y28.2.1 a0 2) 7) M29) fun (y35 : Lay) (M36 : Mem) => gK y35 a0 (0, 2) (gN (y26.2.2 + 1) (lt (wF y35 a0 1 (y26.2.2 + 1)) fun (y39 : Lay) => some (y39, M36))))))))))))))))))))
set_option maxRecDepth 20000 in
theorem w_X2_init {g : GX} {l : Launch} (hG : GF g l) (y : Lay) (a0 : Nat) (a1 : Nat) (M : Mem) : CIt g l yX2_init cX2_init 2 5 17 1657 y [.ref a0, .ref a1] M (f_X2_init y a0 a1 M) := by
  refine CI_of hG (by decide) rfl [some (.ref a0), some (.ref a1)] rfl rfl (fun out h x Q C R hz => ?_)
  have hz0 := hz
  unfold f_X2_init at h
  refine g_aload_n C tb_X2_init_0_ok (i := 0) rfl rfl ?_
  refine g_objI C tb_X2_init_0_ok (i := 1) rfl oi_X2_3 obj_w rfl ?_
  refine g_aload_n C tb_X2_init_0_ok (i := 2) rfl rfl ?_
  obtain ⟨g1, h⟩ := gd_e h
  refine g_new C tb_X2_init_0_ok (i := 3) hz rfl cls_1 cnw_1 ck_X2_9 ins_1 ini_1 (Or.inr g1) (by decide) (by decide) (fun hz => ?_)
  refine g_nm (fun y2 ey2 M3 eM3 => ?_)
  have h := lt_e ey2 h
  have h := lt_e eM3 h
  rw [← ey2] at hz
  refine g_dup C tb_X2_init_0_ok (i := 4) rfl rfl ?_
  obtain ⟨y4, M5, ey4, h⟩ := ci_e h
  refine g_callI C tb_X2_init_0_ok (i := 5) [] hz rfl mw_X1_init mi_X1_init mli_X2_11 rfl rfl rfl rfl (w_X1_init C.G y2 (y.2.2 + 1) M3) ey4 (by decide) (by decide) rfl (fun hz => ?_)
  obtain ⟨k6, h⟩ := gK_e h
  obtain ⟨n7, h⟩ := gN_e h
  refine g_putF C tb_X2_init_0_ok R (i := 6) rfl ff_X2_12 ft_2_2 (Or.inl ⟨_, rfl⟩) rfl n7 k6 ?_
  refine g_nmy (fun y8 ey8 => ?_)
  have h := lt_e ey8 h
  have hz : HZ g x 8 y8 := by rw [ey8]; exact hz
  refine g_aload_n C tb_X2_init_0_ok (i := 7) rfl rfl ?_
  obtain ⟨g9, h⟩ := gd_e h
  refine g_new C tb_X2_init_0_ok (i := 8) hz rfl cls_8 cnw_8 ck_X2_18 ins_8 ini_8 (Or.inr g9) (by decide) (by decide) (fun hz => ?_)
  refine g_nm (fun y10 ey10 M11 eM11 => ?_)
  have h := lt_e ey10 h
  have h := lt_e eM11 h
  rw [← ey10] at hz
  refine g_dup C tb_X2_init_0_ok (i := 9) rfl rfl ?_
  refine g_aload_n C tb_X2_init_0_ok (i := 10) rfl rfl ?_
  obtain ⟨k12, h⟩ := gK_e h
  obtain ⟨n13, h⟩ := gN_e h
  refine g_getR C tb_X2_init_0_ok (i := 11) rfl fl_X2_12 rfl k12 n13 ?_
  obtain ⟨y14, M15, ey14, h⟩ := ci_e h
  refine g_callI C tb_X2_init_0_ok (i := 12) [.ref (y10.2.1 a0 2)] hz rfl mw_X8_init mi_X8_init mli_X2_20 rfl rfl rfl rfl (w_X8_init C.G y10 (y8.2.2 + 1) (y10.2.1 a0 2) M11) ey14 (by decide) (by decide) rfl (fun hz => ?_)
  obtain ⟨k16, h⟩ := gK_e h
  obtain ⟨n17, h⟩ := gN_e h
  refine g_putF C tb_X2_init_0_ok R (i := 13) rfl ff_X2_23 ft_2_3 (Or.inl ⟨_, rfl⟩) rfl n17 k16 ?_
  refine g_nmy (fun y18 ey18 => ?_)
  have h := lt_e ey18 h
  have hz : HZ g x 15 y18 := by rw [ey18]; exact hz
  refine g_aload_n C tb_X2_init_0_ok (i := 14) rfl rfl ?_
  obtain ⟨g19, h⟩ := gd_e h
  refine g_new C tb_X2_init_0_ok (i := 15) hz rfl cls_10 cnw_10 ck_X2_27 ins_10 ini_10 (Or.inr g19) (by decide) (by decide) (fun hz => ?_)
  refine g_nm (fun y20 ey20 M21 eM21 => ?_)
  have h := lt_e ey20 h
  have h := lt_e eM21 h
  rw [← ey20] at hz
  refine g_dup C tb_X2_init_0_ok (i := 16) rfl rfl ?_
  refine g_aload_n C tb_X2_init_0_ok (i := 17) rfl rfl ?_
  obtain ⟨y22, M23, ey22, h⟩ := ci_e h
  refine g_callI C tb_X2_init_0_ok (i := 18) [.ref a1] hz rfl mw_X10_init mi_X10_init mli_X2_29 rfl rfl rfl rfl (w_X10_init C.G y20 (y18.2.2 + 1) a1 M21) ey22 (by decide) (by decide) rfl (fun hz => ?_)
  obtain ⟨k24, h⟩ := gK_e h
  obtain ⟨n25, h⟩ := gN_e h
  refine g_putF C tb_X2_init_0_ok R (i := 19) rfl ff_X2_32 ft_2_0 (Or.inl ⟨_, rfl⟩) rfl n25 k24 ?_
  refine g_nmy (fun y26 ey26 => ?_)
  have h := lt_e ey26 h
  have hz : HZ g x 16 y26 := by rw [ey26]; exact hz
  refine g_aload_n C tb_X2_init_0_ok (i := 20) rfl rfl ?_
  obtain ⟨g27, h⟩ := gd_e h
  refine g_new C tb_X2_init_0_ok (i := 21) hz rfl cls_6 cnw_6 ck_X2_36 ins_6 ini_6 (Or.inr g27) (by decide) (by decide) (fun hz => ?_)
  refine g_nm (fun y28 ey28 M29 eM29 => ?_)
  have h := lt_e ey28 h
  have h := lt_e eM29 h
  rw [← ey28] at hz
  refine g_dup C tb_X2_init_0_ok (i := 22) rfl rfl ?_
  refine g_aload_n C tb_X2_init_0_ok (i := 23) rfl rfl ?_
  obtain ⟨k30, h⟩ := gK_e h
  obtain ⟨n31, h⟩ := gN_e h
  refine g_getR C tb_X2_init_0_ok (i := 24) rfl fl_X2_32 rfl k30 n31 ?_
  refine g_aload_n C tb_X2_init_0_ok (i := 25) rfl rfl ?_
  obtain ⟨n32, h⟩ := gN_e h
  refine g_getR C tb_X2_init_0_ok (i := 26) rfl fl_X2_12 rfl k30 n32 ?_
  obtain ⟨k33, h⟩ := gK_e h
  obtain ⟨n34, h⟩ := gN_e h
  refine g_getR C tb_X2_init_0_ok (i := 27) rfl fl_X2_38 rfl k33 n34 ?_
  obtain ⟨y35, M36, ey35, h⟩ := ci_e h
  refine g_callI C tb_X2_init_0_ok (i := 28) [.ref (y28.2.1 a0 0), .ref (y28.2.1 (y28.2.1 a0 2) 7)] hz rfl mw_X6_init mi_X6_init mli_X2_42 rfl rfl rfl rfl (w_X6_init C.G y28 (y26.2.2 + 1) (y28.2.1 a0 0) (y28.2.1 (y28.2.1 a0 2) 7) M29) ey35 (by decide) (by decide) rfl (fun hz => ?_)
  obtain ⟨k37, h⟩ := gK_e h
  obtain ⟨n38, h⟩ := gN_e h
  refine g_putF C tb_X2_init_0_ok R (i := 29) rfl ff_X2_45 ft_2_1 (Or.inl ⟨_, rfl⟩) rfl n38 k37 ?_
  refine g_nmy (fun y39 ey39 => ?_)
  have h := lt_e ey39 h
  have hz : HZ g x 17 y39 := by rw [ey39]; exact hz
  cases h
  exact g_vretI C R hz rfl (by have h8 : x.2.2.2.2.1.heap.size + 0 = bs g + y.2.2 := hz0; have h9 : x.2.2.2.2.1.heap.size + _ = bs g + _ := hz; omega) rfl tb_X2_init_0_ok (i := 30) rfl
def f_X0_init (y : Lay) (a0 : Nat) (M : Mem) : Option (Lay × Mem) := gd (y.2.2 + 2 ≤ 1000) (lt (psh y (1, 1640)) fun (y2 : Lay) => lt (zM M (y.2.2 + 1)) fun (M3 : Mem) => gK y2 a0 (0, 0) (gN (y.2.2 + 1) (lt (wF y2 a0 0 (y.2.2 + 1)) fun (y6 : Lay) => some (y6, M3))))
set_option maxRecDepth 20000 in
theorem w_X0_init {g : GX} {l : Launch} (hG : GF g l) (y : Lay) (a0 : Nat) (M : Mem) : CIt g l yX0_init cX0_init 1 0 1 1640 y [.ref a0] M (f_X0_init y a0 M) := by
  refine CI_of hG (by decide) rfl [some (.ref a0)] rfl rfl (fun out h x Q C R hz => ?_)
  have hz0 := hz
  unfold f_X0_init at h
  refine g_aload_n C tb_X0_init_0_ok (i := 0) rfl rfl ?_
  refine g_objI C tb_X0_init_0_ok (i := 1) rfl oi_X0_3 obj_w rfl ?_
  refine g_aload_n C tb_X0_init_0_ok (i := 2) rfl rfl ?_
  refine g_sipushv C tb_X0_init_0_ok (i := 3) 1640 rfl k_sipushv_1640 ?_
  obtain ⟨g1, h⟩ := gd_e h
  refine g_newaI C tb_X0_init_0_ok (i := 4) (N := 1640) hz rfl acl_int (by decide) (by decide) rfl g1 (by decide) (by decide) (fun hz => ?_)
  refine g_nm (fun y2 ey2 M3 eM3 => ?_)
  have h := lt_e ey2 h
  have h := lt_e eM3 h
  rw [← ey2] at hz
  obtain ⟨k4, h⟩ := gK_e h
  obtain ⟨n5, h⟩ := gN_e h
  refine g_putF C tb_X0_init_0_ok R (i := 5) rfl ff_X0_11 ft_0_0 (Or.inr ⟨_, rfl⟩) rfl n5 k4 ?_
  refine g_nmy (fun y6 ey6 => ?_)
  have h := lt_e ey6 h
  have hz : HZ g x 1 y6 := by rw [ey6]; exact hz
  cases h
  exact g_vretI C R hz rfl (by have h8 : x.2.2.2.2.1.heap.size + 0 = bs g + y.2.2 := hz0; have h9 : x.2.2.2.2.1.heap.size + _ = bs g + _ := hz; omega) rfl tb_X0_init_0_ok (i := 6) rfl
def f_X4_init (y : Lay) (a0 : Nat) (a1 : Nat) (M : Mem) : Option (Lay × Mem) := gd (y.2.2 + 2 ≤ 1000) (lt (psh y (0, 0)) fun (y2 : Lay) => lt (zM M (y.2.2 + 1)) fun (M3 : Mem) => ci (f_X0_init y2 (y.2.2 + 1) M3) fun (y4 : Lay) (M5 : Mem) => gK y4 a0 (0, 4) (gN (y.2.2 + 1) (lt (wF y4 a0 1 (y.2.2 + 1)) fun (y8 : Lay) => gd (y8.2.2 + 2 ≤ 1000) (lt (psh y8 (1, 8)) fun (y10 : Lay) => lt (zM M5 (y8.2.2 + 1)) fun (M11 : Mem) => gK y10 a0 (0, 4) (gN (y8.2.2 + 1) (lt (wF y10 a0 2 (y8.2.2 + 1)) fun (y14 : Lay) => gd (y14.2.2 + 2 ≤ 1000) (lt (psh y14 (1, 8)) fun (y16 : Lay) => lt (zM M11 (y14.2.2 + 1)) fun (M17 : Mem) => gK y16 a0 (0, 4) (gN (y14.2.2 + 1) (lt (wF y16 a0 3 (y14.2.2 + 1)) fun (y20 : Lay) => gd (y20.2.2 + 2 ≤ 1000) (lt (psh y20 (1, 8)) fun (y22 : Lay) => lt (zM M17 (y20.2.2 + 1)) fun (M23 : Mem) => gK y22 a0 (0, 4) (gN (y20.2.2 + 1) (lt (wF y22 a0 4 (y20.2.2 + 1)) fun (y26 : Lay) => gd (y26.2.2 + 2 ≤ 1000) (lt (psh y26 (1, 3)) fun (y28 : Lay) => lt (zM M23 (y26.2.2 + 1)) fun (M29 : Mem) => gK y28 a0 (0, 4) (gN (y26.2.2 + 1) (lt (wF y28 a0 5 (y26.2.2 + 1)) fun (y32 : Lay) => gd (y32.2.2 + 2 ≤ 1000) (lt (psh y32 (0, 8)) fun (y34 : Lay) => lt (zM M29 (y32.2.2 + 1)) fun (M35 : Mem) => ci (f_X8_init y34 (y32.2.2 + 1) a1 M35) fun (y36 : Lay) (M37 : Mem) => gK y36 a0 (0, 4) (gN (y32.2.2 + 1) (lt (wF y36 a0 0 (y32.2.2 + 1)) fun (y40 : Lay) => some (y40, M37)))))))))))))))))))
set_option maxRecDepth 20000 in
theorem w_X4_init {g : GX} {l : Launch} (hG : GF g l) (y : Lay) (a0 : Nat) (a1 : Nat) (M : Mem) : CIt g l yX4_init cX4_init 2 2 13 1790 y [.ref a0, .ref a1] M (f_X4_init y a0 a1 M) := by
  refine CI_of hG (by decide) rfl [some (.ref a0), some (.ref a1)] rfl rfl (fun out h x Q C R hz => ?_)
  have hz0 := hz
  unfold f_X4_init at h
  refine g_aload_n C tb_X4_init_0_ok (i := 0) rfl rfl ?_
  refine g_objI C tb_X4_init_0_ok (i := 1) rfl oi_X4_3 obj_w rfl ?_
  refine g_aload_n C tb_X4_init_0_ok (i := 2) rfl rfl ?_
  obtain ⟨g1, h⟩ := gd_e h
  refine g_new C tb_X4_init_0_ok (i := 3) hz rfl cls_0 cnw_0 ck_X4_9 ins_0 ini_0 (Or.inr g1) (by decide) (by decide) (fun hz => ?_)
  refine g_nm (fun y2 ey2 M3 eM3 => ?_)
  have h := lt_e ey2 h
  have h := lt_e eM3 h
  rw [← ey2] at hz
  refine g_dup C tb_X4_init_0_ok (i := 4) rfl rfl ?_
  obtain ⟨y4, M5, ey4, h⟩ := ci_e h
  refine g_callI C tb_X4_init_0_ok (i := 5) [] hz rfl mw_X0_init mi_X0_init mli_X4_11 rfl rfl rfl rfl (w_X0_init C.G y2 (y.2.2 + 1) M3) ey4 (by decide) (by decide) rfl (fun hz => ?_)
  obtain ⟨k6, h⟩ := gK_e h
  obtain ⟨n7, h⟩ := gN_e h
  refine g_putF C tb_X4_init_0_ok R (i := 6) rfl ff_X4_12 ft_4_1 (Or.inl ⟨_, rfl⟩) rfl n7 k6 ?_
  refine g_nmy (fun y8 ey8 => ?_)
  have h := lt_e ey8 h
  have hz : HZ g x 2 y8 := by rw [ey8]; exact hz
  refine g_aload_n C tb_X4_init_0_ok (i := 7) rfl rfl ?_
  refine g_bipushv C tb_X4_init_0_ok (i := 8) 8 rfl k_bipushv_8 ?_
  obtain ⟨g9, h⟩ := gd_e h
  refine g_newaI C tb_X4_init_0_ok (i := 9) (N := 8) hz rfl acl_int (by decide) (by decide) rfl g9 (by decide) (by decide) (fun hz => ?_)
  refine g_nm (fun y10 ey10 M11 eM11 => ?_)
  have h := lt_e ey10 h
  have h := lt_e eM11 h
  rw [← ey10] at hz
  obtain ⟨k12, h⟩ := gK_e h
  obtain ⟨n13, h⟩ := gN_e h
  refine g_putF C tb_X4_init_0_ok R (i := 10) rfl ff_X4_18 ft_4_2 (Or.inr ⟨_, rfl⟩) rfl n13 k12 ?_
  refine g_nmy (fun y14 ey14 => ?_)
  have h := lt_e ey14 h
  have hz : HZ g x 3 y14 := by rw [ey14]; exact hz
  refine g_aload_n C tb_X4_init_0_ok (i := 11) rfl rfl ?_
  refine g_bipushv C tb_X4_init_0_ok (i := 12) 8 rfl k_bipushv_8 ?_
  obtain ⟨g15, h⟩ := gd_e h
  refine g_newaI C tb_X4_init_0_ok (i := 13) (N := 8) hz rfl acl_int (by decide) (by decide) rfl g15 (by decide) (by decide) (fun hz => ?_)
  refine g_nm (fun y16 ey16 M17 eM17 => ?_)
  have h := lt_e ey16 h
  have h := lt_e eM17 h
  rw [← ey16] at hz
  obtain ⟨k18, h⟩ := gK_e h
  obtain ⟨n19, h⟩ := gN_e h
  refine g_putF C tb_X4_init_0_ok R (i := 14) rfl ff_X4_22 ft_4_3 (Or.inr ⟨_, rfl⟩) rfl n19 k18 ?_
  refine g_nmy (fun y20 ey20 => ?_)
  have h := lt_e ey20 h
  have hz : HZ g x 4 y20 := by rw [ey20]; exact hz
  refine g_aload_n C tb_X4_init_0_ok (i := 15) rfl rfl ?_
  refine g_bipushv C tb_X4_init_0_ok (i := 16) 8 rfl k_bipushv_8 ?_
  obtain ⟨g21, h⟩ := gd_e h
  refine g_newaI C tb_X4_init_0_ok (i := 17) (N := 8) hz rfl acl_int (by decide) (by decide) rfl g21 (by decide) (by decide) (fun hz => ?_)
  refine g_nm (fun y22 ey22 M23 eM23 => ?_)
  have h := lt_e ey22 h
  have h := lt_e eM23 h
  rw [← ey22] at hz
  obtain ⟨k24, h⟩ := gK_e h
  obtain ⟨n25, h⟩ := gN_e h
  refine g_putF C tb_X4_init_0_ok R (i := 18) rfl ff_X4_25 ft_4_4 (Or.inr ⟨_, rfl⟩) rfl n25 k24 ?_
  refine g_nmy (fun y26 ey26 => ?_)
  have h := lt_e ey26 h
  have hz : HZ g x 5 y26 := by rw [ey26]; exact hz
  refine g_aload_n C tb_X4_init_0_ok (i := 19) rfl rfl ?_
  refine g_iconstv C tb_X4_init_0_ok (i := 20) 3 rfl k_iconstv_3 ?_
  obtain ⟨g27, h⟩ := gd_e h
  refine g_newaI C tb_X4_init_0_ok (i := 21) (N := 3) hz rfl acl_int (by decide) (by decide) rfl g27 (by decide) (by decide) (fun hz => ?_)
  refine g_nm (fun y28 ey28 M29 eM29 => ?_)
  have h := lt_e ey28 h
  have h := lt_e eM29 h
  rw [← ey28] at hz
  obtain ⟨k30, h⟩ := gK_e h
  obtain ⟨n31, h⟩ := gN_e h
  refine g_putF C tb_X4_init_0_ok R (i := 22) rfl ff_X4_28 ft_4_5 (Or.inr ⟨_, rfl⟩) rfl n31 k30 ?_
  refine g_nmy (fun y32 ey32 => ?_)
  have h := lt_e ey32 h
  have hz : HZ g x 6 y32 := by rw [ey32]; exact hz
  refine g_aload_n C tb_X4_init_0_ok (i := 23) rfl rfl ?_
  obtain ⟨g33, h⟩ := gd_e h
  refine g_new C tb_X4_init_0_ok (i := 24) hz rfl cls_8 cnw_8 ck_X4_31 ins_8 ini_8 (Or.inr g33) (by decide) (by decide) (fun hz => ?_)
  refine g_nm (fun y34 ey34 M35 eM35 => ?_)
  have h := lt_e ey34 h
  have h := lt_e eM35 h
  rw [← ey34] at hz
  refine g_dup C tb_X4_init_0_ok (i := 25) rfl rfl ?_
  refine g_aload_n C tb_X4_init_0_ok (i := 26) rfl rfl ?_
  obtain ⟨y36, M37, ey36, h⟩ := ci_e h
  refine g_callI C tb_X4_init_0_ok (i := 27) [.ref a1] hz rfl mw_X8_init mi_X8_init mli_X4_33 rfl rfl rfl rfl (w_X8_init C.G y34 (y32.2.2 + 1) a1 M35) ey36 (by decide) (by decide) rfl (fun hz => ?_)
  obtain ⟨k38, h⟩ := gK_e h
  obtain ⟨n39, h⟩ := gN_e h
  refine g_putF C tb_X4_init_0_ok R (i := 28) rfl ff_X4_36 ft_4_0 (Or.inl ⟨_, rfl⟩) rfl n39 k38 ?_
  refine g_nmy (fun y40 ey40 => ?_)
  have h := lt_e ey40 h
  have hz : HZ g x 13 y40 := by rw [ey40]; exact hz
  cases h
  exact g_vretI C R hz rfl (by have h8 : x.2.2.2.2.1.heap.size + 0 = bs g + y.2.2 := hz0; have h9 : x.2.2.2.2.1.heap.size + _ = bs g + _ := hz; omega) rfl tb_X4_init_0_ok (i := 29) rfl
def f_X7_init (y : Lay) (a0 : Nat) (a1 : Nat) (M : Mem) : Option (Lay × Mem) := gd (y.2.2 + 2 ≤ 1000) (lt (psh y (1, 6)) fun (y2 : Lay) => lt (zM M (y.2.2 + 1)) fun (M3 : Mem) => gK y2 a0 (0, 7) (gN (y.2.2 + 1) (lt (wF y2 a0 0 (y.2.2 + 1)) fun (y6 : Lay) => gd (y6.2.2 + 2 ≤ 1000) (lt (psh y6 (1, 6)) fun (y8 : Lay) => lt (zM M3 (y6.2.2 + 1)) fun (M9 : Mem) => gK y8 a0 (0, 7) (gN (y6.2.2 + 1) (lt (wF y8 a0 1 (y6.2.2 + 1)) fun (y12 : Lay) => gd (y12.2.2 + 2 ≤ 1000) (lt (psh y12 (1, 6)) fun (y14 : Lay) => lt (zM M9 (y12.2.2 + 1)) fun (M15 : Mem) => gK y14 a0 (0, 7) (gN (y12.2.2 + 1) (lt (wF y14 a0 2 (y12.2.2 + 1)) fun (y18 : Lay) => gK y18 a0 (0, 7) (gN a1 (lt (wF y18 a0 3 a1) fun (y21 : Lay) => some (y21, M15))))))))))))
set_option maxRecDepth 20000 in
theorem w_X7_init {g : GX} {l : Launch} (hG : GF g l) (y : Lay) (a0 : Nat) (a1 : Nat) (M : Mem) : CIt g l yX7_init cX7_init 2 0 3 18 y [.ref a0, .ref a1] M (f_X7_init y a0 a1 M) := by
  refine CI_of hG (by decide) rfl [some (.ref a0), some (.ref a1)] rfl rfl (fun out h x Q C R hz => ?_)
  have hz0 := hz
  unfold f_X7_init at h
  refine g_aload_n C tb_X7_init_0_ok (i := 0) rfl rfl ?_
  refine g_objI C tb_X7_init_0_ok (i := 1) rfl oi_X7_3 obj_w rfl ?_
  refine g_aload_n C tb_X7_init_0_ok (i := 2) rfl rfl ?_
  refine g_bipushv C tb_X7_init_0_ok (i := 3) 6 rfl k_bipushv_6 ?_
  obtain ⟨g1, h⟩ := gd_e h
  refine g_newaI C tb_X7_init_0_ok (i := 4) (N := 6) hz rfl acl_int (by decide) (by decide) rfl g1 (by decide) (by decide) (fun hz => ?_)
  refine g_nm (fun y2 ey2 M3 eM3 => ?_)
  have h := lt_e ey2 h
  have h := lt_e eM3 h
  rw [← ey2] at hz
  obtain ⟨k4, h⟩ := gK_e h
  obtain ⟨n5, h⟩ := gN_e h
  refine g_putF C tb_X7_init_0_ok R (i := 5) rfl ff_X7_9 ft_7_0 (Or.inr ⟨_, rfl⟩) rfl n5 k4 ?_
  refine g_nmy (fun y6 ey6 => ?_)
  have h := lt_e ey6 h
  have hz : HZ g x 1 y6 := by rw [ey6]; exact hz
  refine g_aload_n C tb_X7_init_0_ok (i := 6) rfl rfl ?_
  refine g_bipushv C tb_X7_init_0_ok (i := 7) 6 rfl k_bipushv_6 ?_
  obtain ⟨g7, h⟩ := gd_e h
  refine g_newaI C tb_X7_init_0_ok (i := 8) (N := 6) hz rfl acl_int (by decide) (by decide) rfl g7 (by decide) (by decide) (fun hz => ?_)
  refine g_nm (fun y8 ey8 M9 eM9 => ?_)
  have h := lt_e ey8 h
  have h := lt_e eM9 h
  rw [← ey8] at hz
  obtain ⟨k10, h⟩ := gK_e h
  obtain ⟨n11, h⟩ := gN_e h
  refine g_putF C tb_X7_init_0_ok R (i := 9) rfl ff_X7_15 ft_7_1 (Or.inr ⟨_, rfl⟩) rfl n11 k10 ?_
  refine g_nmy (fun y12 ey12 => ?_)
  have h := lt_e ey12 h
  have hz : HZ g x 2 y12 := by rw [ey12]; exact hz
  refine g_aload_n C tb_X7_init_0_ok (i := 10) rfl rfl ?_
  refine g_bipushv C tb_X7_init_0_ok (i := 11) 6 rfl k_bipushv_6 ?_
  obtain ⟨g13, h⟩ := gd_e h
  refine g_newaI C tb_X7_init_0_ok (i := 12) (N := 6) hz rfl acl_int (by decide) (by decide) rfl g13 (by decide) (by decide) (fun hz => ?_)
  refine g_nm (fun y14 ey14 M15 eM15 => ?_)
  have h := lt_e ey14 h
  have h := lt_e eM15 h
  rw [← ey14] at hz
  obtain ⟨k16, h⟩ := gK_e h
  obtain ⟨n17, h⟩ := gN_e h
  refine g_putF C tb_X7_init_0_ok R (i := 13) rfl ff_X7_18 ft_7_2 (Or.inr ⟨_, rfl⟩) rfl n17 k16 ?_
  refine g_nmy (fun y18 ey18 => ?_)
  have h := lt_e ey18 h
  have hz : HZ g x 3 y18 := by rw [ey18]; exact hz
  refine g_aload_n C tb_X7_init_0_ok (i := 14) rfl rfl ?_
  refine g_aload_n C tb_X7_init_0_ok (i := 15) rfl rfl ?_
  obtain ⟨k19, h⟩ := gK_e h
  obtain ⟨n20, h⟩ := gN_e h
  refine g_putF C tb_X7_init_0_ok R (i := 16) rfl ff_X7_21 ft_7_3 (Or.inl ⟨_, rfl⟩) rfl n20 k19 ?_
  refine g_nmy (fun y21 ey21 => ?_)
  have h := lt_e ey21 h
  have hz : HZ g x 3 y21 := by rw [ey21]; exact hz
  cases h
  exact g_vretI C R hz rfl (by have h8 : x.2.2.2.2.1.heap.size + 0 = bs g + y.2.2 := hz0; have h9 : x.2.2.2.2.1.heap.size + _ = bs g + _ := hz; omega) rfl tb_X7_init_0_ok (i := 17) rfl
def f_X3_init (y : Lay) (a0 : Nat) (M : Mem) : Option (Lay × Mem) := some (y, M)
set_option maxRecDepth 20000 in
theorem w_X3_init {g : GX} {l : Launch} (hG : GF g l) (y : Lay) (a0 : Nat) (M : Mem) : CIt g l yX3_init cX3_init 1 0 0 0 y [.ref a0] M (f_X3_init y a0 M) := by
  refine CI_of hG (by decide) rfl [some (.ref a0)] rfl rfl (fun out h x Q C R hz => ?_)
  have hz0 := hz
  unfold f_X3_init at h
  refine g_aload_n C tb_X3_init_0_ok (i := 0) rfl rfl ?_
  refine g_objI C tb_X3_init_0_ok (i := 1) rfl oi_X3_1 obj_w rfl ?_
  cases h
  exact g_vretI C R hz rfl (by have h8 : x.2.2.2.2.1.heap.size + 0 = bs g + y.2.2 := hz0; have h9 : x.2.2.2.2.1.heap.size + _ = bs g + _ := hz; omega) rfl tb_X3_init_0_ok (i := 2) rfl
def f_X11_init (y : Lay) (a0 : Nat) (M : Mem) : Option (Lay × Mem) := gd (y.2.2 + 2 ≤ 1000) (lt (psh y (0, 9)) fun (y2 : Lay) => lt (zM M (y.2.2 + 1)) fun (M3 : Mem) => ci (f_X9_init y2 (y.2.2 + 1) M3) fun (y4 : Lay) (M5 : Mem) => gK y4 a0 (0, 11) (gN (y.2.2 + 1) (lt (wF y4 a0 0 (y.2.2 + 1)) fun (y8 : Lay) => gd (y8.2.2 + 2 ≤ 1000) (lt (psh y8 (0, 1)) fun (y10 : Lay) => lt (zM M5 (y8.2.2 + 1)) fun (M11 : Mem) => ci (f_X1_init y10 (y8.2.2 + 1) M11) fun (y12 : Lay) (M13 : Mem) => gK y12 a0 (0, 11) (gN (y8.2.2 + 1) (lt (wF y12 a0 1 (y8.2.2 + 1)) fun (y16 : Lay) => gd (y16.2.2 + 2 ≤ 1000) (lt (psh y16 (0, 2)) fun (y18 : Lay) => lt (zM M13 (y16.2.2 + 1)) fun (M19 : Mem) => gK y18 a0 (0, 11) (gN (y18.2.1 a0 0) (ci (f_X2_init y18 (y16.2.2 + 1) (y18.2.1 a0 0) M19) fun (y22 : Lay) (M23 : Mem) => gK y22 a0 (0, 11) (gN (y16.2.2 + 1) (lt (wF y22 a0 2 (y16.2.2 + 1)) fun (y26 : Lay) => gd (y26.2.2 + 2 ≤ 1000) (lt (psh y26 (0, 4)) fun (y28 : Lay) => lt (zM M23 (y26.2.2 + 1)) fun (M29 : Mem) => gK y28 a0 (0, 11) (gN (y28.2.1 a0 1) (ci (f_X4_init y28 (y26.2.2 + 1) (y28.2.1 a0 1) M29) fun (y32 : Lay) (M33 : Mem) => gK y32 a0 (0, 11) (gN (y26.2.2 + 1) (lt (wF y32 a0 3 (y26.2.2 + 1)) fun (y36 : Lay) => gd (y36.2.2 + 2 ≤ 1000) (lt (psh y36 (0, 4)) fun (y38 : Lay) => lt (zM M33 (y36.2.2 + 1)) fun (M39 : Mem) => gK y38 a0 (0, 11) (gN (y38.2.1 a0 1) (ci (f_X4_init y38 (y36.2.2 + 1) (y38.2.1 a0 1) M39) fun (y42 : Lay) (M43 : Mem) => gK y42 a0 (0, 11) (gN (y36.2.2 + 1) (lt (wF y42 a0 4 (y36.2.2 + 1)) fun (y46 : Lay) => gd (y46.2.2 + 2 ≤ 1000) (lt (psh y46 (0, 8)) fun (y48 : Lay) => lt (zM M43 (y46.2.2 + 1)) fun (M49 : Mem) => gK y48 a0 (0, 11) (gN (y48.2.1 a0 1) (ci (f_X8_init y48 (y46.2.2 + 1) (y48.2.1 a0 1) M49) fun (y52 : Lay) (M53 : Mem) => gK y52 a0 (0, 11) (gN (y46.2.2 + 1) (lt (wF y52 a0 5 (y46.2.2 + 1)) fun (y56 : Lay) => gd (y56.2.2 + 2 ≤ 1000) (lt (psh y56 (0, 7)) fun (y58 : Lay) => lt (zM M53 (y56.2.2 + 1)) fun (M59 : Mem) => gK y58 a0 (0, 11) (gN (y58.2.1 a0 3) (gK y58 (y58.2.1 a0 3) (0, 4) (gN (y58.2.1 (y58.2.1 a0 3) 0) (ci (f_X7_init y58 (y56.2.2 + 1) (y58.2.1 (y58.2.1 a0 3) 0) M59) fun (y64 : Lay) (M65 : Mem) => gK y64 a0 (0, 11) (gN (y56.2.2 + 1) (lt (wF y64 a0 6 (y56.2.2 + 1)) fun (y68 : Lay) => gd (y68.2.2 + 2 ≤ 1000) (lt (psh y68 (0, 3)) fun (y70 : Lay) => lt (zM M65 (y68.2.2 + 1)) fun (M71 : Mem) => ci (f_X3_init y70 (y68.2.2 + 1) M71) fun (y72 : Lay) (M73 : Mem) => gK y72 a0 (0, 11) (gN (y68.2.2 + 1) (lt (wF y72 a0 7 (y68.2.2 + 1)) fun (y76 : Lay) => gd (y76.2.2 + 2 ≤ 1000) (lt (psh y76 (3, 30)) fun (y78 : Lay) => lt (zM M73 (y76.2.2 + 1)) fun (M79 : Mem) => gK y78 a0 (0, 11) (gN (y76.2.2 + 1) (lt (wF y78 a0 8 (y76.2.2 + 1)) fun (y82 : Lay) => gd (y82.2.2 + 2 ≤ 1000) (lt (psh y82 (3, 30)) fun (y84 : Lay) => lt (zM M79 (y82.2.2 + 1)) fun (M85 : Mem) => gK y84 a0 (0, 11) (gN (y82.2.2 + 1) (lt (wF y84 a0 9 (y82.2.2 + 1)) fun (y88 : Lay) => gd (y88.2.2 + 2 ≤ 1000) (lt (psh y88 (1, 8)) fun (y90 : Lay) => lt (zM M85 (y88.2.2 + 1)) fun (M91 : Mem) => gK y90 a0 (0, 11) (gN (y88.2.2 + 1) (lt (wF y90 a0 10 (y88.2.2 + 1)) fun (y94 : Lay) => gK y94 a0 (0, 11) (lt (wI M91 a0 12 ((-1) : Int32)) fun (M96 : Mem) => some (y94, M96)))))))))))))))))))))))))))))))))))))))))))))))
set_option maxRecDepth 20000 in
theorem w_X11_init {g : GX} {l : Launch} (hG : GF g l) (y : Lay) (a0 : Nat) (M : Mem) : CIt g l yX11_init cX11_init 1 6 71 7699 y [.ref a0] M (f_X11_init y a0 M) := by
  refine CI_of hG (by decide) rfl [some (.ref a0)] rfl rfl (fun out h x Q C R hz => ?_)
  have hz0 := hz
  unfold f_X11_init at h
  refine g_aload_n C tb_X11_init_0_ok (i := 0) rfl rfl ?_
  refine g_objI C tb_X11_init_0_ok (i := 1) rfl oi_X11_1 obj_w rfl ?_
  refine g_aload_n C tb_X11_init_0_ok (i := 2) rfl rfl ?_
  obtain ⟨g1, h⟩ := gd_e h
  refine g_new C tb_X11_init_0_ok (i := 3) hz rfl cls_9 cnw_9 ck_X11_7 ins_9 ini_9 (Or.inr g1) (by decide) (by decide) (fun hz => ?_)
  refine g_nm (fun y2 ey2 M3 eM3 => ?_)
  have h := lt_e ey2 h
  have h := lt_e eM3 h
  rw [← ey2] at hz
  refine g_dup C tb_X11_init_0_ok (i := 4) rfl rfl ?_
  obtain ⟨y4, M5, ey4, h⟩ := ci_e h
  refine g_callI C tb_X11_init_0_ok (i := 5) [] hz rfl mw_X9_init mi_X9_init mli_X11_9 rfl rfl rfl rfl (w_X9_init C.G y2 (y.2.2 + 1) M3) ey4 (by decide) (by decide) rfl (fun hz => ?_)
  obtain ⟨k6, h⟩ := gK_e h
  obtain ⟨n7, h⟩ := gN_e h
  refine g_putF C tb_X11_init_0_ok R (i := 6) rfl ff_X11_10 ft_11_0 (Or.inl ⟨_, rfl⟩) rfl n7 k6 ?_
  refine g_nmy (fun y8 ey8 => ?_)
  have h := lt_e ey8 h
  have hz : HZ g x 2 y8 := by rw [ey8]; exact hz
  refine g_aload_n C tb_X11_init_0_ok (i := 7) rfl rfl ?_
  obtain ⟨g9, h⟩ := gd_e h
  refine g_new C tb_X11_init_0_ok (i := 8) hz rfl cls_1 cnw_1 ck_X11_16 ins_1 ini_1 (Or.inr g9) (by decide) (by decide) (fun hz => ?_)
  refine g_nm (fun y10 ey10 M11 eM11 => ?_)
  have h := lt_e ey10 h
  have h := lt_e eM11 h
  rw [← ey10] at hz
  refine g_dup C tb_X11_init_0_ok (i := 9) rfl rfl ?_
  obtain ⟨y12, M13, ey12, h⟩ := ci_e h
  refine g_callI C tb_X11_init_0_ok (i := 10) [] hz rfl mw_X1_init mi_X1_init mli_X11_18 rfl rfl rfl rfl (w_X1_init C.G y10 (y8.2.2 + 1) M11) ey12 (by decide) (by decide) rfl (fun hz => ?_)
  obtain ⟨k14, h⟩ := gK_e h
  obtain ⟨n15, h⟩ := gN_e h
  refine g_putF C tb_X11_init_0_ok R (i := 11) rfl ff_X11_19 ft_11_1 (Or.inl ⟨_, rfl⟩) rfl n15 k14 ?_
  refine g_nmy (fun y16 ey16 => ?_)
  have h := lt_e ey16 h
  have hz : HZ g x 10 y16 := by rw [ey16]; exact hz
  refine g_aload_n C tb_X11_init_0_ok (i := 12) rfl rfl ?_
  obtain ⟨g17, h⟩ := gd_e h
  refine g_new C tb_X11_init_0_ok (i := 13) hz rfl cls_2 cnw_2 ck_X11_23 ins_2 ini_2 (Or.inr g17) (by decide) (by decide) (fun hz => ?_)
  refine g_nm (fun y18 ey18 M19 eM19 => ?_)
  have h := lt_e ey18 h
  have h := lt_e eM19 h
  rw [← ey18] at hz
  refine g_dup C tb_X11_init_0_ok (i := 14) rfl rfl ?_
  refine g_aload_n C tb_X11_init_0_ok (i := 15) rfl rfl ?_
  obtain ⟨k20, h⟩ := gK_e h
  obtain ⟨n21, h⟩ := gN_e h
  refine g_getR C tb_X11_init_0_ok (i := 16) rfl fl_X11_10 rfl k20 n21 ?_
  obtain ⟨y22, M23, ey22, h⟩ := ci_e h
  refine g_callI C tb_X11_init_0_ok (i := 17) [.ref (y18.2.1 a0 0)] hz rfl mw_X2_init mi_X2_init mli_X11_25 rfl rfl rfl rfl (w_X2_init C.G y18 (y16.2.2 + 1) (y18.2.1 a0 0) M19) ey22 (by decide) (by decide) rfl (fun hz => ?_)
  obtain ⟨k24, h⟩ := gK_e h
  obtain ⟨n25, h⟩ := gN_e h
  refine g_putF C tb_X11_init_0_ok R (i := 18) rfl ff_X11_28 ft_11_2 (Or.inl ⟨_, rfl⟩) rfl n25 k24 ?_
  refine g_nmy (fun y26 ey26 => ?_)
  have h := lt_e ey26 h
  have hz : HZ g x 28 y26 := by rw [ey26]; exact hz
  refine g_aload_n C tb_X11_init_0_ok (i := 19) rfl rfl ?_
  obtain ⟨g27, h⟩ := gd_e h
  refine g_new C tb_X11_init_0_ok (i := 20) hz rfl cls_4 cnw_4 ck_X11_32 ins_4 ini_4 (Or.inr g27) (by decide) (by decide) (fun hz => ?_)
  refine g_nm (fun y28 ey28 M29 eM29 => ?_)
  have h := lt_e ey28 h
  have h := lt_e eM29 h
  rw [← ey28] at hz
  refine g_dup C tb_X11_init_0_ok (i := 21) rfl rfl ?_
  refine g_aload_n C tb_X11_init_0_ok (i := 22) rfl rfl ?_
  obtain ⟨k30, h⟩ := gK_e h
  obtain ⟨n31, h⟩ := gN_e h
  refine g_getR C tb_X11_init_0_ok (i := 23) rfl fl_X11_19 rfl k30 n31 ?_
  obtain ⟨y32, M33, ey32, h⟩ := ci_e h
  refine g_callI C tb_X11_init_0_ok (i := 24) [.ref (y28.2.1 a0 1)] hz rfl mw_X4_init mi_X4_init mli_X11_34 rfl rfl rfl rfl (w_X4_init C.G y28 (y26.2.2 + 1) (y28.2.1 a0 1) M29) ey32 (by decide) (by decide) rfl (fun hz => ?_)
  obtain ⟨k34, h⟩ := gK_e h
  obtain ⟨n35, h⟩ := gN_e h
  refine g_putF C tb_X11_init_0_ok R (i := 25) rfl ff_X11_37 ft_11_3 (Or.inl ⟨_, rfl⟩) rfl n35 k34 ?_
  refine g_nmy (fun y36 ey36 => ?_)
  have h := lt_e ey36 h
  have hz : HZ g x 42 y36 := by rw [ey36]; exact hz
  refine g_aload_n C tb_X11_init_0_ok (i := 26) rfl rfl ?_
  obtain ⟨g37, h⟩ := gd_e h
  refine g_new C tb_X11_init_0_ok (i := 27) hz rfl cls_4 cnw_4 ck_X11_32 ins_4 ini_4 (Or.inr g37) (by decide) (by decide) (fun hz => ?_)
  refine g_nm (fun y38 ey38 M39 eM39 => ?_)
  have h := lt_e ey38 h
  have h := lt_e eM39 h
  rw [← ey38] at hz
  refine g_dup C tb_X11_init_0_ok (i := 28) rfl rfl ?_
  refine g_aload_n C tb_X11_init_0_ok (i := 29) rfl rfl ?_
  obtain ⟨k40, h⟩ := gK_e h
  obtain ⟨n41, h⟩ := gN_e h
  refine g_getR C tb_X11_init_0_ok (i := 30) rfl fl_X11_19 rfl k40 n41 ?_
  obtain ⟨y42, M43, ey42, h⟩ := ci_e h
  refine g_callI C tb_X11_init_0_ok (i := 31) [.ref (y38.2.1 a0 1)] hz rfl mw_X4_init mi_X4_init mli_X11_34 rfl rfl rfl rfl (w_X4_init C.G y38 (y36.2.2 + 1) (y38.2.1 a0 1) M39) ey42 (by decide) (by decide) rfl (fun hz => ?_)
  obtain ⟨k44, h⟩ := gK_e h
  obtain ⟨n45, h⟩ := gN_e h
  refine g_putF C tb_X11_init_0_ok R (i := 32) rfl ff_X11_41 ft_11_4 (Or.inl ⟨_, rfl⟩) rfl n45 k44 ?_
  refine g_nmy (fun y46 ey46 => ?_)
  have h := lt_e ey46 h
  have hz : HZ g x 56 y46 := by rw [ey46]; exact hz
  refine g_aload_n C tb_X11_init_0_ok (i := 33) rfl rfl ?_
  obtain ⟨g47, h⟩ := gd_e h
  refine g_new C tb_X11_init_0_ok (i := 34) hz rfl cls_8 cnw_8 ck_X11_44 ins_8 ini_8 (Or.inr g47) (by decide) (by decide) (fun hz => ?_)
  refine g_nm (fun y48 ey48 M49 eM49 => ?_)
  have h := lt_e ey48 h
  have h := lt_e eM49 h
  rw [← ey48] at hz
  refine g_dup C tb_X11_init_0_ok (i := 35) rfl rfl ?_
  refine g_aload_n C tb_X11_init_0_ok (i := 36) rfl rfl ?_
  obtain ⟨k50, h⟩ := gK_e h
  obtain ⟨n51, h⟩ := gN_e h
  refine g_getR C tb_X11_init_0_ok (i := 37) rfl fl_X11_19 rfl k50 n51 ?_
  obtain ⟨y52, M53, ey52, h⟩ := ci_e h
  refine g_callI C tb_X11_init_0_ok (i := 38) [.ref (y48.2.1 a0 1)] hz rfl mw_X8_init mi_X8_init mli_X11_46 rfl rfl rfl rfl (w_X8_init C.G y48 (y46.2.2 + 1) (y48.2.1 a0 1) M49) ey52 (by decide) (by decide) rfl (fun hz => ?_)
  obtain ⟨k54, h⟩ := gK_e h
  obtain ⟨n55, h⟩ := gN_e h
  refine g_putF C tb_X11_init_0_ok R (i := 39) rfl ff_X11_47 ft_11_5 (Or.inl ⟨_, rfl⟩) rfl n55 k54 ?_
  refine g_nmy (fun y56 ey56 => ?_)
  have h := lt_e ey56 h
  have hz : HZ g x 63 y56 := by rw [ey56]; exact hz
  refine g_aload_n C tb_X11_init_1_ok (i := 0) rfl rfl ?_
  obtain ⟨g57, h⟩ := gd_e h
  refine g_new C tb_X11_init_1_ok (i := 1) hz rfl cls_7 cnw_7 ck_X11_51 ins_7 ini_7 (Or.inr g57) (by decide) (by decide) (fun hz => ?_)
  refine g_nm (fun y58 ey58 M59 eM59 => ?_)
  have h := lt_e ey58 h
  have h := lt_e eM59 h
  rw [← ey58] at hz
  refine g_dup C tb_X11_init_1_ok (i := 2) rfl rfl ?_
  refine g_aload_n C tb_X11_init_1_ok (i := 3) rfl rfl ?_
  obtain ⟨k60, h⟩ := gK_e h
  obtain ⟨n61, h⟩ := gN_e h
  refine g_getR C tb_X11_init_1_ok (i := 4) rfl fl_X11_37 rfl k60 n61 ?_
  obtain ⟨k62, h⟩ := gK_e h
  obtain ⟨n63, h⟩ := gN_e h
  refine g_getR C tb_X11_init_1_ok (i := 5) rfl fl_X11_53 rfl k62 n63 ?_
  obtain ⟨y64, M65, ey64, h⟩ := ci_e h
  refine g_callI C tb_X11_init_1_ok (i := 6) [.ref (y58.2.1 (y58.2.1 a0 3) 0)] hz rfl mw_X7_init mi_X7_init mli_X11_56 rfl rfl rfl rfl (w_X7_init C.G y58 (y56.2.2 + 1) (y58.2.1 (y58.2.1 a0 3) 0) M59) ey64 (by decide) (by decide) rfl (fun hz => ?_)
  obtain ⟨k66, h⟩ := gK_e h
  obtain ⟨n67, h⟩ := gN_e h
  refine g_putF C tb_X11_init_1_ok R (i := 7) rfl ff_X11_59 ft_11_6 (Or.inl ⟨_, rfl⟩) rfl n67 k66 ?_
  refine g_nmy (fun y68 ey68 => ?_)
  have h := lt_e ey68 h
  have hz : HZ g x 67 y68 := by rw [ey68]; exact hz
  refine g_aload_n C tb_X11_init_1_ok (i := 8) rfl rfl ?_
  obtain ⟨g69, h⟩ := gd_e h
  refine g_new C tb_X11_init_1_ok (i := 9) hz rfl cls_3 cnw_3 ck_X11_63 ins_3 ini_3 (Or.inr g69) (by decide) (by decide) (fun hz => ?_)
  refine g_nm (fun y70 ey70 M71 eM71 => ?_)
  have h := lt_e ey70 h
  have h := lt_e eM71 h
  rw [← ey70] at hz
  refine g_dup C tb_X11_init_1_ok (i := 10) rfl rfl ?_
  obtain ⟨y72, M73, ey72, h⟩ := ci_e h
  refine g_callI C tb_X11_init_1_ok (i := 11) [] hz rfl mw_X3_init mi_X3_init mli_X11_65 rfl rfl rfl rfl (w_X3_init C.G y70 (y68.2.2 + 1) M71) ey72 (by decide) (by decide) rfl (fun hz => ?_)
  obtain ⟨k74, h⟩ := gK_e h
  obtain ⟨n75, h⟩ := gN_e h
  refine g_putF C tb_X11_init_1_ok R (i := 12) rfl ff_X11_66 ft_11_7 (Or.inl ⟨_, rfl⟩) rfl n75 k74 ?_
  refine g_nmy (fun y76 ey76 => ?_)
  have h := lt_e ey76 h
  have hz : HZ g x 68 y76 := by rw [ey76]; exact hz
  refine g_aload_n C tb_X11_init_1_ok (i := 13) rfl rfl ?_
  refine g_bipushv C tb_X11_init_1_ok (i := 14) 30 rfl k_bipushv_30 ?_
  obtain ⟨g77, h⟩ := gd_e h
  refine g_newaL C tb_X11_init_1_ok (i := 15) (N := 30) hz rfl acl_long (by decide) (by decide) rfl g77 (by decide) (by decide) (fun hz => ?_)
  refine g_nm (fun y78 ey78 M79 eM79 => ?_)
  have h := lt_e ey78 h
  have h := lt_e eM79 h
  rw [← ey78] at hz
  obtain ⟨k80, h⟩ := gK_e h
  obtain ⟨n81, h⟩ := gN_e h
  refine g_putF C tb_X11_init_1_ok R (i := 16) rfl ff_X11_70 ft_11_8 (Or.inr ⟨_, rfl⟩) rfl n81 k80 ?_
  refine g_nmy (fun y82 ey82 => ?_)
  have h := lt_e ey82 h
  have hz : HZ g x 69 y82 := by rw [ey82]; exact hz
  refine g_aload_n C tb_X11_init_1_ok (i := 17) rfl rfl ?_
  refine g_bipushv C tb_X11_init_1_ok (i := 18) 30 rfl k_bipushv_30 ?_
  obtain ⟨g83, h⟩ := gd_e h
  refine g_newaL C tb_X11_init_1_ok (i := 19) (N := 30) hz rfl acl_long (by decide) (by decide) rfl g83 (by decide) (by decide) (fun hz => ?_)
  refine g_nm (fun y84 ey84 M85 eM85 => ?_)
  have h := lt_e ey84 h
  have h := lt_e eM85 h
  rw [← ey84] at hz
  obtain ⟨k86, h⟩ := gK_e h
  obtain ⟨n87, h⟩ := gN_e h
  refine g_putF C tb_X11_init_1_ok R (i := 20) rfl ff_X11_74 ft_11_9 (Or.inr ⟨_, rfl⟩) rfl n87 k86 ?_
  refine g_nmy (fun y88 ey88 => ?_)
  have h := lt_e ey88 h
  have hz : HZ g x 70 y88 := by rw [ey88]; exact hz
  refine g_aload_n C tb_X11_init_1_ok (i := 21) rfl rfl ?_
  refine g_bipushv C tb_X11_init_1_ok (i := 22) 8 rfl k_bipushv_8 ?_
  obtain ⟨g89, h⟩ := gd_e h
  refine g_newaI C tb_X11_init_1_ok (i := 23) (N := 8) hz rfl acl_int (by decide) (by decide) rfl g89 (by decide) (by decide) (fun hz => ?_)
  refine g_nm (fun y90 ey90 M91 eM91 => ?_)
  have h := lt_e ey90 h
  have h := lt_e eM91 h
  rw [← ey90] at hz
  obtain ⟨k92, h⟩ := gK_e h
  obtain ⟨n93, h⟩ := gN_e h
  refine g_putF C tb_X11_init_1_ok R (i := 24) rfl ff_X11_77 ft_11_10 (Or.inr ⟨_, rfl⟩) rfl n93 k92 ?_
  refine g_nmy (fun y94 ey94 => ?_)
  have h := lt_e ey94 h
  have hz : HZ g x 71 y94 := by rw [ey94]; exact hz
  refine g_aload_n C tb_X11_init_1_ok (i := 25) rfl rfl ?_
  refine g_iconstv C tb_X11_init_1_ok (i := 26) (-1) rfl k_iconstv_m1 ?_
  obtain ⟨k95, h⟩ := gK_e h
  refine g_putI C tb_X11_init_1_ok (i := 27) rfl fl_X11_81 ft_11_12 rfl k95 ?_
  refine g_mem (fun M96 eM96 => ?_)
  have h := lt_e eM96 h
  cases h
  exact g_vretI C R hz rfl (by have h8 : x.2.2.2.2.1.heap.size + 0 = bs g + y.2.2 := hz0; have h9 : x.2.2.2.2.1.heap.size + _ = bs g + _ := hz; omega) rfl tb_X11_init_1_ok (i := 28) rfl
def f_X9_hasRoomFor (y : Lay) (a0 : Nat) (a1 : Int32) (M : Mem) : Option Int32 := gK y a0 (0, 9) (jn (fun (v2 : Int32) => gd (v2 = 0 ∨ v2 = 1) (some v2)) fun j3 => br ((700 : Int32) < ((M.1 a0 1) + a1)) (j3 (0 : Int32)) (j3 (1 : Int32)))
theorem w_X9_hasRoomFor {g : GX} {l : Launch} (hG : GF g l) (y : Lay) (a0 : Nat) (a1 : Int32) (M : Mem) : C0 g l yX9_hasRoomFor cX9_hasRoomFor 2 (some .boolean) 0 y [.ref a0, .int a1] M (pm M (f_X9_hasRoomFor y a0 a1 M)) := by
  refine CP_of hG (by decide) [some (.ref a0), some (.int a1)] rfl rfl (fun out h x Q C R => ?_)
  unfold f_X9_hasRoomFor at h
  refine g_aload_n C tb_X9_hasRoomFor_0_ok (i := 0) rfl rfl ?_
  obtain ⟨k1, h⟩ := gK_e h
  refine g_getI C tb_X9_hasRoomFor_0_ok (i := 1) rfl fl_X9_15 rfl k1 ?_
  refine g_iload_n C tb_X9_hasRoomFor_0_ok (i := 2) rfl rfl ?_
  refine g_iadd C tb_X9_hasRoomFor_0_ok (i := 3) rfl ?_
  refine g_sipushv C tb_X9_hasRoomFor_0_ok (i := 4) 700 rfl k_sipushv_700 ?_
  obtain ⟨j3, ej3, h⟩ := jn_e h
  have J17 : ∀ (v2 : Int32), j3 v2 = some out → GG g x 2 Q 0 0 y M 17 [none, none] [.int v2] := by
    intro v2 h; subst ej3
    obtain ⟨hz, h⟩ := gd_e h
    cases h
    exact g_zret0 C R hz tb_X9_hasRoomFor_0_ok (i := 9) rfl
  obtain ⟨t4, f5⟩ := br_e h
  refine g_icmp_gt C tb_X9_hasRoomFor_0_ok (i := 5) 16 rfl rfl (fun c => ?_) (fun c => ?_)
  · have h := t4 c
    refine g_iconstv C tb_X9_hasRoomFor_0_ok (i := 8) 0 rfl k_iconstv_0 ?_
    exact g_less (L' := [none, none]) trivial (J17 (0 : Int32) h)
  · have h := f5 c
    refine g_iconstv C tb_X9_hasRoomFor_0_ok (i := 6) 1 rfl k_iconstv_1 ?_
    refine g_goto C tb_X9_hasRoomFor_0_ok (i := 7) 17 rfl rfl ?_
    exact g_less (L' := [none, none]) trivial (J17 (1 : Int32) h)
def f_X9_put (y : Lay) (a0 : Nat) (a1 : Int32) (M : Mem) : Option (Int32 × Mem) := fixN (fun _ _ => none) (fun (s3 : Int32 → Mem → Option (Int32 × Mem)) (v1 : Int32) (M2 : Mem) => br (v1 < 0) (some (0, M2)) (gK y a0 (0, 9) (jn (fun (M8 : Mem) => lt (v1 + ((-8) : Int32)) fun (v10 : Int32) => s3 v10 M8) fun j9 => br ((M2.1 a0 1) < 0) (j9 M2) (gN (y.2.1 a0 0) (gT y (y.2.1 a0 0) 2 (br ((Int32.ofNat (kd y (y.2.1 a0 0)).2) ≤ (M2.1 a0 1)) (j9 M2) (gA y (y.2.1 a0 0) 2 (M2.1 a0 1) (lt (wI M2 (y.2.1 a0 0) (M2.1 a0 1).toNatClampNeg ((a1 >>> (v1 &&& 31)).toInt8.toInt32).toInt8.toInt32) fun (M18 : Mem) => lt (wI M18 a0 1 ((M18.1 a0 1) + (1 : Int32))) fun (M19 : Mem) => j9 M19)))))))) FUEL (24 : Int32) M
theorem w_X9_put {g : GX} {l : Launch} (hG : GF g l) (y : Lay) (a0 : Nat) (a1 : Int32) (M : Mem) : C0 g l yX9_put cX9_put 3 none 0 y [.ref a0, .int a1] M (f_X9_put y a0 a1 M) := by
  refine C0_of hG (by decide) [some (.ref a0), some (.int a1), none] rfl rfl (fun out h x Q C R => ?_)
  unfold f_X9_put at h
  refine g_bipushv C tb_X9_put_0_ok (i := 0) 24 rfl k_bipushv_24 ?_
  refine g_istore_n C tb_X9_put_0_ok (i := 1) rfl rfl rfl ?_
  refine g_less (L' := [some (.ref a0), some (.int a1), some (.int (24 : Int32))]) ⟨rfl, ⟨rfl, ⟨rfl, trivial⟩⟩⟩ ?_
  refine fix_i (P := fun (f : Int32 → Mem → Option (Int32 × Mem)) => ∀ (v1 : Int32) (M2 : Mem), f v1 M2 = some out → GG g x 3 Q 0 0 y M2 3 [some (.ref a0), some (.int a1), some (.int v1)] []) ?_ ?_ _ (24 : Int32) M h
  · intro v1 M2 h; exact (nn_e h).elim
  · intro s3 ih4 v1 M2 h
    refine g_iload_n C tb_X9_put_0_ok (i := 2) rfl rfl ?_
    obtain ⟨t5, f6⟩ := br_e h
    refine g_if_lt C tb_X9_put_0_ok (i := 3) 55 rfl rfl (fun c => ?_) (fun c => ?_)
    · have h := t5 c
      cases h
      exact g_vret0 C R tb_X9_put_0_ok (i := 30) rfl
    · have h := f6 c
      refine g_aload_n C tb_X9_put_0_ok (i := 4) rfl rfl ?_
      obtain ⟨k7, h⟩ := gK_e h
      refine g_getI C tb_X9_put_0_ok (i := 5) rfl fl_X9_15 rfl k7 ?_
      obtain ⟨j9, ej9, h⟩ := jn_e h
      have J49 : ∀ (M8 : Mem), j9 M8 = some out → GG g x 3 Q 0 0 y M8 49 [some (.ref a0), some (.int a1), some (.int v1)] [] := by
        intro M8 h; subst ej9
        obtain ⟨v10, ev10⟩ : ∃ w : Int32, w = v1 + ((-8) : Int32) := ⟨_, rfl⟩
        have h := lt_e ev10 h
        refine g_iincv C tb_X9_put_0_ok (i := 28) ((-8) : Int32) ev10 rfl rfl k_iconstv_m8 rfl rfl ?_
        refine g_goto C tb_X9_put_0_ok (i := 29) 3 rfl rfl ?_
        exact g_less (L' := [some (.ref a0), some (.int a1), some (.int v10)]) ⟨rfl, ⟨rfl, ⟨rfl, trivial⟩⟩⟩ (ih4 v10 M8 h)
      obtain ⟨t11, f12⟩ := br_e h
      refine g_if_lt C tb_X9_put_0_ok (i := 6) 49 rfl rfl (fun c => ?_) (fun c => ?_)
      · have h := t11 c
        exact g_less (L' := [some (.ref a0), some (.int a1), some (.int v1)]) ⟨rfl, ⟨rfl, ⟨rfl, trivial⟩⟩⟩ (J49 M2 h)
      · have h := f12 c
        refine g_aload_n C tb_X9_put_0_ok (i := 7) rfl rfl ?_
        refine g_getI C tb_X9_put_0_ok (i := 8) rfl fl_X9_15 rfl k7 ?_
        refine g_aload_n C tb_X9_put_0_ok (i := 9) rfl rfl ?_
        obtain ⟨n13, h⟩ := gN_e h
        refine g_getR C tb_X9_put_0_ok (i := 10) rfl fl_X9_9 rfl k7 n13 ?_
        obtain ⟨b14, h⟩ := gT_e h
        refine g_alen C tb_X9_put_0_ok (i := 11) rfl b14 (by decide) ?_
        obtain ⟨t15, f16⟩ := br_e h
        refine g_icmp_ge C tb_X9_put_0_ok (i := 12) 49 rfl rfl (fun c => ?_) (fun c => ?_)
        · have h := t15 c
          exact g_less (L' := [some (.ref a0), some (.int a1), some (.int v1)]) ⟨rfl, ⟨rfl, ⟨rfl, trivial⟩⟩⟩ (J49 M2 h)
        · have h := f16 c
          refine g_aload_n C tb_X9_put_0_ok (i := 13) rfl rfl ?_
          refine g_getR C tb_X9_put_0_ok (i := 14) rfl fl_X9_9 rfl k7 n13 ?_
          refine g_aload_n C tb_X9_put_0_ok (i := 15) rfl rfl ?_
          refine g_getI C tb_X9_put_0_ok (i := 16) rfl fl_X9_15 rfl k7 ?_
          refine g_iload_n C tb_X9_put_0_ok (i := 17) rfl rfl ?_
          refine g_iload_n C tb_X9_put_0_ok (i := 18) rfl rfl ?_
          refine g_ishr C tb_X9_put_0_ok (i := 19) rfl ?_
          refine g_i2b C tb_X9_put_0_ok (i := 20) rfl ?_
          obtain ⟨b17, h⟩ := gA_e h
          refine g_bast C tb_X9_put_0_ok (i := 21) rfl b17 ?_
          refine g_mem (fun M18 eM18 => ?_)
          have h := lt_e eM18 h
          refine g_aload_n C tb_X9_put_0_ok (i := 22) rfl rfl ?_
          refine g_dup C tb_X9_put_0_ok (i := 23) rfl rfl ?_
          refine g_getI C tb_X9_put_0_ok (i := 24) rfl fl_X9_15 rfl k7 ?_
          refine g_iconstv C tb_X9_put_0_ok (i := 25) 1 rfl k_iconstv_1 ?_
          refine g_iadd C tb_X9_put_0_ok (i := 26) rfl ?_
          refine g_putI C tb_X9_put_0_ok (i := 27) rfl fl_X9_15 ft_9_1 rfl k7 ?_
          refine g_mem (fun M19 eM19 => ?_)
          have h := lt_e eM19 h
          exact g_less (L' := [some (.ref a0), some (.int a1), some (.int v1)]) ⟨rfl, ⟨rfl, ⟨rfl, trivial⟩⟩⟩ (J49 M19 h)
def f_X11_feed (y : Lay) (a0 : Nat) (a1 : Int32) (a2 : Int32) (a3 : Int32) (a4 : Int32) (a5 : Int32) (M : Mem) : Option (Int32 × Mem) := gK y a0 (0, 11) (gN (y.2.1 a0 0) (gK y (y.2.1 a0 0) (0, 9) (cp (f_X9_hasRoomFor y (y.2.1 a0 0) (20 : Int32) M) fun (r4 : Int32) => br (r4 = 0) (some (((-1) : Int32), M)) (c0 (f_X9_put y (y.2.1 a0 0) a1 M) fun (r7 : Int32) (M8 : Mem) => c0 (f_X9_put y (y.2.1 a0 0) a2 M8) fun (r9 : Int32) (M10 : Mem) => c0 (f_X9_put y (y.2.1 a0 0) a3 M10) fun (r11 : Int32) (M12 : Mem) => c0 (f_X9_put y (y.2.1 a0 0) a4 M12) fun (r13 : Int32) (M14 : Mem) => c0 (f_X9_put y (y.2.1 a0 0) a5 M14) fun (r15 : Int32) (M16 : Mem) => some ((M16.1 (y.2.1 a0 0) 1), M16)))))
theorem w_X11_feed {g : GX} {l : Launch} (hG : GF g l) (y : Lay) (a0 : Nat) (a1 : Int32) (a2 : Int32) (a3 : Int32) (a4 : Int32) (a5 : Int32) (M : Mem) : C0 g l yX11_feed cX11_feed 6 (some .int) 1 y [.ref a0, .int a1, .int a2, .int a3, .int a4, .int a5] M (f_X11_feed y a0 a1 a2 a3 a4 a5 M) := by
  refine C0_of hG (by decide) [some (.ref a0), some (.int a1), some (.int a2), some (.int a3), some (.int a4), some (.int a5)] rfl rfl (fun out h x Q C R => ?_)
  unfold f_X11_feed at h
  refine g_aload_n C tb_X11_feed_0_ok (i := 0) rfl rfl ?_
  obtain ⟨k1, h⟩ := gK_e h
  obtain ⟨n2, h⟩ := gN_e h
  refine g_getR C tb_X11_feed_0_ok (i := 1) rfl fl_X11_10 rfl k1 n2 ?_
  refine g_bipushv C tb_X11_feed_0_ok (i := 2) 20 rfl k_bipushv_20 ?_
  obtain ⟨k3, h⟩ := gK_e h
  obtain ⟨r4, er4, h⟩ := cp_e h
  refine g_callV0 C tb_X11_feed_0_ok (i := 3) [.int (20 : Int32)] rfl mw_X9_hasRoomFor mv_X9_hasRoomFor ml_X11_85 k3 rfl rfl rfl rfl (w_X9_hasRoomFor C.G y (y.2.1 a0 0) (20 : Int32) M) (pm_s er4) rfl rfl rfl ?_
  obtain ⟨t5, f6⟩ := br_e h
  refine g_if_ne C tb_X11_feed_0_ok (i := 4) 14 rfl rfl (fun c => ?_) (fun c => ?_)
  · have h := f6 c
    refine g_aload_n C tb_X11_feed_0_ok (i := 7) rfl rfl ?_
    refine g_getR C tb_X11_feed_0_ok (i := 8) rfl fl_X11_10 rfl k1 n2 ?_
    refine g_iload_n C tb_X11_feed_0_ok (i := 9) rfl rfl ?_
    obtain ⟨r7, M8, er7, h⟩ := c0_e h
    refine g_callV0 C tb_X11_feed_0_ok (i := 10) [.int a1] rfl mw_X9_put mv_X9_put ml_X11_89 k3 rfl rfl rfl rfl (w_X9_put C.G y (y.2.1 a0 0) a1 M) er7 rfl rfl rfl ?_
    refine g_aload_n C tb_X11_feed_0_ok (i := 11) rfl rfl ?_
    refine g_getR C tb_X11_feed_0_ok (i := 12) rfl fl_X11_10 rfl k1 n2 ?_
    refine g_iload_n C tb_X11_feed_0_ok (i := 13) rfl rfl ?_
    obtain ⟨r9, M10, er9, h⟩ := c0_e h
    refine g_callV0 C tb_X11_feed_0_ok (i := 14) [.int a2] rfl mw_X9_put mv_X9_put ml_X11_89 k3 rfl rfl rfl rfl (w_X9_put C.G y (y.2.1 a0 0) a2 M8) er9 rfl rfl rfl ?_
    refine g_aload_n C tb_X11_feed_0_ok (i := 15) rfl rfl ?_
    refine g_getR C tb_X11_feed_0_ok (i := 16) rfl fl_X11_10 rfl k1 n2 ?_
    refine g_iload_n C tb_X11_feed_0_ok (i := 17) rfl rfl ?_
    obtain ⟨r11, M12, er11, h⟩ := c0_e h
    refine g_callV0 C tb_X11_feed_0_ok (i := 18) [.int a3] rfl mw_X9_put mv_X9_put ml_X11_89 k3 rfl rfl rfl rfl (w_X9_put C.G y (y.2.1 a0 0) a3 M10) er11 rfl rfl rfl ?_
    refine g_aload_n C tb_X11_feed_0_ok (i := 19) rfl rfl ?_
    refine g_getR C tb_X11_feed_0_ok (i := 20) rfl fl_X11_10 rfl k1 n2 ?_
    refine g_iload C tb_X11_feed_0_ok (i := 21) rfl rfl ?_
    obtain ⟨r13, M14, er13, h⟩ := c0_e h
    refine g_callV0 C tb_X11_feed_0_ok (i := 22) [.int a4] rfl mw_X9_put mv_X9_put ml_X11_89 k3 rfl rfl rfl rfl (w_X9_put C.G y (y.2.1 a0 0) a4 M12) er13 rfl rfl rfl ?_
    refine g_aload_n C tb_X11_feed_0_ok (i := 23) rfl rfl ?_
    refine g_getR C tb_X11_feed_0_ok (i := 24) rfl fl_X11_10 rfl k1 n2 ?_
    refine g_iload C tb_X11_feed_0_ok (i := 25) rfl rfl ?_
    obtain ⟨r15, M16, er15, h⟩ := c0_e h
    refine g_callV0 C tb_X11_feed_0_ok (i := 26) [.int a5] rfl mw_X9_put mv_X9_put ml_X11_89 k3 rfl rfl rfl rfl (w_X9_put C.G y (y.2.1 a0 0) a5 M14) er15 rfl rfl rfl ?_
    refine g_aload_n C tb_X11_feed_0_ok (i := 27) rfl rfl ?_
    refine g_getR C tb_X11_feed_0_ok (i := 28) rfl fl_X11_10 rfl k1 n2 ?_
    refine g_getI C tb_X11_feed_0_ok (i := 29) rfl fl_X11_93 rfl k3 ?_
    cases h
    exact g_iret0 C R tb_X11_feed_0_ok (i := 30) rfl
  · have h := t5 c
    refine g_iconstv C tb_X11_feed_0_ok (i := 5) (-1) rfl k_iconstv_m1 ?_
    cases h
    exact g_iret0 C R tb_X11_feed_0_ok (i := 6) rfl
def f_X11_fault (y : Lay) (a0 : Nat) (M : Mem) : Option Int32 := gK y a0 (0, 11) (some (M.1 a0 12))
theorem w_X11_fault {g : GX} {l : Launch} (hG : GF g l) (y : Lay) (a0 : Nat) (M : Mem) : C0 g l yX11_fault cX11_fault 1 (some .int) 0 y [.ref a0] M (pm M (f_X11_fault y a0 M)) := by
  refine CP_of hG (by decide) [some (.ref a0)] rfl rfl (fun out h x Q C R => ?_)
  unfold f_X11_fault at h
  refine g_aload_n C tb_X11_fault_0_ok (i := 0) rfl rfl ?_
  obtain ⟨k1, h⟩ := gK_e h
  refine g_getI C tb_X11_fault_0_ok (i := 1) rfl fl_X11_81 rfl k1 ?_
  cases h
  exact g_iret0 C R tb_X11_fault_0_ok (i := 2) rfl
def f_X4_refuse (y : Lay) (a0 : Nat) (a1 : Int32) (M : Mem) : Option (Int32 × Mem) := jn (fun (M1 : Mem) => some (0, M1)) fun j2 => br (a1 < 0) (j2 M) (br ((3 : Int32) ≤ a1) (j2 M) (gK y a0 (0, 4) (gN (y.2.1 a0 5) (gA y (y.2.1 a0 5) 1 a1 (gA y (y.2.1 a0 5) 1 a1 (lt (wI M (y.2.1 a0 5) a1.toNatClampNeg ((M.1 (y.2.1 a0 5) a1.toNatClampNeg) + (1 : Int32))) fun (M11 : Mem) => j2 M11))))))
theorem w_X4_refuse {g : GX} {l : Launch} (hG : GF g l) (y : Lay) (a0 : Nat) (a1 : Int32) (M : Mem) : C0 g l yX4_refuse cX4_refuse 2 none 0 y [.ref a0, .int a1] M (f_X4_refuse y a0 a1 M) := by
  refine C0_of hG (by decide) [some (.ref a0), some (.int a1)] rfl rfl (fun out h x Q C R => ?_)
  unfold f_X4_refuse at h
  refine g_iload_n C tb_X4_refuse_0_ok (i := 0) rfl rfl ?_
  obtain ⟨j2, ej2, h⟩ := jn_e h
  have J19 : ∀ (M1 : Mem), j2 M1 = some out → GG g x 2 Q 0 0 y M1 19 [none, none] [] := by
    intro M1 h; subst ej2
    cases h
    exact g_vret0 C R tb_X4_refuse_0_ok (i := 13) rfl
  obtain ⟨t3, f4⟩ := br_e h
  refine g_if_lt C tb_X4_refuse_0_ok (i := 1) 19 rfl rfl (fun c => ?_) (fun c => ?_)
  · have h := t3 c
    exact g_less (L' := [none, none]) trivial (J19 M h)
  · have h := f4 c
    refine g_iload_n C tb_X4_refuse_0_ok (i := 2) rfl rfl ?_
    refine g_iconstv C tb_X4_refuse_0_ok (i := 3) 3 rfl k_iconstv_3 ?_
    obtain ⟨t5, f6⟩ := br_e h
    refine g_icmp_ge C tb_X4_refuse_0_ok (i := 4) 19 rfl rfl (fun c => ?_) (fun c => ?_)
    · have h := t5 c
      exact g_less (L' := [none, none]) trivial (J19 M h)
    · have h := f6 c
      refine g_aload_n C tb_X4_refuse_0_ok (i := 5) rfl rfl ?_
      obtain ⟨k7, h⟩ := gK_e h
      obtain ⟨n8, h⟩ := gN_e h
      refine g_getR C tb_X4_refuse_0_ok (i := 6) rfl fl_X4_28 rfl k7 n8 ?_
      refine g_iload_n C tb_X4_refuse_0_ok (i := 7) rfl rfl ?_
      refine g_dup2 C tb_X4_refuse_0_ok (i := 8) rfl rfl rfl ?_
      obtain ⟨b9, h⟩ := gA_e h
      refine g_iald C tb_X4_refuse_0_ok (i := 9) rfl b9 ?_
      refine g_iconstv C tb_X4_refuse_0_ok (i := 10) 1 rfl k_iconstv_1 ?_
      refine g_iadd C tb_X4_refuse_0_ok (i := 11) rfl ?_
      obtain ⟨b10, h⟩ := gA_e h
      refine g_iast C tb_X4_refuse_0_ok (i := 12) rfl b10 ?_
      refine g_mem (fun M11 eM11 => ?_)
      have h := lt_e eM11 h
      exact g_less (L' := [none, none]) trivial (J19 M11 h)
def f_X11_refuseAct (y : Lay) (a0 : Nat) (M : Mem) : Option (Int32 × Mem) := gK y a0 (0, 11) (gN (y.2.1 a0 3) (gK y (y.2.1 a0 3) (0, 4) (c0 (f_X4_refuse y (y.2.1 a0 3) (1 : Int32) M) fun (r4 : Int32) (M5 : Mem) => some (((-1) : Int32), M5))))
theorem w_X11_refuseAct {g : GX} {l : Launch} (hG : GF g l) (y : Lay) (a0 : Nat) (M : Mem) : C0 g l yX11_refuseAct cX11_refuseAct 1 (some .int) 1 y [.ref a0] M (f_X11_refuseAct y a0 M) := by
  refine C0_of hG (by decide) [some (.ref a0)] rfl rfl (fun out h x Q C R => ?_)
  unfold f_X11_refuseAct at h
  refine g_aload_n C tb_X11_refuseAct_0_ok (i := 0) rfl rfl ?_
  obtain ⟨k1, h⟩ := gK_e h
  obtain ⟨n2, h⟩ := gN_e h
  refine g_getR C tb_X11_refuseAct_0_ok (i := 1) rfl fl_X11_37 rfl k1 n2 ?_
  refine g_iconstv C tb_X11_refuseAct_0_ok (i := 2) 1 rfl k_iconstv_1 ?_
  obtain ⟨k3, h⟩ := gK_e h
  obtain ⟨r4, M5, er4, h⟩ := c0_e h
  refine g_callV0 C tb_X11_refuseAct_0_ok (i := 3) [.int (1 : Int32)] rfl mw_X4_refuse mv_X4_refuse ml_X11_109 k3 rfl rfl rfl rfl (w_X4_refuse C.G y (y.2.1 a0 3) (1 : Int32) M) er4 rfl rfl rfl ?_
  refine g_iconstv C tb_X11_refuseAct_0_ok (i := 4) (-1) rfl k_iconstv_m1 ?_
  cases h
  exact g_iret0 C R tb_X11_refuseAct_0_ok (i := 5) rfl
def f_X8_save (y : Lay) (a0 : Nat) (a1 : Nat) (a2 : Int32) (M : Mem) : Option (Int32 × Mem) := jn (fun (_u : Unit) => some (0, M)) fun j1 => br (a2 < 0) (j1 ()) (gT y a1 1 (br (a2 ≤ ((Int32.ofNat (kd y a1).2) - (41 : Int32))) (gK y a0 (0, 8) (gN (y.2.1 a0 1) (gC y (y.2.1 a0 1) a1 (0 : Int32) a2 (30 : Int32) (lt (cpI M (y.2.1 a0 1) a1 (0 : Int32).toNatClampNeg a2.toNatClampNeg (30 : Int32).toNatClampNeg) fun (M10 : Mem) => gN (y.2.1 a0 4) (gC y (y.2.1 a0 4) a1 (0 : Int32) (a2 + (30 : Int32)) (6 : Int32) (lt (cpI M10 (y.2.1 a0 4) a1 (0 : Int32).toNatClampNeg (a2 + (30 : Int32)).toNatClampNeg (6 : Int32).toNatClampNeg) fun (M13 : Mem) => lt ((a2 + (30 : Int32)) + (6 : Int32)) fun (v14 : Int32) => gA y a1 1 v14 (lt (wI M13 a1 v14.toNatClampNeg (M13.1 a0 7)) fun (M16 : Mem) => gA y a1 1 (v14 + (1 : Int32)) (lt (wI M16 a1 (v14 + (1 : Int32)).toNatClampNeg (M16.1 a0 8)) fun (M18 : Mem) => gA y a1 1 (v14 + (2 : Int32)) (lt (wI M18 a1 (v14 + (2 : Int32)).toNatClampNeg (M18.1 a0 9)) fun (M20 : Mem) => gA y a1 1 (v14 + (3 : Int32)) (lt (wI M20 a1 (v14 + (3 : Int32)).toNatClampNeg (M20.1 a0 10)) fun (M22 : Mem) => gA y a1 1 (v14 + (4 : Int32)) (lt (wI M22 a1 (v14 + (4 : Int32)).toNatClampNeg (M22.1 a0 11)) fun (M24 : Mem) => some (0, M24)))))))))))) (j1 ())))
theorem w_X8_save {g : GX} {l : Launch} (hG : GF g l) (y : Lay) (a0 : Nat) (a1 : Nat) (a2 : Int32) (M : Mem) : C0 g l yX8_save cX8_save 4 none 0 y [.ref a0, .ref a1, .int a2] M (f_X8_save y a0 a1 a2 M) := by
  refine C0_of hG (by decide) [some (.ref a0), some (.ref a1), some (.int a2), none] rfl rfl (fun out h x Q C R => ?_)
  unfold f_X8_save at h
  refine g_iload_n C tb_X8_save_0_ok (i := 0) rfl rfl ?_
  obtain ⟨j1, ej1, h⟩ := jn_e h
  have J13 : ∀ (_u : Unit), j1 _u = some out → GG g x 4 Q 0 0 y M 13 [none, none, none, none] [] := by
    intro _u h; subst ej1
    cases h
    exact g_vret0 C R tb_X8_save_0_ok (i := 8) rfl
  obtain ⟨t2, f3⟩ := br_e h
  refine g_if_lt C tb_X8_save_0_ok (i := 1) 13 rfl rfl (fun c => ?_) (fun c => ?_)
  · have h := t2 c
    exact g_less (L' := [none, none, none, none]) trivial (J13 () h)
  · have h := f3 c
    refine g_iload_n C tb_X8_save_0_ok (i := 2) rfl rfl ?_
    refine g_aload_n C tb_X8_save_0_ok (i := 3) rfl rfl ?_
    obtain ⟨b4, h⟩ := gT_e h
    refine g_alen C tb_X8_save_0_ok (i := 4) rfl b4 (by decide) ?_
    refine g_bipushv C tb_X8_save_0_ok (i := 5) 41 rfl k_bipushv_41 ?_
    refine g_isub C tb_X8_save_0_ok (i := 6) rfl ?_
    obtain ⟨t5, f6⟩ := br_e h
    refine g_icmp_le C tb_X8_save_0_ok (i := 7) 14 rfl rfl (fun c => ?_) (fun c => ?_)
    · have h := t5 c
      refine g_aload_n C tb_X8_save_0_ok (i := 9) rfl rfl ?_
      obtain ⟨k7, h⟩ := gK_e h
      obtain ⟨n8, h⟩ := gN_e h
      refine g_getR C tb_X8_save_0_ok (i := 10) rfl fl_X8_9 rfl k7 n8 ?_
      refine g_iconstv C tb_X8_save_0_ok (i := 11) 0 rfl k_iconstv_0 ?_
      refine g_aload_n C tb_X8_save_0_ok (i := 12) rfl rfl ?_
      refine g_iload_n C tb_X8_save_0_ok (i := 13) rfl rfl ?_
      refine g_bipushv C tb_X8_save_0_ok (i := 14) 30 rfl k_bipushv_30 ?_
      obtain ⟨b9, h⟩ := gC_e h
      refine g_copy C tb_X8_save_0_ok (i := 15) rfl mt_X8_58 rfl b9 ?_
      refine g_mem (fun M10 eM10 => ?_)
      have h := lt_e eM10 h
      refine g_aload_n C tb_X8_save_0_ok (i := 16) rfl rfl ?_
      obtain ⟨n11, h⟩ := gN_e h
      refine g_getR C tb_X8_save_0_ok (i := 17) rfl fl_X8_21 rfl k7 n11 ?_
      refine g_iconstv C tb_X8_save_0_ok (i := 18) 0 rfl k_iconstv_0 ?_
      refine g_aload_n C tb_X8_save_0_ok (i := 19) rfl rfl ?_
      refine g_iload_n C tb_X8_save_0_ok (i := 20) rfl rfl ?_
      refine g_bipushv C tb_X8_save_0_ok (i := 21) 30 rfl k_bipushv_30 ?_
      refine g_iadd C tb_X8_save_0_ok (i := 22) rfl ?_
      refine g_bipushv C tb_X8_save_0_ok (i := 23) 6 rfl k_bipushv_6 ?_
      obtain ⟨b12, h⟩ := gC_e h
      refine g_copy C tb_X8_save_0_ok (i := 24) rfl mt_X8_58 rfl b12 ?_
      refine g_mem (fun M13 eM13 => ?_)
      have h := lt_e eM13 h
      refine g_iload_n C tb_X8_save_0_ok (i := 25) rfl rfl ?_
      refine g_bipushv C tb_X8_save_0_ok (i := 26) 30 rfl k_bipushv_30 ?_
      refine g_iadd C tb_X8_save_0_ok (i := 27) rfl ?_
      refine g_bipushv C tb_X8_save_0_ok (i := 28) 6 rfl k_bipushv_6 ?_
      refine g_iadd C tb_X8_save_0_ok (i := 29) rfl ?_
      refine g_topi (fun v14 ev14 => ?_)
      have h := lt_e ev14 h
      refine g_istore_n C tb_X8_save_0_ok (i := 30) rfl rfl rfl ?_
      refine g_aload_n C tb_X8_save_0_ok (i := 31) rfl rfl ?_
      refine g_iload_n C tb_X8_save_0_ok (i := 32) rfl rfl ?_
      refine g_aload_n C tb_X8_save_0_ok (i := 33) rfl rfl ?_
      refine g_getI C tb_X8_save_0_ok (i := 34) rfl fl_X8_39 rfl k7 ?_
      obtain ⟨b15, h⟩ := gA_e h
      refine g_iast C tb_X8_save_0_ok (i := 35) rfl b15 ?_
      refine g_mem (fun M16 eM16 => ?_)
      have h := lt_e eM16 h
      refine g_aload_n C tb_X8_save_0_ok (i := 36) rfl rfl ?_
      refine g_iload_n C tb_X8_save_0_ok (i := 37) rfl rfl ?_
      refine g_iconstv C tb_X8_save_0_ok (i := 38) 1 rfl k_iconstv_1 ?_
      refine g_iadd C tb_X8_save_0_ok (i := 39) rfl ?_
      refine g_aload_n C tb_X8_save_1_ok (i := 0) rfl rfl ?_
      refine g_getI C tb_X8_save_1_ok (i := 1) rfl fl_X8_43 rfl k7 ?_
      obtain ⟨b17, h⟩ := gA_e h
      refine g_iast C tb_X8_save_1_ok (i := 2) rfl b17 ?_
      refine g_mem (fun M18 eM18 => ?_)
      have h := lt_e eM18 h
      refine g_aload_n C tb_X8_save_1_ok (i := 3) rfl rfl ?_
      refine g_iload_n C tb_X8_save_1_ok (i := 4) rfl rfl ?_
      refine g_iconstv C tb_X8_save_1_ok (i := 5) 2 rfl k_iconstv_2 ?_
      refine g_iadd C tb_X8_save_1_ok (i := 6) rfl ?_
      refine g_aload_n C tb_X8_save_1_ok (i := 7) rfl rfl ?_
      refine g_getI C tb_X8_save_1_ok (i := 8) rfl fl_X8_46 rfl k7 ?_
      obtain ⟨b19, h⟩ := gA_e h
      refine g_iast C tb_X8_save_1_ok (i := 9) rfl b19 ?_
      refine g_mem (fun M20 eM20 => ?_)
      have h := lt_e eM20 h
      refine g_aload_n C tb_X8_save_1_ok (i := 10) rfl rfl ?_
      refine g_iload_n C tb_X8_save_1_ok (i := 11) rfl rfl ?_
      refine g_iconstv C tb_X8_save_1_ok (i := 12) 3 rfl k_iconstv_3 ?_
      refine g_iadd C tb_X8_save_1_ok (i := 13) rfl ?_
      refine g_aload_n C tb_X8_save_1_ok (i := 14) rfl rfl ?_
      refine g_getI C tb_X8_save_1_ok (i := 15) rfl fl_X8_49 rfl k7 ?_
      obtain ⟨b21, h⟩ := gA_e h
      refine g_iast C tb_X8_save_1_ok (i := 16) rfl b21 ?_
      refine g_mem (fun M22 eM22 => ?_)
      have h := lt_e eM22 h
      refine g_aload_n C tb_X8_save_1_ok (i := 17) rfl rfl ?_
      refine g_iload_n C tb_X8_save_1_ok (i := 18) rfl rfl ?_
      refine g_iconstv C tb_X8_save_1_ok (i := 19) 4 rfl k_iconstv_4 ?_
      refine g_iadd C tb_X8_save_1_ok (i := 20) rfl ?_
      refine g_aload_n C tb_X8_save_1_ok (i := 21) rfl rfl ?_
      refine g_getI C tb_X8_save_1_ok (i := 22) rfl fl_X8_52 rfl k7 ?_
      obtain ⟨b23, h⟩ := gA_e h
      refine g_iast C tb_X8_save_1_ok (i := 23) rfl b23 ?_
      refine g_mem (fun M24 eM24 => ?_)
      have h := lt_e eM24 h
      cases h
      exact g_vret0 C R tb_X8_save_1_ok (i := 24) rfl
    · have h := f6 c
      exact g_less (L' := [none, none, none, none]) trivial (J13 () h)
def f_X0_keep (y : Lay) (a0 : Nat) (a1 : Nat) (M : Mem) : Option (Int32 × Mem) := gK y a0 (0, 0) (jn (fun (M2 : Mem) => gN (y.2.1 a0 0) (gK y a1 (0, 8) (c0 (f_X8_save y a1 (y.2.1 a0 0) ((M2.1 a0 1) * (41 : Int32)) M2) fun (r6 : Int32) (M7 : Mem) => lt (wI M7 a0 1 ((M7.1 a0 1) + (1 : Int32))) fun (M8 : Mem) => some (0, M8)))) fun j3 => br ((M.1 a0 1) < (40 : Int32)) (j3 M) (gN (y.2.1 a0 0) (gC y (y.2.1 a0 0) (y.2.1 a0 0) (41 : Int32) (0 : Int32) (1599 : Int32) (lt (cpI M (y.2.1 a0 0) (y.2.1 a0 0) (41 : Int32).toNatClampNeg (0 : Int32).toNatClampNeg (1599 : Int32).toNatClampNeg) fun (M13 : Mem) => lt (wI M13 a0 1 (39 : Int32)) fun (M14 : Mem) => j3 M14))))
theorem w_X0_keep {g : GX} {l : Launch} (hG : GF g l) (y : Lay) (a0 : Nat) (a1 : Nat) (M : Mem) : C0 g l yX0_keep cX0_keep 2 none 1 y [.ref a0, .ref a1] M (f_X0_keep y a0 a1 M) := by
  refine C0_of hG (by decide) [some (.ref a0), some (.ref a1)] rfl rfl (fun out h x Q C R => ?_)
  unfold f_X0_keep at h
  refine g_aload_n C tb_X0_keep_0_ok (i := 0) rfl rfl ?_
  obtain ⟨k1, h⟩ := gK_e h
  refine g_getI C tb_X0_keep_0_ok (i := 1) rfl fl_X0_17 rfl k1 ?_
  refine g_bipushv C tb_X0_keep_0_ok (i := 2) 40 rfl k_bipushv_40 ?_
  obtain ⟨j3, ej3, h⟩ := jn_e h
  have J32 : ∀ (M2 : Mem), j3 M2 = some out → GG g x 2 Q 0 0 y M2 32 [some (.ref a0), some (.ref a1)] [] := by
    intro M2 h; subst ej3
    refine g_aload_n C tb_X0_keep_0_ok (i := 15) rfl rfl ?_
    refine g_aload_n C tb_X0_keep_0_ok (i := 16) rfl rfl ?_
    obtain ⟨n4, h⟩ := gN_e h
    refine g_getR C tb_X0_keep_0_ok (i := 17) rfl fl_X0_11 rfl k1 n4 ?_
    refine g_aload_n C tb_X0_keep_0_ok (i := 18) rfl rfl ?_
    refine g_getI C tb_X0_keep_0_ok (i := 19) rfl fl_X0_17 rfl k1 ?_
    refine g_bipushv C tb_X0_keep_0_ok (i := 20) 41 rfl k_bipushv_41 ?_
    refine g_imul C tb_X0_keep_0_ok (i := 21) rfl ?_
    obtain ⟨k5, h⟩ := gK_e h
    obtain ⟨r6, M7, er6, h⟩ := c0_e h
    refine g_callV0 C tb_X0_keep_0_ok (i := 22) [.ref (y.2.1 a0 0), .int ((M2.1 a0 1) * (41 : Int32))] rfl mw_X8_save mv_X8_save ml_X0_27 k5 rfl rfl rfl rfl (w_X8_save C.G y a1 (y.2.1 a0 0) ((M2.1 a0 1) * (41 : Int32)) M2) er6 rfl rfl rfl ?_
    refine g_aload_n C tb_X0_keep_0_ok (i := 23) rfl rfl ?_
    refine g_dup C tb_X0_keep_0_ok (i := 24) rfl rfl ?_
    refine g_getI C tb_X0_keep_0_ok (i := 25) rfl fl_X0_17 rfl k1 ?_
    refine g_iconstv C tb_X0_keep_0_ok (i := 26) 1 rfl k_iconstv_1 ?_
    refine g_iadd C tb_X0_keep_0_ok (i := 27) rfl ?_
    refine g_putI C tb_X0_keep_0_ok (i := 28) rfl fl_X0_17 ft_0_1 rfl k1 ?_
    refine g_mem (fun M8 eM8 => ?_)
    have h := lt_e eM8 h
    cases h
    exact g_vret0 C R tb_X0_keep_0_ok (i := 29) rfl
  obtain ⟨t9, f10⟩ := br_e h
  refine g_icmp_lt C tb_X0_keep_0_ok (i := 3) 32 rfl rfl (fun c => ?_) (fun c => ?_)
  · have h := t9 c
    exact g_less (L' := [some (.ref a0), some (.ref a1)]) ⟨rfl, ⟨rfl, trivial⟩⟩ (J32 M h)
  · have h := f10 c
    refine g_aload_n C tb_X0_keep_0_ok (i := 4) rfl rfl ?_
    obtain ⟨n11, h⟩ := gN_e h
    refine g_getR C tb_X0_keep_0_ok (i := 5) rfl fl_X0_11 rfl k1 n11 ?_
    refine g_bipushv C tb_X0_keep_0_ok (i := 6) 41 rfl k_bipushv_41 ?_
    refine g_aload_n C tb_X0_keep_0_ok (i := 7) rfl rfl ?_
    refine g_getR C tb_X0_keep_0_ok (i := 8) rfl fl_X0_11 rfl k1 n11 ?_
    refine g_iconstv C tb_X0_keep_0_ok (i := 9) 0 rfl k_iconstv_0 ?_
    refine g_sipushv C tb_X0_keep_0_ok (i := 10) 1599 rfl k_sipushv_1599 ?_
    obtain ⟨b12, h⟩ := gC_e h
    refine g_copy C tb_X0_keep_0_ok (i := 11) rfl mt_X0_21 rfl b12 ?_
    refine g_mem (fun M13 eM13 => ?_)
    have h := lt_e eM13 h
    refine g_aload_n C tb_X0_keep_0_ok (i := 12) rfl rfl ?_
    refine g_bipushv C tb_X0_keep_0_ok (i := 13) 39 rfl k_bipushv_39 ?_
    refine g_putI C tb_X0_keep_0_ok (i := 14) rfl fl_X0_17 ft_0_1 rfl k1 ?_
    refine g_mem (fun M14 eM14 => ?_)
    have h := lt_e eM14 h
    exact g_less (L' := [some (.ref a0), some (.ref a1)]) ⟨rfl, ⟨rfl, trivial⟩⟩ (J32 M14 h)
def f_X4_keepAct (y : Lay) (a0 : Nat) (M : Mem) : Option (Int32 × Mem) := gK y a0 (0, 4) (gN (y.2.1 a0 1) (gN (y.2.1 a0 0) (gK y (y.2.1 a0 1) (0, 0) (c0 (f_X0_keep y (y.2.1 a0 1) (y.2.1 a0 0) M) fun (r5 : Int32) (M6 : Mem) => some (0, M6)))))
theorem w_X4_keepAct {g : GX} {l : Launch} (hG : GF g l) (y : Lay) (a0 : Nat) (M : Mem) : C0 g l yX4_keepAct cX4_keepAct 1 none 2 y [.ref a0] M (f_X4_keepAct y a0 M) := by
  refine C0_of hG (by decide) [some (.ref a0)] rfl rfl (fun out h x Q C R => ?_)
  unfold f_X4_keepAct at h
  refine g_aload_n C tb_X4_keepAct_0_ok (i := 0) rfl rfl ?_
  obtain ⟨k1, h⟩ := gK_e h
  obtain ⟨n2, h⟩ := gN_e h
  refine g_getR C tb_X4_keepAct_0_ok (i := 1) rfl fl_X4_12 rfl k1 n2 ?_
  refine g_aload_n C tb_X4_keepAct_0_ok (i := 2) rfl rfl ?_
  obtain ⟨n3, h⟩ := gN_e h
  refine g_getR C tb_X4_keepAct_0_ok (i := 3) rfl fl_X4_36 rfl k1 n3 ?_
  obtain ⟨k4, h⟩ := gK_e h
  obtain ⟨r5, M6, er5, h⟩ := c0_e h
  refine g_callV0 C tb_X4_keepAct_0_ok (i := 4) [.ref (y.2.1 a0 0)] rfl mw_X0_keep mv_X0_keep ml_X4_60 k4 rfl rfl rfl rfl (w_X0_keep C.G y (y.2.1 a0 1) (y.2.1 a0 0) M) er5 rfl rfl rfl ?_
  cases h
  exact g_vret0 C R tb_X4_keepAct_0_ok (i := 5) rfl
def f_X8_isResting (y : Lay) (a0 : Nat) (a1 : Int32) (M : Mem) : Option Int32 := gK y a0 (0, 8) (jn (fun (v2 : Int32) => gd (v2 = 0 ∨ v2 = 1) (some v2)) fun j3 => br ((((M.1 a0 8) >>> (a1 &&& 31)) &&& (1 : Int32)) = 0) (j3 (0 : Int32)) (j3 (1 : Int32)))
theorem w_X8_isResting {g : GX} {l : Launch} (hG : GF g l) (y : Lay) (a0 : Nat) (a1 : Int32) (M : Mem) : C0 g l yX8_isResting cX8_isResting 2 (some .boolean) 0 y [.ref a0, .int a1] M (pm M (f_X8_isResting y a0 a1 M)) := by
  refine CP_of hG (by decide) [some (.ref a0), some (.int a1)] rfl rfl (fun out h x Q C R => ?_)
  unfold f_X8_isResting at h
  refine g_aload_n C tb_X8_isResting_0_ok (i := 0) rfl rfl ?_
  obtain ⟨k1, h⟩ := gK_e h
  refine g_getI C tb_X8_isResting_0_ok (i := 1) rfl fl_X8_43 rfl k1 ?_
  refine g_iload_n C tb_X8_isResting_0_ok (i := 2) rfl rfl ?_
  refine g_ishr C tb_X8_isResting_0_ok (i := 3) rfl ?_
  refine g_iconstv C tb_X8_isResting_0_ok (i := 4) 1 rfl k_iconstv_1 ?_
  refine g_iand C tb_X8_isResting_0_ok (i := 5) rfl ?_
  obtain ⟨j3, ej3, h⟩ := jn_e h
  have J16 : ∀ (v2 : Int32), j3 v2 = some out → GG g x 2 Q 0 0 y M 16 [none, none] [.int v2] := by
    intro v2 h; subst ej3
    obtain ⟨hz, h⟩ := gd_e h
    cases h
    exact g_zret0 C R hz tb_X8_isResting_0_ok (i := 10) rfl
  obtain ⟨t4, f5⟩ := br_e h
  refine g_if_eq C tb_X8_isResting_0_ok (i := 6) 15 rfl rfl (fun c => ?_) (fun c => ?_)
  · have h := t4 c
    refine g_iconstv C tb_X8_isResting_0_ok (i := 9) 0 rfl k_iconstv_0 ?_
    exact g_less (L' := [none, none]) trivial (J16 (0 : Int32) h)
  · have h := f5 c
    refine g_iconstv C tb_X8_isResting_0_ok (i := 7) 1 rfl k_iconstv_1 ?_
    refine g_goto C tb_X8_isResting_0_ok (i := 8) 16 rfl rfl ?_
    exact g_less (L' := [none, none]) trivial (J16 (1 : Int32) h)
def f_X5_isTold (y : Lay) (a0 : Nat) (M : Mem) : Option Int32 := gK y a0 (0, 5) (jn (fun (v2 : Int32) => gd (v2 = 0 ∨ v2 = 1) (some v2)) fun j3 => br ((M.1 a0 2) ≤ 0) (j3 (0 : Int32)) (j3 (1 : Int32)))
theorem w_X5_isTold {g : GX} {l : Launch} (hG : GF g l) (y : Lay) (a0 : Nat) (M : Mem) : C0 g l yX5_isTold cX5_isTold 1 (some .boolean) 0 y [.ref a0] M (pm M (f_X5_isTold y a0 M)) := by
  refine CP_of hG (by decide) [some (.ref a0)] rfl rfl (fun out h x Q C R => ?_)
  unfold f_X5_isTold at h
  refine g_aload_n C tb_X5_isTold_0_ok (i := 0) rfl rfl ?_
  obtain ⟨k1, h⟩ := gK_e h
  refine g_getI C tb_X5_isTold_0_ok (i := 1) rfl fl_X5_18 rfl k1 ?_
  obtain ⟨j3, ej3, h⟩ := jn_e h
  have J12 : ∀ (v2 : Int32), j3 v2 = some out → GG g x 1 Q 0 0 y M 12 [none] [.int v2] := by
    intro v2 h; subst ej3
    obtain ⟨hz, h⟩ := gd_e h
    cases h
    exact g_zret0 C R hz tb_X5_isTold_0_ok (i := 6) rfl
  obtain ⟨t4, f5⟩ := br_e h
  refine g_if_le C tb_X5_isTold_0_ok (i := 2) 11 rfl rfl (fun c => ?_) (fun c => ?_)
  · have h := t4 c
    refine g_iconstv C tb_X5_isTold_0_ok (i := 5) 0 rfl k_iconstv_0 ?_
    exact g_less (L' := [none]) trivial (J12 (0 : Int32) h)
  · have h := f5 c
    refine g_iconstv C tb_X5_isTold_0_ok (i := 3) 1 rfl k_iconstv_1 ?_
    refine g_goto C tb_X5_isTold_0_ok (i := 4) 12 rfl rfl ?_
    exact g_less (L' := [none]) trivial (J12 (1 : Int32) h)
def f_X8_skillOf (y : Lay) (a0 : Nat) (a1 : Int32) (M : Mem) : Option Int32 := jn (fun (v1 : Int32) => some v1) fun j2 => jn (fun (_u : Unit) => j2 (0 : Int32)) fun j3 => br (a1 < 0) (j3 ()) (br ((6 : Int32) ≤ a1) (j3 ()) (gK y a0 (0, 8) (gN (y.2.1 a0 5) (gA y (y.2.1 a0 5) 1 a1 (j2 (M.1 (y.2.1 a0 5) a1.toNatClampNeg))))))
theorem w_X8_skillOf {g : GX} {l : Launch} (hG : GF g l) (y : Lay) (a0 : Nat) (a1 : Int32) (M : Mem) : C0 g l yX8_skillOf cX8_skillOf 2 (some .int) 0 y [.ref a0, .int a1] M (pm M (f_X8_skillOf y a0 a1 M)) := by
  refine CP_of hG (by decide) [some (.ref a0), some (.int a1)] rfl rfl (fun out h x Q C R => ?_)
  unfold f_X8_skillOf at h
  refine g_iload_n C tb_X8_skillOf_0_ok (i := 0) rfl rfl ?_
  obtain ⟨j2, ej2, h⟩ := jn_e h
  have J20 : ∀ (v1 : Int32), j2 v1 = some out → GG g x 2 Q 0 0 y M 20 [none, none] [.int v1] := by
    intro v1 h; subst ej2
    cases h
    exact g_iret0 C R tb_X8_skillOf_0_ok (i := 11) rfl
  obtain ⟨j3, ej3, h⟩ := jn_e h
  have J19 : ∀ (_u : Unit), j3 _u = some out → GG g x 2 Q 0 0 y M 19 [none, none] [] := by
    intro _u h; subst ej3
    refine g_iconstv C tb_X8_skillOf_0_ok (i := 10) 0 rfl k_iconstv_0 ?_
    exact g_less (L' := [none, none]) trivial (J20 (0 : Int32) h)
  obtain ⟨t4, f5⟩ := br_e h
  refine g_if_lt C tb_X8_skillOf_0_ok (i := 1) 19 rfl rfl (fun c => ?_) (fun c => ?_)
  · have h := t4 c
    exact g_less (L' := [none, none]) trivial (J19 () h)
  · have h := f5 c
    refine g_iload_n C tb_X8_skillOf_0_ok (i := 2) rfl rfl ?_
    refine g_bipushv C tb_X8_skillOf_0_ok (i := 3) 6 rfl k_bipushv_6 ?_
    obtain ⟨t6, f7⟩ := br_e h
    refine g_icmp_ge C tb_X8_skillOf_0_ok (i := 4) 19 rfl rfl (fun c => ?_) (fun c => ?_)
    · have h := t6 c
      exact g_less (L' := [none, none]) trivial (J19 () h)
    · have h := f7 c
      refine g_aload_n C tb_X8_skillOf_0_ok (i := 5) rfl rfl ?_
      obtain ⟨k8, h⟩ := gK_e h
      obtain ⟨n9, h⟩ := gN_e h
      refine g_getR C tb_X8_skillOf_0_ok (i := 6) rfl fl_X8_24 rfl k8 n9 ?_
      refine g_iload_n C tb_X8_skillOf_0_ok (i := 7) rfl rfl ?_
      obtain ⟨b10, h⟩ := gA_e h
      refine g_iald C tb_X8_skillOf_0_ok (i := 8) rfl b10 ?_
      refine g_goto C tb_X8_skillOf_0_ok (i := 9) 20 rfl rfl ?_
      exact g_less (L' := [none, none]) trivial (J20 (M.1 (y.2.1 a0 5) a1.toNatClampNeg) h)
def f_X8_spotOf (y : Lay) (a0 : Nat) (a1 : Int32) (M : Mem) : Option Int32 := jn (fun (v1 : Int32) => some v1) fun j2 => jn (fun (_u : Unit) => j2 (0 : Int32)) fun j3 => br (a1 < 0) (j3 ()) (br ((6 : Int32) ≤ a1) (j3 ()) (gK y a0 (0, 8) (gN (y.2.1 a0 4) (gA y (y.2.1 a0 4) 1 a1 (j2 (M.1 (y.2.1 a0 4) a1.toNatClampNeg))))))
theorem w_X8_spotOf {g : GX} {l : Launch} (hG : GF g l) (y : Lay) (a0 : Nat) (a1 : Int32) (M : Mem) : C0 g l yX8_spotOf cX8_spotOf 2 (some .int) 0 y [.ref a0, .int a1] M (pm M (f_X8_spotOf y a0 a1 M)) := by
  refine CP_of hG (by decide) [some (.ref a0), some (.int a1)] rfl rfl (fun out h x Q C R => ?_)
  unfold f_X8_spotOf at h
  refine g_iload_n C tb_X8_spotOf_0_ok (i := 0) rfl rfl ?_
  obtain ⟨j2, ej2, h⟩ := jn_e h
  have J20 : ∀ (v1 : Int32), j2 v1 = some out → GG g x 2 Q 0 0 y M 20 [none, none] [.int v1] := by
    intro v1 h; subst ej2
    cases h
    exact g_iret0 C R tb_X8_spotOf_0_ok (i := 11) rfl
  obtain ⟨j3, ej3, h⟩ := jn_e h
  have J19 : ∀ (_u : Unit), j3 _u = some out → GG g x 2 Q 0 0 y M 19 [none, none] [] := by
    intro _u h; subst ej3
    refine g_iconstv C tb_X8_spotOf_0_ok (i := 10) 0 rfl k_iconstv_0 ?_
    exact g_less (L' := [none, none]) trivial (J20 (0 : Int32) h)
  obtain ⟨t4, f5⟩ := br_e h
  refine g_if_lt C tb_X8_spotOf_0_ok (i := 1) 19 rfl rfl (fun c => ?_) (fun c => ?_)
  · have h := t4 c
    exact g_less (L' := [none, none]) trivial (J19 () h)
  · have h := f5 c
    refine g_iload_n C tb_X8_spotOf_0_ok (i := 2) rfl rfl ?_
    refine g_bipushv C tb_X8_spotOf_0_ok (i := 3) 6 rfl k_bipushv_6 ?_
    obtain ⟨t6, f7⟩ := br_e h
    refine g_icmp_ge C tb_X8_spotOf_0_ok (i := 4) 19 rfl rfl (fun c => ?_) (fun c => ?_)
    · have h := t6 c
      exact g_less (L' := [none, none]) trivial (J19 () h)
    · have h := f7 c
      refine g_aload_n C tb_X8_spotOf_0_ok (i := 5) rfl rfl ?_
      obtain ⟨k8, h⟩ := gK_e h
      obtain ⟨n9, h⟩ := gN_e h
      refine g_getR C tb_X8_spotOf_0_ok (i := 6) rfl fl_X8_21 rfl k8 n9 ?_
      refine g_iload_n C tb_X8_spotOf_0_ok (i := 7) rfl rfl ?_
      obtain ⟨b10, h⟩ := gA_e h
      refine g_iald C tb_X8_spotOf_0_ok (i := 8) rfl b10 ?_
      refine g_goto C tb_X8_spotOf_0_ok (i := 9) 20 rfl rfl ?_
      exact g_less (L' := [none, none]) trivial (J20 (M.1 (y.2.1 a0 4) a1.toNatClampNeg) h)
def f_X1_besideBits (y : Lay) (a0 : Nat) (a1 : Int32) (M : Mem) : Option Int32 := jn (fun (v1 : Int32) => some v1) fun j2 => jn (fun (_u : Unit) => j2 (0 : Int32)) fun j3 => br (a1 < 0) (j3 ()) (br ((30 : Int32) ≤ a1) (j3 ()) (gK y a0 (0, 1) (gN (y.2.1 a0 6) (gA y (y.2.1 a0 6) 1 a1 (j2 (M.1 (y.2.1 a0 6) a1.toNatClampNeg))))))
theorem w_X1_besideBits {g : GX} {l : Launch} (hG : GF g l) (y : Lay) (a0 : Nat) (a1 : Int32) (M : Mem) : C0 g l yX1_besideBits cX1_besideBits 2 (some .int) 0 y [.ref a0, .int a1] M (pm M (f_X1_besideBits y a0 a1 M)) := by
  refine CP_of hG (by decide) [some (.ref a0), some (.int a1)] rfl rfl (fun out h x Q C R => ?_)
  unfold f_X1_besideBits at h
  refine g_iload_n C tb_X1_besideBits_0_ok (i := 0) rfl rfl ?_
  obtain ⟨j2, ej2, h⟩ := jn_e h
  have J20 : ∀ (v1 : Int32), j2 v1 = some out → GG g x 2 Q 0 0 y M 20 [none, none] [.int v1] := by
    intro v1 h; subst ej2
    cases h
    exact g_iret0 C R tb_X1_besideBits_0_ok (i := 11) rfl
  obtain ⟨j3, ej3, h⟩ := jn_e h
  have J19 : ∀ (_u : Unit), j3 _u = some out → GG g x 2 Q 0 0 y M 19 [none, none] [] := by
    intro _u h; subst ej3
    refine g_iconstv C tb_X1_besideBits_0_ok (i := 10) 0 rfl k_iconstv_0 ?_
    exact g_less (L' := [none, none]) trivial (J20 (0 : Int32) h)
  obtain ⟨t4, f5⟩ := br_e h
  refine g_if_lt C tb_X1_besideBits_0_ok (i := 1) 19 rfl rfl (fun c => ?_) (fun c => ?_)
  · have h := t4 c
    exact g_less (L' := [none, none]) trivial (J19 () h)
  · have h := f5 c
    refine g_iload_n C tb_X1_besideBits_0_ok (i := 2) rfl rfl ?_
    refine g_bipushv C tb_X1_besideBits_0_ok (i := 3) 30 rfl k_bipushv_30 ?_
    obtain ⟨t6, f7⟩ := br_e h
    refine g_icmp_ge C tb_X1_besideBits_0_ok (i := 4) 19 rfl rfl (fun c => ?_) (fun c => ?_)
    · have h := t6 c
      exact g_less (L' := [none, none]) trivial (J19 () h)
    · have h := f7 c
      refine g_aload_n C tb_X1_besideBits_0_ok (i := 5) rfl rfl ?_
      obtain ⟨k8, h⟩ := gK_e h
      obtain ⟨n9, h⟩ := gN_e h
      refine g_getR C tb_X1_besideBits_0_ok (i := 6) rfl fl_X1_9 rfl k8 n9 ?_
      refine g_iload_n C tb_X1_besideBits_0_ok (i := 7) rfl rfl ?_
      obtain ⟨b10, h⟩ := gA_e h
      refine g_iald C tb_X1_besideBits_0_ok (i := 8) rfl b10 ?_
      refine g_goto C tb_X1_besideBits_0_ok (i := 9) 20 rfl rfl ?_
      exact g_less (L' := [none, none]) trivial (J20 (M.1 (y.2.1 a0 6) a1.toNatClampNeg) h)
def f_X8_blueOf (y : Lay) (a0 : Nat) (a1 : Int32) (M : Mem) : Option Int32 := jn (fun (v1 : Int32) => some v1) fun j2 => jn (fun (_u : Unit) => j2 (0 : Int32)) fun j3 => br (a1 < 0) (j3 ()) (br ((30 : Int32) ≤ a1) (j3 ()) (gK y a0 (0, 8) (gN (y.2.1 a0 1) (gA y (y.2.1 a0 1) 1 a1 (j2 (M.1 (y.2.1 a0 1) a1.toNatClampNeg))))))
theorem w_X8_blueOf {g : GX} {l : Launch} (hG : GF g l) (y : Lay) (a0 : Nat) (a1 : Int32) (M : Mem) : C0 g l yX8_blueOf cX8_blueOf 2 (some .int) 0 y [.ref a0, .int a1] M (pm M (f_X8_blueOf y a0 a1 M)) := by
  refine CP_of hG (by decide) [some (.ref a0), some (.int a1)] rfl rfl (fun out h x Q C R => ?_)
  unfold f_X8_blueOf at h
  refine g_iload_n C tb_X8_blueOf_0_ok (i := 0) rfl rfl ?_
  obtain ⟨j2, ej2, h⟩ := jn_e h
  have J20 : ∀ (v1 : Int32), j2 v1 = some out → GG g x 2 Q 0 0 y M 20 [none, none] [.int v1] := by
    intro v1 h; subst ej2
    cases h
    exact g_iret0 C R tb_X8_blueOf_0_ok (i := 11) rfl
  obtain ⟨j3, ej3, h⟩ := jn_e h
  have J19 : ∀ (_u : Unit), j3 _u = some out → GG g x 2 Q 0 0 y M 19 [none, none] [] := by
    intro _u h; subst ej3
    refine g_iconstv C tb_X8_blueOf_0_ok (i := 10) 0 rfl k_iconstv_0 ?_
    exact g_less (L' := [none, none]) trivial (J20 (0 : Int32) h)
  obtain ⟨t4, f5⟩ := br_e h
  refine g_if_lt C tb_X8_blueOf_0_ok (i := 1) 19 rfl rfl (fun c => ?_) (fun c => ?_)
  · have h := t4 c
    exact g_less (L' := [none, none]) trivial (J19 () h)
  · have h := f5 c
    refine g_iload_n C tb_X8_blueOf_0_ok (i := 2) rfl rfl ?_
    refine g_bipushv C tb_X8_blueOf_0_ok (i := 3) 30 rfl k_bipushv_30 ?_
    obtain ⟨t6, f7⟩ := br_e h
    refine g_icmp_ge C tb_X8_blueOf_0_ok (i := 4) 19 rfl rfl (fun c => ?_) (fun c => ?_)
    · have h := t6 c
      exact g_less (L' := [none, none]) trivial (J19 () h)
    · have h := f7 c
      refine g_aload_n C tb_X8_blueOf_0_ok (i := 5) rfl rfl ?_
      obtain ⟨k8, h⟩ := gK_e h
      obtain ⟨n9, h⟩ := gN_e h
      refine g_getR C tb_X8_blueOf_0_ok (i := 6) rfl fl_X8_9 rfl k8 n9 ?_
      refine g_iload_n C tb_X8_blueOf_0_ok (i := 7) rfl rfl ?_
      obtain ⟨b10, h⟩ := gA_e h
      refine g_iald C tb_X8_blueOf_0_ok (i := 8) rfl b10 ?_
      refine g_goto C tb_X8_blueOf_0_ok (i := 9) 20 rfl rfl ?_
      exact g_less (L' := [none, none]) trivial (J20 (M.1 (y.2.1 a0 1) a1.toNatClampNeg) h)
def f_X1_rowOf (y : Lay) (a0 : Nat) (a1 : Int32) (M : Mem) : Option Int32 := gK y a0 (0, 1) (jn (fun (v2 : Int32) => some v2) fun j3 => br ((M.1 a0 0) ≤ 0) (j3 (0 : Int32)) (gd (¬ (M.1 a0 0) = 0) (j3 (a1 / (M.1 a0 0)))))
theorem w_X1_rowOf {g : GX} {l : Launch} (hG : GF g l) (y : Lay) (a0 : Nat) (a1 : Int32) (M : Mem) : C0 g l yX1_rowOf cX1_rowOf 2 (some .int) 0 y [.ref a0, .int a1] M (pm M (f_X1_rowOf y a0 a1 M)) := by
  refine CP_of hG (by decide) [some (.ref a0), some (.int a1)] rfl rfl (fun out h x Q C R => ?_)
  unfold f_X1_rowOf at h
  refine g_aload_n C tb_X1_rowOf_0_ok (i := 0) rfl rfl ?_
  obtain ⟨k1, h⟩ := gK_e h
  refine g_getI C tb_X1_rowOf_0_ok (i := 1) rfl fl_X1_48 rfl k1 ?_
  obtain ⟨j3, ej3, h⟩ := jn_e h
  have J17 : ∀ (v2 : Int32), j3 v2 = some out → GG g x 2 Q 0 0 y M 17 [none, none] [.int v2] := by
    intro v2 h; subst ej3
    cases h
    exact g_iret0 C R tb_X1_rowOf_0_ok (i := 9) rfl
  obtain ⟨t4, f5⟩ := br_e h
  refine g_if_le C tb_X1_rowOf_0_ok (i := 2) 16 rfl rfl (fun c => ?_) (fun c => ?_)
  · have h := t4 c
    refine g_iconstv C tb_X1_rowOf_0_ok (i := 8) 0 rfl k_iconstv_0 ?_
    exact g_less (L' := [none, none]) trivial (J17 (0 : Int32) h)
  · have h := f5 c
    refine g_iload_n C tb_X1_rowOf_0_ok (i := 3) rfl rfl ?_
    refine g_aload_n C tb_X1_rowOf_0_ok (i := 4) rfl rfl ?_
    refine g_getI C tb_X1_rowOf_0_ok (i := 5) rfl fl_X1_48 rfl k1 ?_
    obtain ⟨n6, h⟩ := gd_e h
    refine g_idiv C tb_X1_rowOf_0_ok (i := 6) rfl n6 ?_
    refine g_goto C tb_X1_rowOf_0_ok (i := 7) 17 rfl rfl ?_
    exact g_less (L' := [none, none]) trivial (J17 (a1 / (M.1 a0 0)) h)
def f_X8_setValues (y : Lay) (a0 : Nat) (a1 : Int32) (M : Mem) : Option (Int32 × Mem) := gK y a0 (0, 8) (gN (y.2.1 a0 0) (gK y (y.2.1 a0 0) (0, 1) (cp (f_X1_besideBits y (y.2.1 a0 0) a1 M) fun (r4 : Int32) => fixN (fun _ _ => none) (fun (s7 : Int32 → Int32 → Option (Int32 × Mem)) (v5 : Int32) (v6 : Int32) => br ((30 : Int32) ≤ v6) (gN (y.2.1 a0 6) (cp (f_X8_blueOf y a0 a1 M) fun (r12 : Int32) => gA y (y.2.1 a0 6) 1 (0 : Int32) (lt (wI M (y.2.1 a0 6) (0 : Int32).toNatClampNeg r12) fun (M14 : Mem) => gA y (y.2.1 a0 6) 1 (1 : Int32) (lt (wI M14 (y.2.1 a0 6) (1 : Int32).toNatClampNeg v5) fun (M16 : Mem) => cp (f_X1_rowOf y (y.2.1 a0 0) a1 M16) fun (r17 : Int32) => gA y (y.2.1 a0 6) 1 (2 : Int32) (lt (wI M16 (y.2.1 a0 6) (2 : Int32).toNatClampNeg r17) fun (M19 : Mem) => gA y (y.2.1 a0 6) 1 (3 : Int32) (lt (wI M19 (y.2.1 a0 6) (3 : Int32).toNatClampNeg (M19.1 a0 11)) fun (M21 : Mem) => some (0, M21))))))) (jn (fun (v22 : Int32) => lt (v6 + (1 : Int32)) fun (v24 : Int32) => s7 v22 v24) fun j23 => br (((r4 >>> (v6 &&& 31)) &&& (1 : Int32)) = 0) (j23 v5) (gN (y.2.1 a0 1) (gA y (y.2.1 a0 1) 1 v6 (lt (v5 + (M.1 (y.2.1 a0 1) v6.toNatClampNeg)) fun (v29 : Int32) => j23 v29))))) FUEL (0 : Int32) (0 : Int32))))
theorem w_X8_setValues {g : GX} {l : Launch} (hG : GF g l) (y : Lay) (a0 : Nat) (a1 : Int32) (M : Mem) : C0 g l yX8_setValues cX8_setValues 5 none 1 y [.ref a0, .int a1] M (f_X8_setValues y a0 a1 M) := by
  refine C0_of hG (by decide) [some (.ref a0), some (.int a1), none, none, none] rfl rfl (fun out h x Q C R => ?_)
  unfold f_X8_setValues at h
  refine g_aload_n C tb_X8_setValues_0_ok (i := 0) rfl rfl ?_
  obtain ⟨k1, h⟩ := gK_e h
  obtain ⟨n2, h⟩ := gN_e h
  refine g_getR C tb_X8_setValues_0_ok (i := 1) rfl fl_X8_32 rfl k1 n2 ?_
  refine g_iload_n C tb_X8_setValues_0_ok (i := 2) rfl rfl ?_
  obtain ⟨k3, h⟩ := gK_e h
  obtain ⟨r4, er4, h⟩ := cp_e h
  refine g_callV0 C tb_X8_setValues_0_ok (i := 3) [.int a1] rfl mw_X1_besideBits mv_X1_besideBits ml_X8_144 k3 rfl rfl rfl rfl (w_X1_besideBits C.G y (y.2.1 a0 0) a1 M) (pm_s er4) rfl rfl rfl ?_
  refine g_istore_n C tb_X8_setValues_0_ok (i := 4) rfl rfl rfl ?_
  refine g_iconstv C tb_X8_setValues_0_ok (i := 5) 0 rfl k_iconstv_0 ?_
  refine g_istore_n C tb_X8_setValues_0_ok (i := 6) rfl rfl rfl ?_
  refine g_iconstv C tb_X8_setValues_0_ok (i := 7) 0 rfl k_iconstv_0 ?_
  refine g_istore C tb_X8_setValues_0_ok (i := 8) rfl rfl rfl ?_
  refine g_less (L' := [some (.ref a0), some (.int a1), some (.int r4), some (.int (0 : Int32)), some (.int (0 : Int32))]) ⟨rfl, ⟨rfl, ⟨rfl, ⟨rfl, ⟨rfl, trivial⟩⟩⟩⟩⟩ ?_
  refine fix_i (P := fun (f : Int32 → Int32 → Option (Int32 × Mem)) => ∀ (v5 : Int32) (v6 : Int32), f v5 v6 = some out → GG g x 5 Q 0 0 y M 14 [some (.ref a0), some (.int a1), some (.int r4), some (.int v5), some (.int v6)] []) ?_ ?_ _ (0 : Int32) (0 : Int32) h
  · intro v5 v6 h; exact (nn_e h).elim
  · intro s7 ih8 v5 v6 h
    refine g_iload C tb_X8_setValues_0_ok (i := 9) rfl rfl ?_
    refine g_bipushv C tb_X8_setValues_0_ok (i := 10) 30 rfl k_bipushv_30 ?_
    obtain ⟨t9, f10⟩ := br_e h
    refine g_icmp_ge C tb_X8_setValues_0_ok (i := 11) 46 rfl rfl (fun c => ?_) (fun c => ?_)
    · have h := t9 c
      refine g_aload_n C tb_X8_setValues_0_ok (i := 27) rfl rfl ?_
      obtain ⟨n11, h⟩ := gN_e h
      refine g_getR C tb_X8_setValues_0_ok (i := 28) rfl fl_X8_29 rfl k1 n11 ?_
      refine g_iconstv C tb_X8_setValues_0_ok (i := 29) 0 rfl k_iconstv_0 ?_
      refine g_aload_n C tb_X8_setValues_0_ok (i := 30) rfl rfl ?_
      refine g_iload_n C tb_X8_setValues_0_ok (i := 31) rfl rfl ?_
      obtain ⟨r12, er12, h⟩ := cp_e h
      refine g_callV0 C tb_X8_setValues_0_ok (i := 32) [.int a1] rfl mw_X8_blueOf mv_X8_blueOf ml_X8_118 k1 rfl rfl rfl rfl (w_X8_blueOf C.G y a0 a1 M) (pm_s er12) rfl rfl rfl ?_
      obtain ⟨b13, h⟩ := gA_e h
      refine g_iast C tb_X8_setValues_0_ok (i := 33) rfl b13 ?_
      refine g_mem (fun M14 eM14 => ?_)
      have h := lt_e eM14 h
      refine g_aload_n C tb_X8_setValues_0_ok (i := 34) rfl rfl ?_
      refine g_getR C tb_X8_setValues_0_ok (i := 35) rfl fl_X8_29 rfl k1 n11 ?_
      refine g_iconstv C tb_X8_setValues_0_ok (i := 36) 1 rfl k_iconstv_1 ?_
      refine g_iload_n C tb_X8_setValues_0_ok (i := 37) rfl rfl ?_
      obtain ⟨b15, h⟩ := gA_e h
      refine g_iast C tb_X8_setValues_0_ok (i := 38) rfl b15 ?_
      refine g_mem (fun M16 eM16 => ?_)
      have h := lt_e eM16 h
      refine g_aload_n C tb_X8_setValues_0_ok (i := 39) rfl rfl ?_
      refine g_getR C tb_X8_setValues_1_ok (i := 0) rfl fl_X8_29 rfl k1 n11 ?_
      refine g_iconstv C tb_X8_setValues_1_ok (i := 1) 2 rfl k_iconstv_2 ?_
      refine g_aload_n C tb_X8_setValues_1_ok (i := 2) rfl rfl ?_
      refine g_getR C tb_X8_setValues_1_ok (i := 3) rfl fl_X8_32 rfl k1 n2 ?_
      refine g_iload_n C tb_X8_setValues_1_ok (i := 4) rfl rfl ?_
      obtain ⟨r17, er17, h⟩ := cp_e h
      refine g_callV0 C tb_X8_setValues_1_ok (i := 5) [.int a1] rfl mw_X1_rowOf mv_X1_rowOf ml_X8_160 k3 rfl rfl rfl rfl (w_X1_rowOf C.G y (y.2.1 a0 0) a1 M16) (pm_s er17) rfl rfl rfl ?_
      obtain ⟨b18, h⟩ := gA_e h
      refine g_iast C tb_X8_setValues_1_ok (i := 6) rfl b18 ?_
      refine g_mem (fun M19 eM19 => ?_)
      have h := lt_e eM19 h
      refine g_aload_n C tb_X8_setValues_1_ok (i := 7) rfl rfl ?_
      refine g_getR C tb_X8_setValues_1_ok (i := 8) rfl fl_X8_29 rfl k1 n11 ?_
      refine g_iconstv C tb_X8_setValues_1_ok (i := 9) 3 rfl k_iconstv_3 ?_
      refine g_aload_n C tb_X8_setValues_1_ok (i := 10) rfl rfl ?_
      refine g_getI C tb_X8_setValues_1_ok (i := 11) rfl fl_X8_52 rfl k1 ?_
      obtain ⟨b20, h⟩ := gA_e h
      refine g_iast C tb_X8_setValues_1_ok (i := 12) rfl b20 ?_
      refine g_mem (fun M21 eM21 => ?_)
      have h := lt_e eM21 h
      cases h
      exact g_vret0 C R tb_X8_setValues_1_ok (i := 13) rfl
    · have h := f10 c
      refine g_iload_n C tb_X8_setValues_0_ok (i := 12) rfl rfl ?_
      refine g_iload C tb_X8_setValues_0_ok (i := 13) rfl rfl ?_
      refine g_ishr C tb_X8_setValues_0_ok (i := 14) rfl ?_
      refine g_iconstv C tb_X8_setValues_0_ok (i := 15) 1 rfl k_iconstv_1 ?_
      refine g_iand C tb_X8_setValues_0_ok (i := 16) rfl ?_
      obtain ⟨j23, ej23, h⟩ := jn_e h
      have J40 : ∀ (v22 : Int32), j23 v22 = some out → GG g x 5 Q 0 0 y M 40 [some (.ref a0), some (.int a1), some (.int r4), some (.int v22), some (.int v6)] [] := by
        intro v22 h; subst ej23
        obtain ⟨v24, ev24⟩ : ∃ w : Int32, w = v6 + (1 : Int32) := ⟨_, rfl⟩
        have h := lt_e ev24 h
        refine g_iincv C tb_X8_setValues_0_ok (i := 25) (1 : Int32) ev24 rfl rfl k_iconstv_1 rfl rfl ?_
        refine g_goto C tb_X8_setValues_0_ok (i := 26) 14 rfl rfl ?_
        exact g_less (L' := [some (.ref a0), some (.int a1), some (.int r4), some (.int v22), some (.int v24)]) ⟨rfl, ⟨rfl, ⟨rfl, ⟨rfl, ⟨rfl, trivial⟩⟩⟩⟩⟩ (ih8 v22 v24 h)
      obtain ⟨t25, f26⟩ := br_e h
      refine g_if_eq C tb_X8_setValues_0_ok (i := 17) 40 rfl rfl (fun c => ?_) (fun c => ?_)
      · have h := t25 c
        exact g_less (L' := [some (.ref a0), some (.int a1), some (.int r4), some (.int v5), some (.int v6)]) ⟨rfl, ⟨rfl, ⟨rfl, ⟨rfl, ⟨rfl, trivial⟩⟩⟩⟩⟩ (J40 v5 h)
      · have h := f26 c
        refine g_iload_n C tb_X8_setValues_0_ok (i := 18) rfl rfl ?_
        refine g_aload_n C tb_X8_setValues_0_ok (i := 19) rfl rfl ?_
        obtain ⟨n27, h⟩ := gN_e h
        refine g_getR C tb_X8_setValues_0_ok (i := 20) rfl fl_X8_9 rfl k1 n27 ?_
        refine g_iload C tb_X8_setValues_0_ok (i := 21) rfl rfl ?_
        obtain ⟨b28, h⟩ := gA_e h
        refine g_iald C tb_X8_setValues_0_ok (i := 22) rfl b28 ?_
        refine g_iadd C tb_X8_setValues_0_ok (i := 23) rfl ?_
        refine g_topi (fun v29 ev29 => ?_)
        have h := lt_e ev29 h
        refine g_istore_n C tb_X8_setValues_0_ok (i := 24) rfl rfl rfl ?_
        exact g_less (L' := [some (.ref a0), some (.int a1), some (.int r4), some (.int v29), some (.int v6)]) ⟨rfl, ⟨rfl, ⟨rfl, ⟨rfl, ⟨rfl, trivial⟩⟩⟩⟩⟩ (J40 v29 h)
def f_X5_joined (y : Lay) (a0 : Int32) (a1 : Int32) (a2 : Int32) (M : Mem) : Option Int32 := br (a0 < ((-18) : Int32) ∨ ((-11) : Int32) < a0) (jn (fun (v3 : Int32) => some v3) fun j4 => br (a2 = 0) (j4 (0 : Int32)) (gd (¬ a2 = 0) (j4 (a1 / a2)))) (br (a0 = ((-18) : Int32)) (some (a1 * a2)) (br (a0 = ((-17) : Int32)) (some (a1 - a2)) (br (a0 = ((-16) : Int32)) (some (a1 + a2)) (br (a0 = ((-15) : Int32)) (jn (fun (v14 : Int32) => some v14) fun j15 => br (a1 = a2) (j15 (1 : Int32)) (j15 (0 : Int32))) (br (a0 = ((-14) : Int32)) (jn (fun (v20 : Int32) => some v20) fun j21 => br (a2 ≤ a1) (j21 (0 : Int32)) (j21 (1 : Int32))) (br (a0 = ((-13) : Int32)) (jn (fun (v26 : Int32) => some v26) fun j27 => br (a2 = 0) (j27 (0 : Int32)) (gd (¬ a2 = 0) (j27 (a1 / a2)))) (br (a0 = ((-12) : Int32)) (jn (fun (v33 : Int32) => some v33) fun j34 => jn (fun (_u : Unit) => j34 (0 : Int32)) fun j35 => br (a1 = 0) (j35 ()) (br (a2 = 0) (j35 ()) (j34 (1 : Int32)))) (jn (fun (v42 : Int32) => some v42) fun j43 => jn (fun (_u : Unit) => j43 (1 : Int32)) fun j44 => br (a1 = 0) (br (a2 = 0) (j43 (0 : Int32)) (j44 ())) (j44 ())))))))))
theorem w_X5_joined {g : GX} {l : Launch} (hG : GF g l) (y : Lay) (a0 : Int32) (a1 : Int32) (a2 : Int32) (M : Mem) : C0 g l yX5_joined cX5_joined 3 (some .int) 0 y [.int a0, .int a1, .int a2] M (pm M (f_X5_joined y a0 a1 a2 M)) := by
  refine CP_of hG (by decide) [some (.int a0), some (.int a1), some (.int a2)] rfl rfl (fun out h x Q C R => ?_)
  unfold f_X5_joined at h
  refine g_iload_n C tb_X5_joined_0_ok (i := 0) rfl rfl ?_
  obtain ⟨t1, f2⟩ := br_e h
  by_cases hsw : a0 < ((-18) : Int32) ∨ ((-11) : Int32) < a0
  · have h := t1 hsw
    refine g_tableOut C tb_X5_joined_0_ok (i := 1) (-18) (-11) 110 rfl hsw (by decide) rfl ?_
    refine g_iload_n C tb_X5_joined_1_ok (i := 4) rfl rfl ?_
    obtain ⟨j4, ej4, h⟩ := jn_e h
    have J121 : ∀ (v3 : Int32), j4 v3 = some out → GG g x 3 Q 0 0 y M 121 [none, none, none] [.int v3] := by
      intro v3 h; subst ej4
      cases h
      exact g_iret0 C R tb_X5_joined_1_ok (i := 11) rfl
    obtain ⟨t5, f6⟩ := br_e h
    refine g_if_ne C tb_X5_joined_1_ok (i := 5) 118 rfl rfl (fun c => ?_) (fun c => ?_)
    · have h := f6 c
      refine g_iload_n C tb_X5_joined_1_ok (i := 8) rfl rfl ?_
      refine g_iload_n C tb_X5_joined_1_ok (i := 9) rfl rfl ?_
      obtain ⟨n7, h⟩ := gd_e h
      refine g_idiv C tb_X5_joined_1_ok (i := 10) rfl n7 ?_
      exact g_less (L' := [none, none, none]) trivial (J121 (a1 / a2) h)
    · have h := t5 c
      refine g_iconstv C tb_X5_joined_1_ok (i := 6) 0 rfl k_iconstv_0 ?_
      refine g_goto C tb_X5_joined_1_ok (i := 7) 121 rfl rfl ?_
      exact g_less (L' := [none, none, none]) trivial (J121 (0 : Int32) h)
  have h := f2 hsw
  obtain ⟨t8, f9⟩ := br_e h
  by_cases hs982 : a0 = ((-18) : Int32)
  · have h := t8 hs982
    refine g_tableIn C tb_X5_joined_0_ok (i := 1) (-18) 106 105 rfl hs982 (by decide) rfl ?_
    refine g_iload_n C tb_X5_joined_1_ok (i := 0) rfl rfl ?_
    refine g_iload_n C tb_X5_joined_1_ok (i := 1) rfl rfl ?_
    refine g_imul C tb_X5_joined_1_ok (i := 2) rfl ?_
    cases h
    exact g_iret0 C R tb_X5_joined_1_ok (i := 3) rfl
  have h := f9 hs982
  obtain ⟨t10, f11⟩ := br_e h
  by_cases hs983 : a0 = ((-17) : Int32)
  · have h := t10 hs983
    refine g_tableIn C tb_X5_joined_0_ok (i := 1) (-17) 102 101 rfl hs983 (by decide) rfl ?_
    refine g_iload_n C tb_X5_joined_0_ok (i := 36) rfl rfl ?_
    refine g_iload_n C tb_X5_joined_0_ok (i := 37) rfl rfl ?_
    refine g_isub C tb_X5_joined_0_ok (i := 38) rfl ?_
    cases h
    exact g_iret0 C R tb_X5_joined_0_ok (i := 39) rfl
  have h := f11 hs983
  obtain ⟨t12, f13⟩ := br_e h
  by_cases hs984 : a0 = ((-16) : Int32)
  · have h := t12 hs984
    refine g_tableIn C tb_X5_joined_0_ok (i := 1) (-16) 98 97 rfl hs984 (by decide) rfl ?_
    refine g_iload_n C tb_X5_joined_0_ok (i := 32) rfl rfl ?_
    refine g_iload_n C tb_X5_joined_0_ok (i := 33) rfl rfl ?_
    refine g_iadd C tb_X5_joined_0_ok (i := 34) rfl ?_
    cases h
    exact g_iret0 C R tb_X5_joined_0_ok (i := 35) rfl
  have h := f13 hs984
  obtain ⟨t18, f19⟩ := br_e h
  by_cases hs985 : a0 = ((-15) : Int32)
  · have h := t18 hs985
    refine g_tableIn C tb_X5_joined_0_ok (i := 1) (-15) 87 86 rfl hs985 (by decide) rfl ?_
    refine g_iload_n C tb_X5_joined_0_ok (i := 25) rfl rfl ?_
    refine g_iload_n C tb_X5_joined_0_ok (i := 26) rfl rfl ?_
    obtain ⟨j15, ej15, h⟩ := jn_e h
    have J97 : ∀ (v14 : Int32), j15 v14 = some out → GG g x 3 Q 0 0 y M 97 [none, none, none] [.int v14] := by
      intro v14 h; subst ej15
      cases h
      exact g_iret0 C R tb_X5_joined_0_ok (i := 31) rfl
    obtain ⟨t16, f17⟩ := br_e h
    refine g_icmp_ne C tb_X5_joined_0_ok (i := 27) 96 rfl rfl (fun c => ?_) (fun c => ?_)
    · have h := f17 c
      refine g_iconstv C tb_X5_joined_0_ok (i := 30) 0 rfl k_iconstv_0 ?_
      exact g_less (L' := [none, none, none]) trivial (J97 (0 : Int32) h)
    · have h := t16 c
      refine g_iconstv C tb_X5_joined_0_ok (i := 28) 1 rfl k_iconstv_1 ?_
      refine g_goto C tb_X5_joined_0_ok (i := 29) 97 rfl rfl ?_
      exact g_less (L' := [none, none, none]) trivial (J97 (1 : Int32) h)
  have h := f19 hs985
  obtain ⟨t24, f25⟩ := br_e h
  by_cases hs986 : a0 = ((-14) : Int32)
  · have h := t24 hs986
    refine g_tableIn C tb_X5_joined_0_ok (i := 1) (-14) 76 75 rfl hs986 (by decide) rfl ?_
    refine g_iload_n C tb_X5_joined_0_ok (i := 18) rfl rfl ?_
    refine g_iload_n C tb_X5_joined_0_ok (i := 19) rfl rfl ?_
    obtain ⟨j21, ej21, h⟩ := jn_e h
    have J86 : ∀ (v20 : Int32), j21 v20 = some out → GG g x 3 Q 0 0 y M 86 [none, none, none] [.int v20] := by
      intro v20 h; subst ej21
      cases h
      exact g_iret0 C R tb_X5_joined_0_ok (i := 24) rfl
    obtain ⟨t22, f23⟩ := br_e h
    refine g_icmp_ge C tb_X5_joined_0_ok (i := 20) 85 rfl rfl (fun c => ?_) (fun c => ?_)
    · have h := t22 c
      refine g_iconstv C tb_X5_joined_0_ok (i := 23) 0 rfl k_iconstv_0 ?_
      exact g_less (L' := [none, none, none]) trivial (J86 (0 : Int32) h)
    · have h := f23 c
      refine g_iconstv C tb_X5_joined_0_ok (i := 21) 1 rfl k_iconstv_1 ?_
      refine g_goto C tb_X5_joined_0_ok (i := 22) 86 rfl rfl ?_
      exact g_less (L' := [none, none, none]) trivial (J86 (1 : Int32) h)
  have h := f25 hs986
  obtain ⟨t31, f32⟩ := br_e h
  by_cases hs987 : a0 = ((-13) : Int32)
  · have h := t31 hs987
    refine g_tableIn C tb_X5_joined_0_ok (i := 1) (-13) 110 109 rfl hs987 (by decide) rfl ?_
    refine g_iload_n C tb_X5_joined_1_ok (i := 4) rfl rfl ?_
    obtain ⟨j27, ej27, h⟩ := jn_e h
    have J121 : ∀ (v26 : Int32), j27 v26 = some out → GG g x 3 Q 0 0 y M 121 [none, none, none] [.int v26] := by
      intro v26 h; subst ej27
      cases h
      exact g_iret0 C R tb_X5_joined_1_ok (i := 11) rfl
    obtain ⟨t28, f29⟩ := br_e h
    refine g_if_ne C tb_X5_joined_1_ok (i := 5) 118 rfl rfl (fun c => ?_) (fun c => ?_)
    · have h := f29 c
      refine g_iload_n C tb_X5_joined_1_ok (i := 8) rfl rfl ?_
      refine g_iload_n C tb_X5_joined_1_ok (i := 9) rfl rfl ?_
      obtain ⟨n30, h⟩ := gd_e h
      refine g_idiv C tb_X5_joined_1_ok (i := 10) rfl n30 ?_
      exact g_less (L' := [none, none, none]) trivial (J121 (a1 / a2) h)
    · have h := t28 c
      refine g_iconstv C tb_X5_joined_1_ok (i := 6) 0 rfl k_iconstv_0 ?_
      refine g_goto C tb_X5_joined_1_ok (i := 7) 121 rfl rfl ?_
      exact g_less (L' := [none, none, none]) trivial (J121 (0 : Int32) h)
  have h := f32 hs987
  obtain ⟨t40, f41⟩ := br_e h
  by_cases hs988 : a0 = ((-12) : Int32)
  · have h := t40 hs988
    refine g_tableIn C tb_X5_joined_0_ok (i := 1) (-12) 62 61 rfl hs988 (by decide) rfl ?_
    refine g_iload_n C tb_X5_joined_0_ok (i := 10) rfl rfl ?_
    obtain ⟨j34, ej34, h⟩ := jn_e h
    have J75 : ∀ (v33 : Int32), j34 v33 = some out → GG g x 3 Q 0 0 y M 75 [none, none, none] [.int v33] := by
      intro v33 h; subst ej34
      cases h
      exact g_iret0 C R tb_X5_joined_0_ok (i := 17) rfl
    obtain ⟨j35, ej35, h⟩ := jn_e h
    have J74 : ∀ (_u : Unit), j35 _u = some out → GG g x 3 Q 0 0 y M 74 [none, none, none] [] := by
      intro _u h; subst ej35
      refine g_iconstv C tb_X5_joined_0_ok (i := 16) 0 rfl k_iconstv_0 ?_
      exact g_less (L' := [none, none, none]) trivial (J75 (0 : Int32) h)
    obtain ⟨t36, f37⟩ := br_e h
    refine g_if_eq C tb_X5_joined_0_ok (i := 11) 74 rfl rfl (fun c => ?_) (fun c => ?_)
    · have h := t36 c
      exact g_less (L' := [none, none, none]) trivial (J74 () h)
    · have h := f37 c
      refine g_iload_n C tb_X5_joined_0_ok (i := 12) rfl rfl ?_
      obtain ⟨t38, f39⟩ := br_e h
      refine g_if_eq C tb_X5_joined_0_ok (i := 13) 74 rfl rfl (fun c => ?_) (fun c => ?_)
      · have h := t38 c
        exact g_less (L' := [none, none, none]) trivial (J74 () h)
      · have h := f39 c
        refine g_iconstv C tb_X5_joined_0_ok (i := 14) 1 rfl k_iconstv_1 ?_
        refine g_goto C tb_X5_joined_0_ok (i := 15) 75 rfl rfl ?_
        exact g_less (L' := [none, none, none]) trivial (J75 (1 : Int32) h)
  have h := f41 hs988
  have hlast : a0 = ((-11) : Int32) := i32_sw (l := [((-18) : Int32), ((-17) : Int32), ((-16) : Int32), ((-15) : Int32), ((-14) : Int32), ((-13) : Int32), ((-12) : Int32)]) (n := 7) hsw (by decide +kernel) (i32_ne [((-18) : Int32), ((-17) : Int32), ((-16) : Int32), ((-15) : Int32), ((-14) : Int32), ((-13) : Int32), ((-12) : Int32)] rfl (by intro c hc; simp only [List.mem_cons, List.not_mem_nil, or_false] at hc; rcases hc with rfl | rfl | rfl | rfl | rfl | rfl | rfl <;> assumption))
  refine g_tableIn C tb_X5_joined_0_ok (i := 1) (-11) 48 47 rfl hlast (by decide) rfl ?_
  refine g_iload_n C tb_X5_joined_0_ok (i := 2) rfl rfl ?_
  obtain ⟨j43, ej43, h⟩ := jn_e h
  have J61 : ∀ (v42 : Int32), j43 v42 = some out → GG g x 3 Q 0 0 y M 61 [none, none, none] [.int v42] := by
    intro v42 h; subst ej43
    cases h
    exact g_iret0 C R tb_X5_joined_0_ok (i := 9) rfl
  obtain ⟨j44, ej44, h⟩ := jn_e h
  have J56 : ∀ (_u : Unit), j44 _u = some out → GG g x 3 Q 0 0 y M 56 [none, none, none] [] := by
    intro _u h; subst ej44
    refine g_iconstv C tb_X5_joined_0_ok (i := 6) 1 rfl k_iconstv_1 ?_
    refine g_goto C tb_X5_joined_0_ok (i := 7) 61 rfl rfl ?_
    exact g_less (L' := [none, none, none]) trivial (J61 (1 : Int32) h)
  obtain ⟨t45, f46⟩ := br_e h
  refine g_if_ne C tb_X5_joined_0_ok (i := 3) 56 rfl rfl (fun c => ?_) (fun c => ?_)
  · have h := f46 c
    exact g_less (L' := [none, none, none]) trivial (J56 () h)
  · have h := t45 c
    refine g_iload_n C tb_X5_joined_0_ok (i := 4) rfl rfl ?_
    obtain ⟨t47, f48⟩ := br_e h
    refine g_if_eq C tb_X5_joined_0_ok (i := 5) 60 rfl rfl (fun c => ?_) (fun c => ?_)
    · have h := t47 c
      refine g_iconstv C tb_X5_joined_0_ok (i := 8) 0 rfl k_iconstv_0 ?_
      exact g_less (L' := [none, none, none]) trivial (J61 (0 : Int32) h)
    · have h := f48 c
      exact g_less (L' := [none, none, none]) trivial (J56 () h)
def f_X5_worth (y : Lay) (a0 : Nat) (a1 : Nat) (M : Mem) : Option (Int32 × Mem) := fixN (fun _ _ _ => none) (fun (s4 : Int32 → Int32 → Mem → Option (Int32 × Mem)) (v1 : Int32) (v2 : Int32) (M3 : Mem) => gK y a0 (0, 5) (jn (fun (_u : Unit) => jn (fun (v8 : Int32) => some (v8, M3)) fun j9 => br (v1 < (1 : Int32)) (j9 (0 : Int32)) (gN (y.2.1 a0 1) (gA y (y.2.1 a0 1) 1 (v1 - (1 : Int32)) (j9 (M3.1 (y.2.1 a0 1) (v1 - (1 : Int32)).toNatClampNeg))))) fun j7 => br ((M3.1 a0 2) ≤ v2) (j7 ()) (gN (y.2.1 a0 0) (gT y (y.2.1 a0 0) 1 (br ((Int32.ofNat (kd y (y.2.1 a0 0)).2) ≤ v2) (j7 ()) (gA y (y.2.1 a0 0) 1 v2 (lt (M3.1 (y.2.1 a0 0) v2.toNatClampNeg) fun (v21 : Int32) => jn (fun (v22 : Int32) (M23 : Mem) => lt (v2 + (1 : Int32)) fun (v25 : Int32) => s4 v22 v25 M23) fun j24 => br (v21 < ((-6) : Int32)) (br (v21 = ((-13) : Int32)) (br (v1 < (1 : Int32)) (j24 v1 M3) (gN (y.2.1 a0 1) (gA y (y.2.1 a0 1) 1 (v1 - (1 : Int32)) (jn (fun (v43 : Int32) => gA y (y.2.1 a0 1) 1 (v1 - (1 : Int32)) (lt (wI M3 (y.2.1 a0 1) (v1 - (1 : Int32)).toNatClampNeg v43) fun (M46 : Mem) => j24 v1 M46)) fun j44 => br ((M3.1 (y.2.1 a0 1) (v1 - (1 : Int32)).toNatClampNeg) = 0) (j44 (1 : Int32)) (j44 (0 : Int32)))))) (br (v1 < (2 : Int32)) (j24 v1 M3) (lt (v1 + ((-1) : Int32)) fun (v32 : Int32) => gN (y.2.1 a0 1) (gA y (y.2.1 a0 1) 1 (v32 - (1 : Int32)) (gA y (y.2.1 a0 1) 1 v32 (cp (f_X5_joined y v21 (M3.1 (y.2.1 a0 1) (v32 - (1 : Int32)).toNatClampNeg) (M3.1 (y.2.1 a0 1) v32.toNatClampNeg) M3) fun (r36 : Int32) => gA y (y.2.1 a0 1) 1 (v32 - (1 : Int32)) (lt (wI M3 (y.2.1 a0 1) (v32 - (1 : Int32)).toNatClampNeg r36) fun (M38 : Mem) => j24 v32 M38))))))) (lt (((-1) : Int32) - v21) fun (v49 : Int32) => jn (fun (v50 : Int32) (M51 : Mem) => j24 v50 M51) fun j52 => br ((40 : Int32) ≤ v1) (j52 v1 M3) (gN (y.2.1 a0 1) (jn (fun (v56 : Int32) => gA y (y.2.1 a0 1) 1 v1 (lt (wI M3 (y.2.1 a0 1) v1.toNatClampNeg v56) fun (M59 : Mem) => lt (v1 + (1 : Int32)) fun (v60 : Int32) => j52 v60 M59)) fun j57 => jn (fun (_u : Unit) => j57 v21) fun j61 => br (v49 < 0) (j61 ()) (gT y a1 1 (br ((Int32.ofNat (kd y a1).2) ≤ v49) (j61 ()) (gA y a1 1 v49 (j57 (M3.1 a1 v49.toNatClampNeg))))))))))))))) FUEL (0 : Int32) (0 : Int32) M
theorem w_X5_worth {g : GX} {l : Launch} (hG : GF g l) (y : Lay) (a0 : Nat) (a1 : Nat) (M : Mem) : C0 g l yX5_worth cX5_worth 6 (some .int) 1 y [.ref a0, .ref a1] M (f_X5_worth y a0 a1 M) := by
  refine C0_of hG (by decide) [some (.ref a0), some (.ref a1), none, none, none, none] rfl rfl (fun out h x Q C R => ?_)
  unfold f_X5_worth at h
  refine g_iconstv C tb_X5_worth_0_ok (i := 0) 0 rfl k_iconstv_0 ?_
  refine g_istore_n C tb_X5_worth_0_ok (i := 1) rfl rfl rfl ?_
  refine g_iconstv C tb_X5_worth_0_ok (i := 2) 0 rfl k_iconstv_0 ?_
  refine g_istore_n C tb_X5_worth_0_ok (i := 3) rfl rfl rfl ?_
  refine g_less (L' := [some (.ref a0), some (.ref a1), some (.int (0 : Int32)), some (.int (0 : Int32)), none, none]) ⟨rfl, ⟨rfl, ⟨rfl, ⟨rfl, trivial⟩⟩⟩⟩ ?_
  refine fix_i (P := fun (f : Int32 → Int32 → Mem → Option (Int32 × Mem)) => ∀ (v1 : Int32) (v2 : Int32) (M3 : Mem), f v1 v2 M3 = some out → GG g x 6 Q 0 0 y M3 4 [some (.ref a0), some (.ref a1), some (.int v1), some (.int v2), none, none] []) ?_ ?_ _ (0 : Int32) (0 : Int32) M h
  · intro v1 v2 M3 h; exact (nn_e h).elim
  · intro s4 ih5 v1 v2 M3 h
    refine g_iload_n C tb_X5_worth_0_ok (i := 4) rfl rfl ?_
    refine g_aload_n C tb_X5_worth_0_ok (i := 5) rfl rfl ?_
    obtain ⟨k6, h⟩ := gK_e h
    refine g_getI C tb_X5_worth_0_ok (i := 6) rfl fl_X5_18 rfl k6 ?_
    obtain ⟨j7, ej7, h⟩ := jn_e h
    have J161 : ∀ (_u : Unit), j7 _u = some out → GG g x 6 Q 0 0 y M3 161 [some (.ref a0), none, some (.int v1), none, none, none] [] := by
      intro _u h; subst ej7
      refine g_iload_n C tb_X5_worth_2_ok (i := 12) rfl rfl ?_
      refine g_iconstv C tb_X5_worth_2_ok (i := 13) 1 rfl k_iconstv_1 ?_
      obtain ⟨j9, ej9, h⟩ := jn_e h
      have J178 : ∀ (v8 : Int32), j9 v8 = some out → GG g x 6 Q 0 0 y M3 178 [none, none, none, none, none, none] [.int v8] := by
        intro v8 h; subst ej9
        cases h
        exact g_iret0 C R tb_X5_worth_2_ok (i := 23) rfl
      obtain ⟨t10, f11⟩ := br_e h
      refine g_icmp_lt C tb_X5_worth_2_ok (i := 14) 177 rfl rfl (fun c => ?_) (fun c => ?_)
      · have h := t10 c
        refine g_iconstv C tb_X5_worth_2_ok (i := 22) 0 rfl k_iconstv_0 ?_
        exact g_less (L' := [none, none, none, none, none, none]) trivial (J178 (0 : Int32) h)
      · have h := f11 c
        refine g_aload_n C tb_X5_worth_2_ok (i := 15) rfl rfl ?_
        obtain ⟨n12, h⟩ := gN_e h
        refine g_getR C tb_X5_worth_2_ok (i := 16) rfl fl_X5_15 rfl k6 n12 ?_
        refine g_iload_n C tb_X5_worth_2_ok (i := 17) rfl rfl ?_
        refine g_iconstv C tb_X5_worth_2_ok (i := 18) 1 rfl k_iconstv_1 ?_
        refine g_isub C tb_X5_worth_2_ok (i := 19) rfl ?_
        obtain ⟨b13, h⟩ := gA_e h
        refine g_iald C tb_X5_worth_2_ok (i := 20) rfl b13 ?_
        refine g_goto C tb_X5_worth_2_ok (i := 21) 178 rfl rfl ?_
        exact g_less (L' := [none, none, none, none, none, none]) trivial (J178 (M3.1 (y.2.1 a0 1) (v1 - (1 : Int32)).toNatClampNeg) h)
    obtain ⟨t14, f15⟩ := br_e h
    refine g_icmp_ge C tb_X5_worth_0_ok (i := 7) 161 rfl rfl (fun c => ?_) (fun c => ?_)
    · have h := t14 c
      exact g_less (L' := [some (.ref a0), none, some (.int v1), none, none, none]) ⟨rfl, ⟨rfl, trivial⟩⟩ (J161 () h)
    · have h := f15 c
      refine g_iload_n C tb_X5_worth_0_ok (i := 8) rfl rfl ?_
      refine g_aload_n C tb_X5_worth_0_ok (i := 9) rfl rfl ?_
      obtain ⟨n16, h⟩ := gN_e h
      refine g_getR C tb_X5_worth_0_ok (i := 10) rfl fl_X5_9 rfl k6 n16 ?_
      obtain ⟨b17, h⟩ := gT_e h
      refine g_alen C tb_X5_worth_0_ok (i := 11) rfl b17 (by decide) ?_
      obtain ⟨t18, f19⟩ := br_e h
      refine g_icmp_ge C tb_X5_worth_0_ok (i := 12) 161 rfl rfl (fun c => ?_) (fun c => ?_)
      · have h := t18 c
        exact g_less (L' := [some (.ref a0), none, some (.int v1), none, none, none]) ⟨rfl, ⟨rfl, trivial⟩⟩ (J161 () h)
      · have h := f19 c
        refine g_aload_n C tb_X5_worth_0_ok (i := 13) rfl rfl ?_
        refine g_getR C tb_X5_worth_0_ok (i := 14) rfl fl_X5_9 rfl k6 n16 ?_
        refine g_iload_n C tb_X5_worth_0_ok (i := 15) rfl rfl ?_
        obtain ⟨b20, h⟩ := gA_e h
        refine g_iald C tb_X5_worth_0_ok (i := 16) rfl b20 ?_
        refine g_topi (fun v21 ev21 => ?_)
        have h := lt_e ev21 h
        refine g_istore C tb_X5_worth_0_ok (i := 17) rfl rfl rfl ?_
        refine g_iload C tb_X5_worth_0_ok (i := 18) rfl rfl ?_
        refine g_bipushv C tb_X5_worth_0_ok (i := 19) (-6) rfl k_bipushv_m6 ?_
        obtain ⟨j24, ej24, h⟩ := jn_e h
        have J155 : ∀ (v22 : Int32) (M23 : Mem), j24 v22 M23 = some out → GG g x 6 Q 0 0 y M23 155 [some (.ref a0), some (.ref a1), some (.int v22), some (.int v2), none, none] [] := by
          intro v22 M23 h; subst ej24
          obtain ⟨v25, ev25⟩ : ∃ w : Int32, w = v2 + (1 : Int32) := ⟨_, rfl⟩
          have h := lt_e ev25 h
          refine g_iincv C tb_X5_worth_2_ok (i := 10) (1 : Int32) ev25 rfl rfl k_iconstv_1 rfl rfl ?_
          refine g_goto C tb_X5_worth_2_ok (i := 11) 4 rfl rfl ?_
          exact g_less (L' := [some (.ref a0), some (.ref a1), some (.int v22), some (.int v25), none, none]) ⟨rfl, ⟨rfl, ⟨rfl, ⟨rfl, trivial⟩⟩⟩⟩ (ih5 v22 v25 M23 h)
        obtain ⟨t26, f27⟩ := br_e h
        refine g_icmp_lt C tb_X5_worth_0_ok (i := 20) 81 rfl rfl (fun c => ?_) (fun c => ?_)
        · have h := t26 c
          refine g_iload C tb_X5_worth_1_ok (i := 5) rfl rfl ?_
          refine g_bipushv C tb_X5_worth_1_ok (i := 6) (-13) rfl k_bipushv_m13 ?_
          obtain ⟨t28, f29⟩ := br_e h
          refine g_icmp_ne C tb_X5_worth_1_ok (i := 7) 120 rfl rfl (fun c => ?_) (fun c => ?_)
          · have h := f29 c
            refine g_iload_n C tb_X5_worth_1_ok (i := 28) rfl rfl ?_
            refine g_iconstv C tb_X5_worth_1_ok (i := 29) 2 rfl k_iconstv_2 ?_
            obtain ⟨t30, f31⟩ := br_e h
            refine g_icmp_lt C tb_X5_worth_1_ok (i := 30) 155 rfl rfl (fun c => ?_) (fun c => ?_)
            · have h := t30 c
              exact g_less (L' := [some (.ref a0), some (.ref a1), some (.int v1), some (.int v2), none, none]) ⟨rfl, ⟨rfl, ⟨rfl, ⟨rfl, trivial⟩⟩⟩⟩ (J155 v1 M3 h)
            · have h := f31 c
              obtain ⟨v32, ev32⟩ : ∃ w : Int32, w = v1 + ((-1) : Int32) := ⟨_, rfl⟩
              have h := lt_e ev32 h
              refine g_iincv C tb_X5_worth_1_ok (i := 31) ((-1) : Int32) ev32 rfl rfl k_iconstv_m1 rfl rfl ?_
              refine g_aload_n C tb_X5_worth_1_ok (i := 32) rfl rfl ?_
              obtain ⟨n33, h⟩ := gN_e h
              refine g_getR C tb_X5_worth_1_ok (i := 33) rfl fl_X5_15 rfl k6 n33 ?_
              refine g_iload_n C tb_X5_worth_1_ok (i := 34) rfl rfl ?_
              refine g_iconstv C tb_X5_worth_1_ok (i := 35) 1 rfl k_iconstv_1 ?_
              refine g_isub C tb_X5_worth_1_ok (i := 36) rfl ?_
              refine g_iload C tb_X5_worth_1_ok (i := 37) rfl rfl ?_
              refine g_aload_n C tb_X5_worth_1_ok (i := 38) rfl rfl ?_
              refine g_getR C tb_X5_worth_1_ok (i := 39) rfl fl_X5_15 rfl k6 n33 ?_
              refine g_iload_n C tb_X5_worth_2_ok (i := 0) rfl rfl ?_
              refine g_iconstv C tb_X5_worth_2_ok (i := 1) 1 rfl k_iconstv_1 ?_
              refine g_isub C tb_X5_worth_2_ok (i := 2) rfl ?_
              obtain ⟨b34, h⟩ := gA_e h
              refine g_iald C tb_X5_worth_2_ok (i := 3) rfl b34 ?_
              refine g_aload_n C tb_X5_worth_2_ok (i := 4) rfl rfl ?_
              refine g_getR C tb_X5_worth_2_ok (i := 5) rfl fl_X5_15 rfl k6 n33 ?_
              refine g_iload_n C tb_X5_worth_2_ok (i := 6) rfl rfl ?_
              obtain ⟨b35, h⟩ := gA_e h
              refine g_iald C tb_X5_worth_2_ok (i := 7) rfl b35 ?_
              obtain ⟨r36, er36, h⟩ := cp_e h
              refine g_callS0 C tb_X5_worth_2_ok (i := 8) [.int v21, .int (M3.1 (y.2.1 a0 1) (v32 - (1 : Int32)).toNatClampNeg), .int (M3.1 (y.2.1 a0 1) v32.toNatClampNeg)] rfl mw_X5_joined mst_X5_joined ml_X5_32 rfl rfl rfl rfl (w_X5_joined C.G y v21 (M3.1 (y.2.1 a0 1) (v32 - (1 : Int32)).toNatClampNeg) (M3.1 (y.2.1 a0 1) v32.toNatClampNeg) M3) (pm_s er36) rfl rfl rfl ?_
              obtain ⟨b37, h⟩ := gA_e h
              refine g_iast C tb_X5_worth_2_ok (i := 9) rfl b37 ?_
              refine g_mem (fun M38 eM38 => ?_)
              have h := lt_e eM38 h
              exact g_less (L' := [some (.ref a0), some (.ref a1), some (.int v32), some (.int v2), none, none]) ⟨rfl, ⟨rfl, ⟨rfl, ⟨rfl, trivial⟩⟩⟩⟩ (J155 v32 M38 h)
          · have h := t28 c
            refine g_iload_n C tb_X5_worth_1_ok (i := 8) rfl rfl ?_
            refine g_iconstv C tb_X5_worth_1_ok (i := 9) 1 rfl k_iconstv_1 ?_
            obtain ⟨t39, f40⟩ := br_e h
            refine g_icmp_lt C tb_X5_worth_1_ok (i := 10) 155 rfl rfl (fun c => ?_) (fun c => ?_)
            · have h := t39 c
              exact g_less (L' := [some (.ref a0), some (.ref a1), some (.int v1), some (.int v2), none, none]) ⟨rfl, ⟨rfl, ⟨rfl, ⟨rfl, trivial⟩⟩⟩⟩ (J155 v1 M3 h)
            · have h := f40 c
              refine g_aload_n C tb_X5_worth_1_ok (i := 11) rfl rfl ?_
              obtain ⟨n41, h⟩ := gN_e h
              refine g_getR C tb_X5_worth_1_ok (i := 12) rfl fl_X5_15 rfl k6 n41 ?_
              refine g_iload_n C tb_X5_worth_1_ok (i := 13) rfl rfl ?_
              refine g_iconstv C tb_X5_worth_1_ok (i := 14) 1 rfl k_iconstv_1 ?_
              refine g_isub C tb_X5_worth_1_ok (i := 15) rfl ?_
              refine g_aload_n C tb_X5_worth_1_ok (i := 16) rfl rfl ?_
              refine g_getR C tb_X5_worth_1_ok (i := 17) rfl fl_X5_15 rfl k6 n41 ?_
              refine g_iload_n C tb_X5_worth_1_ok (i := 18) rfl rfl ?_
              refine g_iconstv C tb_X5_worth_1_ok (i := 19) 1 rfl k_iconstv_1 ?_
              refine g_isub C tb_X5_worth_1_ok (i := 20) rfl ?_
              obtain ⟨b42, h⟩ := gA_e h
              refine g_iald C tb_X5_worth_1_ok (i := 21) rfl b42 ?_
              obtain ⟨j44, ej44, h⟩ := jn_e h
              have J116 : ∀ (v43 : Int32), j44 v43 = some out → GG g x 6 Q 0 0 y M3 116 [some (.ref a0), some (.ref a1), some (.int v1), some (.int v2), none, none] [.int v43, .int (v1 - (1 : Int32)), .ref (y.2.1 a0 1)] := by
                intro v43 h; subst ej44
                obtain ⟨b45, h⟩ := gA_e h
                refine g_iast C tb_X5_worth_1_ok (i := 26) rfl b45 ?_
                refine g_mem (fun M46 eM46 => ?_)
                have h := lt_e eM46 h
                refine g_goto C tb_X5_worth_1_ok (i := 27) 155 rfl rfl ?_
                exact g_less (L' := [some (.ref a0), some (.ref a1), some (.int v1), some (.int v2), none, none]) ⟨rfl, ⟨rfl, ⟨rfl, ⟨rfl, trivial⟩⟩⟩⟩ (J155 v1 M46 h)
              obtain ⟨t47, f48⟩ := br_e h
              refine g_if_ne C tb_X5_worth_1_ok (i := 22) 115 rfl rfl (fun c => ?_) (fun c => ?_)
              · have h := f48 c
                refine g_iconstv C tb_X5_worth_1_ok (i := 25) 0 rfl k_iconstv_0 ?_
                exact g_less (L' := [some (.ref a0), some (.ref a1), some (.int v1), some (.int v2), none, none]) ⟨rfl, ⟨rfl, ⟨rfl, ⟨rfl, trivial⟩⟩⟩⟩ (J116 (0 : Int32) h)
              · have h := t47 c
                refine g_iconstv C tb_X5_worth_1_ok (i := 23) 1 rfl k_iconstv_1 ?_
                refine g_goto C tb_X5_worth_1_ok (i := 24) 116 rfl rfl ?_
                exact g_less (L' := [some (.ref a0), some (.ref a1), some (.int v1), some (.int v2), none, none]) ⟨rfl, ⟨rfl, ⟨rfl, ⟨rfl, trivial⟩⟩⟩⟩ (J116 (1 : Int32) h)
        · have h := f27 c
          refine g_iconstv C tb_X5_worth_0_ok (i := 21) (-1) rfl k_iconstv_m1 ?_
          refine g_iload C tb_X5_worth_0_ok (i := 22) rfl rfl ?_
          refine g_isub C tb_X5_worth_0_ok (i := 23) rfl ?_
          refine g_topi (fun v49 ev49 => ?_)
          have h := lt_e ev49 h
          refine g_istore C tb_X5_worth_0_ok (i := 24) rfl rfl rfl ?_
          refine g_iload_n C tb_X5_worth_0_ok (i := 25) rfl rfl ?_
          refine g_bipushv C tb_X5_worth_0_ok (i := 26) 40 rfl k_bipushv_40 ?_
          obtain ⟨j52, ej52, h⟩ := jn_e h
          have J78 : ∀ (v50 : Int32) (M51 : Mem), j52 v50 M51 = some out → GG g x 6 Q 0 0 y M51 78 [some (.ref a0), some (.ref a1), some (.int v50), some (.int v2), none, none] [] := by
            intro v50 M51 h; subst ej52
            refine g_goto C tb_X5_worth_1_ok (i := 4) 155 rfl rfl ?_
            exact g_less (L' := [some (.ref a0), some (.ref a1), some (.int v50), some (.int v2), none, none]) ⟨rfl, ⟨rfl, ⟨rfl, ⟨rfl, trivial⟩⟩⟩⟩ (J155 v50 M51 h)
          obtain ⟨t53, f54⟩ := br_e h
          refine g_icmp_ge C tb_X5_worth_0_ok (i := 27) 78 rfl rfl (fun c => ?_) (fun c => ?_)
          · have h := t53 c
            exact g_less (L' := [some (.ref a0), some (.ref a1), some (.int v1), some (.int v2), none, none]) ⟨rfl, ⟨rfl, ⟨rfl, ⟨rfl, trivial⟩⟩⟩⟩ (J78 v1 M3 h)
          · have h := f54 c
            refine g_aload_n C tb_X5_worth_0_ok (i := 28) rfl rfl ?_
            obtain ⟨n55, h⟩ := gN_e h
            refine g_getR C tb_X5_worth_0_ok (i := 29) rfl fl_X5_15 rfl k6 n55 ?_
            refine g_iload_n C tb_X5_worth_0_ok (i := 30) rfl rfl ?_
            refine g_iload C tb_X5_worth_0_ok (i := 31) rfl rfl ?_
            obtain ⟨j57, ej57, h⟩ := jn_e h
            have J74 : ∀ (v56 : Int32), j57 v56 = some out → GG g x 6 Q 0 0 y M3 74 [some (.ref a0), some (.ref a1), some (.int v1), some (.int v2), none, none] [.int v56, .int v1, .ref (y.2.1 a0 1)] := by
              intro v56 h; subst ej57
              obtain ⟨b58, h⟩ := gA_e h
              refine g_iast C tb_X5_worth_1_ok (i := 2) rfl b58 ?_
              refine g_mem (fun M59 eM59 => ?_)
              have h := lt_e eM59 h
              obtain ⟨v60, ev60⟩ : ∃ w : Int32, w = v1 + (1 : Int32) := ⟨_, rfl⟩
              have h := lt_e ev60 h
              refine g_iincv C tb_X5_worth_1_ok (i := 3) (1 : Int32) ev60 rfl rfl k_iconstv_1 rfl rfl ?_
              exact g_less (L' := [some (.ref a0), some (.ref a1), some (.int v60), some (.int v2), none, none]) ⟨rfl, ⟨rfl, ⟨rfl, ⟨rfl, trivial⟩⟩⟩⟩ (J78 v60 M59 h)
            obtain ⟨j61, ej61, h⟩ := jn_e h
            have J72 : ∀ (_u : Unit), j61 _u = some out → GG g x 6 Q 0 0 y M3 72 [some (.ref a0), some (.ref a1), some (.int v1), some (.int v2), some (.int v21), none] [.int v1, .ref (y.2.1 a0 1)] := by
              intro _u h; subst ej61
              refine g_iload C tb_X5_worth_1_ok (i := 1) rfl rfl ?_
              exact g_less (L' := [some (.ref a0), some (.ref a1), some (.int v1), some (.int v2), none, none]) ⟨rfl, ⟨rfl, ⟨rfl, ⟨rfl, trivial⟩⟩⟩⟩ (J74 v21 h)
            obtain ⟨t62, f63⟩ := br_e h
            refine g_if_lt C tb_X5_worth_0_ok (i := 32) 72 rfl rfl (fun c => ?_) (fun c => ?_)
            · have h := t62 c
              exact g_less (L' := [some (.ref a0), some (.ref a1), some (.int v1), some (.int v2), some (.int v21), none]) ⟨rfl, ⟨rfl, ⟨rfl, ⟨rfl, ⟨rfl, trivial⟩⟩⟩⟩⟩ (J72 () h)
            · have h := f63 c
              refine g_iload C tb_X5_worth_0_ok (i := 33) rfl rfl ?_
              refine g_aload_n C tb_X5_worth_0_ok (i := 34) rfl rfl ?_
              obtain ⟨b64, h⟩ := gT_e h
              refine g_alen C tb_X5_worth_0_ok (i := 35) rfl b64 (by decide) ?_
              obtain ⟨t65, f66⟩ := br_e h
              refine g_icmp_ge C tb_X5_worth_0_ok (i := 36) 72 rfl rfl (fun c => ?_) (fun c => ?_)
              · have h := t65 c
                exact g_less (L' := [some (.ref a0), some (.ref a1), some (.int v1), some (.int v2), some (.int v21), none]) ⟨rfl, ⟨rfl, ⟨rfl, ⟨rfl, ⟨rfl, trivial⟩⟩⟩⟩⟩ (J72 () h)
              · have h := f66 c
                refine g_aload_n C tb_X5_worth_0_ok (i := 37) rfl rfl ?_
                refine g_iload C tb_X5_worth_0_ok (i := 38) rfl rfl ?_
                obtain ⟨b67, h⟩ := gA_e h
                refine g_iald C tb_X5_worth_0_ok (i := 39) rfl b67 ?_
                refine g_goto C tb_X5_worth_1_ok (i := 0) 74 rfl rfl ?_
                exact g_less (L' := [some (.ref a0), some (.ref a1), some (.int v1), some (.int v2), none, none]) ⟨rfl, ⟨rfl, ⟨rfl, ⟨rfl, trivial⟩⟩⟩⟩ (J74 (M3.1 a1 v49.toNatClampNeg) h)
def f_X8_dyeOf (y : Lay) (a0 : Nat) (a1 : Int32) (a2 : Int32) (M : Mem) : Option (Int32 × Mem) := gK y a0 (0, 8) (gN (y.2.1 a0 0) (gK y (y.2.1 a0 0) (0, 1) (gN (y.2.1 (y.2.1 a0 0) 7) (gK y (y.2.1 (y.2.1 a0 0) 7) (0, 5) (cp (f_X5_isTold y (y.2.1 (y.2.1 a0 0) 7) M) fun (r6 : Int32) => br (r6 = 0) (cp (f_X8_skillOf y a0 a1 M) fun (r20 : Int32) => some ((((2 : Int32) * r20) + (3 : Int32)), M)) (cp (f_X8_spotOf y a0 a1 M) fun (r9 : Int32) => c0 (f_X8_setValues y a0 r9 M) fun (r10 : Int32) (M11 : Mem) => gN (y.2.1 a0 6) (cp (f_X8_skillOf y a0 a1 M11) fun (r13 : Int32) => gA y (y.2.1 a0 6) 1 (4 : Int32) (lt (wI M11 (y.2.1 a0 6) (4 : Int32).toNatClampNeg r13) fun (M15 : Mem) => gA y (y.2.1 a0 6) 1 (5 : Int32) (lt (wI M15 (y.2.1 a0 6) (5 : Int32).toNatClampNeg a2) fun (M17 : Mem) => c0 (f_X5_worth y (y.2.1 (y.2.1 a0 0) 7) (y.2.1 a0 6) M17) fun (r18 : Int32) (M19 : Mem) => some ((jmax (0 : Int32) (jmin (30 : Int32) r18)), M19))))))))))
theorem w_X8_dyeOf {g : GX} {l : Launch} (hG : GF g l) (y : Lay) (a0 : Nat) (a1 : Int32) (a2 : Int32) (M : Mem) : C0 g l yX8_dyeOf cX8_dyeOf 3 (some .int) 2 y [.ref a0, .int a1, .int a2] M (f_X8_dyeOf y a0 a1 a2 M) := by
  refine C0_of hG (by decide) [some (.ref a0), some (.int a1), some (.int a2)] rfl rfl (fun out h x Q C R => ?_)
  unfold f_X8_dyeOf at h
  refine g_aload_n C tb_X8_dyeOf_0_ok (i := 0) rfl rfl ?_
  obtain ⟨k1, h⟩ := gK_e h
  obtain ⟨n2, h⟩ := gN_e h
  refine g_getR C tb_X8_dyeOf_0_ok (i := 1) rfl fl_X8_32 rfl k1 n2 ?_
  obtain ⟨k3, h⟩ := gK_e h
  obtain ⟨n4, h⟩ := gN_e h
  refine g_getR C tb_X8_dyeOf_0_ok (i := 2) rfl fl_X8_154 rfl k3 n4 ?_
  obtain ⟨k5, h⟩ := gK_e h
  obtain ⟨r6, er6, h⟩ := cp_e h
  refine g_callV0 C tb_X8_dyeOf_0_ok (i := 3) [] rfl mw_X5_isTold mv_X5_isTold ml_X8_114 k5 rfl rfl rfl rfl (w_X5_isTold C.G y (y.2.1 (y.2.1 a0 0) 7) M) (pm_s er6) rfl rfl rfl ?_
  obtain ⟨t7, f8⟩ := br_e h
  refine g_if_ne C tb_X8_dyeOf_0_ok (i := 4) 23 rfl rfl (fun c => ?_) (fun c => ?_)
  · have h := f8 c
    refine g_aload_n C tb_X8_dyeOf_0_ok (i := 13) rfl rfl ?_
    refine g_aload_n C tb_X8_dyeOf_0_ok (i := 14) rfl rfl ?_
    refine g_iload_n C tb_X8_dyeOf_0_ok (i := 15) rfl rfl ?_
    obtain ⟨r9, er9, h⟩ := cp_e h
    refine g_callV0 C tb_X8_dyeOf_0_ok (i := 16) [.int a1] rfl mw_X8_spotOf mv_X8_spotOf ml_X8_132 k1 rfl rfl rfl rfl (w_X8_spotOf C.G y a0 a1 M) (pm_s er9) rfl rfl rfl ?_
    obtain ⟨r10, M11, er10, h⟩ := c0_e h
    refine g_callV0 C tb_X8_dyeOf_0_ok (i := 17) [.int r9] rfl mw_X8_setValues mv_X8_setValues ml_X8_121 k1 rfl rfl rfl rfl (w_X8_setValues C.G y a0 r9 M) er10 rfl rfl rfl ?_
    refine g_aload_n C tb_X8_dyeOf_0_ok (i := 18) rfl rfl ?_
    obtain ⟨n12, h⟩ := gN_e h
    refine g_getR C tb_X8_dyeOf_0_ok (i := 19) rfl fl_X8_29 rfl k1 n12 ?_
    refine g_iconstv C tb_X8_dyeOf_0_ok (i := 20) 4 rfl k_iconstv_4 ?_
    refine g_aload_n C tb_X8_dyeOf_0_ok (i := 21) rfl rfl ?_
    refine g_iload_n C tb_X8_dyeOf_0_ok (i := 22) rfl rfl ?_
    obtain ⟨r13, er13, h⟩ := cp_e h
    refine g_callV0 C tb_X8_dyeOf_0_ok (i := 23) [.int a1] rfl mw_X8_skillOf mv_X8_skillOf ml_X8_157 k1 rfl rfl rfl rfl (w_X8_skillOf C.G y a0 a1 M11) (pm_s er13) rfl rfl rfl ?_
    obtain ⟨b14, h⟩ := gA_e h
    refine g_iast C tb_X8_dyeOf_0_ok (i := 24) rfl b14 ?_
    refine g_mem (fun M15 eM15 => ?_)
    have h := lt_e eM15 h
    refine g_aload_n C tb_X8_dyeOf_0_ok (i := 25) rfl rfl ?_
    refine g_getR C tb_X8_dyeOf_0_ok (i := 26) rfl fl_X8_29 rfl k1 n12 ?_
    refine g_iconstv C tb_X8_dyeOf_0_ok (i := 27) 5 rfl k_iconstv_5 ?_
    refine g_iload_n C tb_X8_dyeOf_0_ok (i := 28) rfl rfl ?_
    obtain ⟨b16, h⟩ := gA_e h
    refine g_iast C tb_X8_dyeOf_0_ok (i := 29) rfl b16 ?_
    refine g_mem (fun M17 eM17 => ?_)
    have h := lt_e eM17 h
    refine g_iconstv C tb_X8_dyeOf_0_ok (i := 30) 0 rfl k_iconstv_0 ?_
    refine g_bipushv C tb_X8_dyeOf_0_ok (i := 31) 30 rfl k_bipushv_30 ?_
    refine g_aload_n C tb_X8_dyeOf_0_ok (i := 32) rfl rfl ?_
    refine g_getR C tb_X8_dyeOf_0_ok (i := 33) rfl fl_X8_32 rfl k1 n2 ?_
    refine g_getR C tb_X8_dyeOf_0_ok (i := 34) rfl fl_X8_154 rfl k3 n4 ?_
    refine g_aload_n C tb_X8_dyeOf_0_ok (i := 35) rfl rfl ?_
    refine g_getR C tb_X8_dyeOf_0_ok (i := 36) rfl fl_X8_29 rfl k1 n12 ?_
    obtain ⟨r18, M19, er18, h⟩ := c0_e h
    refine g_callV0 C tb_X8_dyeOf_0_ok (i := 37) [.ref (y.2.1 a0 6)] rfl mw_X5_worth mv_X5_worth ml_X8_125 k5 rfl rfl rfl rfl (w_X5_worth C.G y (y.2.1 (y.2.1 a0 0) 7) (y.2.1 a0 6) M17) er18 rfl rfl rfl ?_
    refine g_min C tb_X8_dyeOf_0_ok (i := 38) rfl mt_X8_64 rfl rfl rfl ?_
    refine g_max C tb_X8_dyeOf_0_ok (i := 39) rfl mt_X8_92 rfl rfl rfl ?_
    cases h
    exact g_iret0 C R tb_X8_dyeOf_1_ok (i := 0) rfl
  · have h := t7 c
    refine g_iconstv C tb_X8_dyeOf_0_ok (i := 5) 2 rfl k_iconstv_2 ?_
    refine g_aload_n C tb_X8_dyeOf_0_ok (i := 6) rfl rfl ?_
    refine g_iload_n C tb_X8_dyeOf_0_ok (i := 7) rfl rfl ?_
    obtain ⟨r20, er20, h⟩ := cp_e h
    refine g_callV0 C tb_X8_dyeOf_0_ok (i := 8) [.int a1] rfl mw_X8_skillOf mv_X8_skillOf ml_X8_157 k1 rfl rfl rfl rfl (w_X8_skillOf C.G y a0 a1 M) (pm_s er20) rfl rfl rfl ?_
    refine g_imul C tb_X8_dyeOf_0_ok (i := 9) rfl ?_
    refine g_iconstv C tb_X8_dyeOf_0_ok (i := 10) 3 rfl k_iconstv_3 ?_
    refine g_iadd C tb_X8_dyeOf_0_ok (i := 11) rfl ?_
    cases h
    exact g_iret0 C R tb_X8_dyeOf_0_ok (i := 12) rfl
def f_X8_isPegged (y : Lay) (a0 : Nat) (a1 : Int32) (M : Mem) : Option Int32 := gK y a0 (0, 8) (jn (fun (v2 : Int32) => gd (v2 = 0 ∨ v2 = 1) (some v2)) fun j3 => br ((((M.1 a0 7) >>> (a1 &&& 31)) &&& (1 : Int32)) = 0) (j3 (0 : Int32)) (j3 (1 : Int32)))
theorem w_X8_isPegged {g : GX} {l : Launch} (hG : GF g l) (y : Lay) (a0 : Nat) (a1 : Int32) (M : Mem) : C0 g l yX8_isPegged cX8_isPegged 2 (some .boolean) 0 y [.ref a0, .int a1] M (pm M (f_X8_isPegged y a0 a1 M)) := by
  refine CP_of hG (by decide) [some (.ref a0), some (.int a1)] rfl rfl (fun out h x Q C R => ?_)
  unfold f_X8_isPegged at h
  refine g_aload_n C tb_X8_isPegged_0_ok (i := 0) rfl rfl ?_
  obtain ⟨k1, h⟩ := gK_e h
  refine g_getI C tb_X8_isPegged_0_ok (i := 1) rfl fl_X8_39 rfl k1 ?_
  refine g_iload_n C tb_X8_isPegged_0_ok (i := 2) rfl rfl ?_
  refine g_ishr C tb_X8_isPegged_0_ok (i := 3) rfl ?_
  refine g_iconstv C tb_X8_isPegged_0_ok (i := 4) 1 rfl k_iconstv_1 ?_
  refine g_iand C tb_X8_isPegged_0_ok (i := 5) rfl ?_
  obtain ⟨j3, ej3, h⟩ := jn_e h
  have J16 : ∀ (v2 : Int32), j3 v2 = some out → GG g x 2 Q 0 0 y M 16 [none, none] [.int v2] := by
    intro v2 h; subst ej3
    obtain ⟨hz, h⟩ := gd_e h
    cases h
    exact g_zret0 C R hz tb_X8_isPegged_0_ok (i := 10) rfl
  obtain ⟨t4, f5⟩ := br_e h
  refine g_if_eq C tb_X8_isPegged_0_ok (i := 6) 15 rfl rfl (fun c => ?_) (fun c => ?_)
  · have h := t4 c
    refine g_iconstv C tb_X8_isPegged_0_ok (i := 9) 0 rfl k_iconstv_0 ?_
    exact g_less (L' := [none, none]) trivial (J16 (0 : Int32) h)
  · have h := f5 c
    refine g_iconstv C tb_X8_isPegged_0_ok (i := 7) 1 rfl k_iconstv_1 ?_
    refine g_goto C tb_X8_isPegged_0_ok (i := 8) 16 rfl rfl ?_
    exact g_less (L' := [none, none]) trivial (J16 (1 : Int32) h)
def f_X8_addBlue (y : Lay) (a0 : Nat) (a1 : Int32) (a2 : Int32) (M : Mem) : Option (Int32 × Mem) := jn (fun (M1 : Mem) => some (0, M1)) fun j2 => br (a1 < 0) (j2 M) (br ((30 : Int32) ≤ a1) (j2 M) (gK y a0 (0, 8) (cp (f_X8_isPegged y a0 a1 M) fun (r8 : Int32) => br (r8 = 0) (gN (y.2.1 a0 1) (gA y (y.2.1 a0 1) 1 a1 (gA y (y.2.1 a0 1) 1 a1 (lt (wI M (y.2.1 a0 1) a1.toNatClampNeg (jmin (99 : Int32) ((M.1 (y.2.1 a0 1) a1.toNatClampNeg) + a2))) fun (M14 : Mem) => j2 M14)))) (j2 M))))
theorem w_X8_addBlue {g : GX} {l : Launch} (hG : GF g l) (y : Lay) (a0 : Nat) (a1 : Int32) (a2 : Int32) (M : Mem) : C0 g l yX8_addBlue cX8_addBlue 3 none 1 y [.ref a0, .int a1, .int a2] M (f_X8_addBlue y a0 a1 a2 M) := by
  refine C0_of hG (by decide) [some (.ref a0), some (.int a1), some (.int a2)] rfl rfl (fun out h x Q C R => ?_)
  unfold f_X8_addBlue at h
  refine g_iload_n C tb_X8_addBlue_0_ok (i := 0) rfl rfl ?_
  obtain ⟨j2, ej2, h⟩ := jn_e h
  have J37 : ∀ (M1 : Mem), j2 M1 = some out → GG g x 3 Q 0 0 y M1 37 [none, none, none] [] := by
    intro M1 h; subst ej2
    cases h
    exact g_vret0 C R tb_X8_addBlue_0_ok (i := 21) rfl
  obtain ⟨t3, f4⟩ := br_e h
  refine g_if_lt C tb_X8_addBlue_0_ok (i := 1) 37 rfl rfl (fun c => ?_) (fun c => ?_)
  · have h := t3 c
    exact g_less (L' := [none, none, none]) trivial (J37 M h)
  · have h := f4 c
    refine g_iload_n C tb_X8_addBlue_0_ok (i := 2) rfl rfl ?_
    refine g_bipushv C tb_X8_addBlue_0_ok (i := 3) 30 rfl k_bipushv_30 ?_
    obtain ⟨t5, f6⟩ := br_e h
    refine g_icmp_ge C tb_X8_addBlue_0_ok (i := 4) 37 rfl rfl (fun c => ?_) (fun c => ?_)
    · have h := t5 c
      exact g_less (L' := [none, none, none]) trivial (J37 M h)
    · have h := f6 c
      refine g_aload_n C tb_X8_addBlue_0_ok (i := 5) rfl rfl ?_
      refine g_iload_n C tb_X8_addBlue_0_ok (i := 6) rfl rfl ?_
      obtain ⟨k7, h⟩ := gK_e h
      obtain ⟨r8, er8, h⟩ := cp_e h
      refine g_callV0 C tb_X8_addBlue_0_ok (i := 7) [.int a1] rfl mw_X8_isPegged mv_X8_isPegged ml_X8_70 k7 rfl rfl rfl rfl (w_X8_isPegged C.G y a0 a1 M) (pm_s er8) rfl rfl rfl ?_
      obtain ⟨t9, f10⟩ := br_e h
      refine g_if_ne C tb_X8_addBlue_0_ok (i := 8) 37 rfl rfl (fun c => ?_) (fun c => ?_)
      · have h := f10 c
        exact g_less (L' := [none, none, none]) trivial (J37 M h)
      · have h := t9 c
        refine g_aload_n C tb_X8_addBlue_0_ok (i := 9) rfl rfl ?_
        obtain ⟨n11, h⟩ := gN_e h
        refine g_getR C tb_X8_addBlue_0_ok (i := 10) rfl fl_X8_9 rfl k7 n11 ?_
        refine g_iload_n C tb_X8_addBlue_0_ok (i := 11) rfl rfl ?_
        refine g_bipushv C tb_X8_addBlue_0_ok (i := 12) 99 rfl k_bipushv_99 ?_
        refine g_aload_n C tb_X8_addBlue_0_ok (i := 13) rfl rfl ?_
        refine g_getR C tb_X8_addBlue_0_ok (i := 14) rfl fl_X8_9 rfl k7 n11 ?_
        refine g_iload_n C tb_X8_addBlue_0_ok (i := 15) rfl rfl ?_
        obtain ⟨b12, h⟩ := gA_e h
        refine g_iald C tb_X8_addBlue_0_ok (i := 16) rfl b12 ?_
        refine g_iload_n C tb_X8_addBlue_0_ok (i := 17) rfl rfl ?_
        refine g_iadd C tb_X8_addBlue_0_ok (i := 18) rfl ?_
        refine g_min C tb_X8_addBlue_0_ok (i := 19) rfl mt_X8_64 rfl rfl rfl ?_
        obtain ⟨b13, h⟩ := gA_e h
        refine g_iast C tb_X8_addBlue_0_ok (i := 20) rfl b13 ?_
        refine g_mem (fun M14 eM14 => ?_)
        have h := lt_e eM14 h
        exact g_less (L' := [none, none, none]) trivial (J37 M14 h)
def f_X1_isOld (y : Lay) (a0 : Nat) (a1 : Int32) (M : Mem) : Option Int32 := gK y a0 (0, 1) (jn (fun (v2 : Int32) => gd (v2 = 0 ∨ v2 = 1) (some v2)) fun j3 => br ((((M.1 a0 5) >>> (a1 &&& 31)) &&& (1 : Int32)) = 0) (j3 (0 : Int32)) (j3 (1 : Int32)))
theorem w_X1_isOld {g : GX} {l : Launch} (hG : GF g l) (y : Lay) (a0 : Nat) (a1 : Int32) (M : Mem) : C0 g l yX1_isOld cX1_isOld 2 (some .boolean) 0 y [.ref a0, .int a1] M (pm M (f_X1_isOld y a0 a1 M)) := by
  refine CP_of hG (by decide) [some (.ref a0), some (.int a1)] rfl rfl (fun out h x Q C R => ?_)
  unfold f_X1_isOld at h
  refine g_aload_n C tb_X1_isOld_0_ok (i := 0) rfl rfl ?_
  obtain ⟨k1, h⟩ := gK_e h
  refine g_getI C tb_X1_isOld_0_ok (i := 1) rfl fl_X1_42 rfl k1 ?_
  refine g_iload_n C tb_X1_isOld_0_ok (i := 2) rfl rfl ?_
  refine g_ishr C tb_X1_isOld_0_ok (i := 3) rfl ?_
  refine g_iconstv C tb_X1_isOld_0_ok (i := 4) 1 rfl k_iconstv_1 ?_
  refine g_iand C tb_X1_isOld_0_ok (i := 5) rfl ?_
  obtain ⟨j3, ej3, h⟩ := jn_e h
  have J16 : ∀ (v2 : Int32), j3 v2 = some out → GG g x 2 Q 0 0 y M 16 [none, none] [.int v2] := by
    intro v2 h; subst ej3
    obtain ⟨hz, h⟩ := gd_e h
    cases h
    exact g_zret0 C R hz tb_X1_isOld_0_ok (i := 10) rfl
  obtain ⟨t4, f5⟩ := br_e h
  refine g_if_eq C tb_X1_isOld_0_ok (i := 6) 15 rfl rfl (fun c => ?_) (fun c => ?_)
  · have h := t4 c
    refine g_iconstv C tb_X1_isOld_0_ok (i := 9) 0 rfl k_iconstv_0 ?_
    exact g_less (L' := [none, none]) trivial (J16 (0 : Int32) h)
  · have h := f5 c
    refine g_iconstv C tb_X1_isOld_0_ok (i := 7) 1 rfl k_iconstv_1 ?_
    refine g_goto C tb_X1_isOld_0_ok (i := 8) 16 rfl rfl ?_
    exact g_less (L' := [none, none]) trivial (J16 (1 : Int32) h)
def f_X8_drip (y : Lay) (a0 : Nat) (a1 : Int32) (a2 : Int32) (M : Mem) : Option (Int32 × Mem) := fixN (fun _ _ _ => none) (fun (s4 : Int32 → Int32 → Mem → Option (Int32 × Mem)) (v1 : Int32) (v2 : Int32) (M3 : Mem) => gK y a0 (0, 8) (gN (y.2.1 a0 0) (gK y (y.2.1 a0 0) (0, 1) (cp (f_X1_cells y (y.2.1 a0 0) M3) fun (r9 : Int32) => br (r9 ≤ v2) (some (0, M3)) (jn (fun (v12 : Int32) (M13 : Mem) => lt (v2 + (1 : Int32)) fun (v15 : Int32) => s4 v12 v15 M13) fun j14 => br (v2 ≤ a1) (j14 v1 M3) (cp (f_X1_columnOf y (y.2.1 a0 0) v2 M3) fun (r18 : Int32) => cp (f_X1_columnOf y (y.2.1 a0 0) a1 M3) fun (r19 : Int32) => br (r18 = r19) (c0 (f_X8_addBlue y a0 v2 v1 M3) fun (r22 : Int32) (M23 : Mem) => gd (¬ (2 : Int32) = 0) (lt (v1 / (2 : Int32)) fun (v25 : Int32) => j14 v25 M23)) (j14 v1 M3))))))) FUEL a2 (0 : Int32) M
theorem w_X8_drip {g : GX} {l : Launch} (hG : GF g l) (y : Lay) (a0 : Nat) (a1 : Int32) (a2 : Int32) (M : Mem) : C0 g l yX8_drip cX8_drip 5 none 2 y [.ref a0, .int a1, .int a2] M (f_X8_drip y a0 a1 a2 M) := by
  refine C0_of hG (by decide) [some (.ref a0), some (.int a1), some (.int a2), none, none] rfl rfl (fun out h x Q C R => ?_)
  unfold f_X8_drip at h
  refine g_iload_n C tb_X8_drip_0_ok (i := 0) rfl rfl ?_
  refine g_istore_n C tb_X8_drip_0_ok (i := 1) rfl rfl rfl ?_
  refine g_iconstv C tb_X8_drip_0_ok (i := 2) 0 rfl k_iconstv_0 ?_
  refine g_istore C tb_X8_drip_0_ok (i := 3) rfl rfl rfl ?_
  refine g_less (L' := [some (.ref a0), some (.int a1), none, some (.int a2), some (.int (0 : Int32))]) ⟨rfl, ⟨rfl, ⟨rfl, ⟨rfl, trivial⟩⟩⟩⟩ ?_
  refine fix_i (P := fun (f : Int32 → Int32 → Mem → Option (Int32 × Mem)) => ∀ (v1 : Int32) (v2 : Int32) (M3 : Mem), f v1 v2 M3 = some out → GG g x 5 Q 0 0 y M3 5 [some (.ref a0), some (.int a1), none, some (.int v1), some (.int v2)] []) ?_ ?_ _ a2 (0 : Int32) M h
  · intro v1 v2 M3 h; exact (nn_e h).elim
  · intro s4 ih5 v1 v2 M3 h
    refine g_iload C tb_X8_drip_0_ok (i := 4) rfl rfl ?_
    refine g_aload_n C tb_X8_drip_0_ok (i := 5) rfl rfl ?_
    obtain ⟨k6, h⟩ := gK_e h
    obtain ⟨n7, h⟩ := gN_e h
    refine g_getR C tb_X8_drip_0_ok (i := 6) rfl fl_X8_32 rfl k6 n7 ?_
    obtain ⟨k8, h⟩ := gK_e h
    obtain ⟨r9, er9, h⟩ := cp_e h
    refine g_callV0 C tb_X8_drip_0_ok (i := 7) [] rfl mw_X1_cells mv_X1_cells ml_X8_147 k8 rfl rfl rfl rfl (w_X1_cells C.G y (y.2.1 a0 0) M3) (pm_s er9) rfl rfl rfl ?_
    obtain ⟨t10, f11⟩ := br_e h
    refine g_icmp_ge C tb_X8_drip_0_ok (i := 8) 60 rfl rfl (fun c => ?_) (fun c => ?_)
    · have h := t10 c
      cases h
      exact g_vret0 C R tb_X8_drip_0_ok (i := 31) rfl
    · have h := f11 c
      refine g_iload C tb_X8_drip_0_ok (i := 9) rfl rfl ?_
      refine g_iload_n C tb_X8_drip_0_ok (i := 10) rfl rfl ?_
      obtain ⟨j14, ej14, h⟩ := jn_e h
      have J54 : ∀ (v12 : Int32) (M13 : Mem), j14 v12 M13 = some out → GG g x 5 Q 0 0 y M13 54 [some (.ref a0), some (.int a1), none, some (.int v12), some (.int v2)] [] := by
        intro v12 M13 h; subst ej14
        obtain ⟨v15, ev15⟩ : ∃ w : Int32, w = v2 + (1 : Int32) := ⟨_, rfl⟩
        have h := lt_e ev15 h
        refine g_iincv C tb_X8_drip_0_ok (i := 29) (1 : Int32) ev15 rfl rfl k_iconstv_1 rfl rfl ?_
        refine g_goto C tb_X8_drip_0_ok (i := 30) 5 rfl rfl ?_
        exact g_less (L' := [some (.ref a0), some (.int a1), none, some (.int v12), some (.int v15)]) ⟨rfl, ⟨rfl, ⟨rfl, ⟨rfl, trivial⟩⟩⟩⟩ (ih5 v12 v15 M13 h)
      obtain ⟨t16, f17⟩ := br_e h
      refine g_icmp_le C tb_X8_drip_0_ok (i := 11) 54 rfl rfl (fun c => ?_) (fun c => ?_)
      · have h := t16 c
        exact g_less (L' := [some (.ref a0), some (.int a1), none, some (.int v1), some (.int v2)]) ⟨rfl, ⟨rfl, ⟨rfl, ⟨rfl, trivial⟩⟩⟩⟩ (J54 v1 M3 h)
      · have h := f17 c
        refine g_aload_n C tb_X8_drip_0_ok (i := 12) rfl rfl ?_
        refine g_getR C tb_X8_drip_0_ok (i := 13) rfl fl_X8_32 rfl k6 n7 ?_
        refine g_iload C tb_X8_drip_0_ok (i := 14) rfl rfl ?_
        obtain ⟨r18, er18, h⟩ := cp_e h
        refine g_callV0 C tb_X8_drip_0_ok (i := 15) [.int v2] rfl mw_X1_columnOf mv_X1_columnOf ml_X8_151 k8 rfl rfl rfl rfl (w_X1_columnOf C.G y (y.2.1 a0 0) v2 M3) (pm_s er18) rfl rfl rfl ?_
        refine g_aload_n C tb_X8_drip_0_ok (i := 16) rfl rfl ?_
        refine g_getR C tb_X8_drip_0_ok (i := 17) rfl fl_X8_32 rfl k6 n7 ?_
        refine g_iload_n C tb_X8_drip_0_ok (i := 18) rfl rfl ?_
        obtain ⟨r19, er19, h⟩ := cp_e h
        refine g_callV0 C tb_X8_drip_0_ok (i := 19) [.int a1] rfl mw_X1_columnOf mv_X1_columnOf ml_X8_151 k8 rfl rfl rfl rfl (w_X1_columnOf C.G y (y.2.1 a0 0) a1 M3) (pm_s er19) rfl rfl rfl ?_
        obtain ⟨t20, f21⟩ := br_e h
        refine g_icmp_ne C tb_X8_drip_0_ok (i := 20) 54 rfl rfl (fun c => ?_) (fun c => ?_)
        · have h := f21 c
          exact g_less (L' := [some (.ref a0), some (.int a1), none, some (.int v1), some (.int v2)]) ⟨rfl, ⟨rfl, ⟨rfl, ⟨rfl, trivial⟩⟩⟩⟩ (J54 v1 M3 h)
        · have h := t20 c
          refine g_aload_n C tb_X8_drip_0_ok (i := 21) rfl rfl ?_
          refine g_iload C tb_X8_drip_0_ok (i := 22) rfl rfl ?_
          refine g_iload_n C tb_X8_drip_0_ok (i := 23) rfl rfl ?_
          obtain ⟨r22, M23, er22, h⟩ := c0_e h
          refine g_callV0 C tb_X8_drip_0_ok (i := 24) [.int v2, .int v1] rfl mw_X8_addBlue mv_X8_addBlue ml_X8_135 k6 rfl rfl rfl rfl (w_X8_addBlue C.G y a0 v2 v1 M3) er22 rfl rfl rfl ?_
          refine g_iload_n C tb_X8_drip_0_ok (i := 25) rfl rfl ?_
          refine g_iconstv C tb_X8_drip_0_ok (i := 26) 2 rfl k_iconstv_2 ?_
          obtain ⟨n24, h⟩ := gd_e h
          refine g_idiv C tb_X8_drip_0_ok (i := 27) rfl n24 ?_
          refine g_topi (fun v25 ev25 => ?_)
          have h := lt_e ev25 h
          refine g_istore_n C tb_X8_drip_0_ok (i := 28) rfl rfl rfl ?_
          exact g_less (L' := [some (.ref a0), some (.int a1), none, some (.int v25), some (.int v2)]) ⟨rfl, ⟨rfl, ⟨rfl, ⟨rfl, trivial⟩⟩⟩⟩ (J54 v25 M23 h)
def f_X8_swish (y : Lay) (a0 : Nat) (a1 : Int32) (a2 : Int32) (M : Mem) : Option (Int32 × Mem) := gK y a0 (0, 8) (c0 (f_X8_dyeOf y a0 a1 a2 M) fun (r2 : Int32) (M3 : Mem) => cp (f_X8_spotOf y a0 a1 M3) fun (r4 : Int32) => c0 (f_X8_addBlue y a0 r4 r2 M3) fun (r5 : Int32) (M6 : Mem) => gN (y.2.1 a0 0) (gK y (y.2.1 a0 0) (0, 1) (cp (f_X1_isOld y (y.2.1 a0 0) a1 M6) fun (r9 : Int32) => jn (fun (M10 : Mem) => some (0, M10)) fun j11 => br (r9 = 0) (cp (f_X1_besideBits y (y.2.1 a0 0) r4 M6) fun (r14 : Int32) => fixN (fun _ _ => none) (fun (s17 : Int32 → Mem → Option (Int32 × Mem)) (v15 : Int32) (M16 : Mem) => cp (f_X1_cells y (y.2.1 a0 0) M16) fun (r19 : Int32) => br (r19 ≤ v15) (j11 M16) (jn (fun (M22 : Mem) => lt (v15 + (1 : Int32)) fun (v24 : Int32) => s17 v24 M22) fun j23 => br (((r14 >>> (v15 &&& 31)) &&& (1 : Int32)) = 0) (j23 M16) (gd (¬ (2 : Int32) = 0) (c0 (f_X8_addBlue y a0 v15 (r2 / (2 : Int32)) M16) fun (r28 : Int32) (M29 : Mem) => j23 M29)))) FUEL (0 : Int32) M6) (gd (¬ (2 : Int32) = 0) (c0 (f_X8_drip y a0 r4 (r2 / (2 : Int32)) M6) fun (r31 : Int32) (M32 : Mem) => j11 M32)))))
theorem w_X8_swish {g : GX} {l : Launch} (hG : GF g l) (y : Lay) (a0 : Nat) (a1 : Int32) (a2 : Int32) (M : Mem) : C0 g l yX8_swish cX8_swish 7 none 3 y [.ref a0, .int a1, .int a2] M (f_X8_swish y a0 a1 a2 M) := by
  refine C0_of hG (by decide) [some (.ref a0), some (.int a1), some (.int a2), none, none, none, none] rfl rfl (fun out h x Q C R => ?_)
  unfold f_X8_swish at h
  refine g_aload_n C tb_X8_swish_0_ok (i := 0) rfl rfl ?_
  refine g_iload_n C tb_X8_swish_0_ok (i := 1) rfl rfl ?_
  refine g_iload_n C tb_X8_swish_0_ok (i := 2) rfl rfl ?_
  obtain ⟨k1, h⟩ := gK_e h
  obtain ⟨r2, M3, er2, h⟩ := c0_e h
  refine g_callV0 C tb_X8_swish_0_ok (i := 3) [.int a1, .int a2] rfl mw_X8_dyeOf mv_X8_dyeOf ml_X8_129 k1 rfl rfl rfl rfl (w_X8_dyeOf C.G y a0 a1 a2 M) er2 rfl rfl rfl ?_
  refine g_istore_n C tb_X8_swish_0_ok (i := 4) rfl rfl rfl ?_
  refine g_aload_n C tb_X8_swish_0_ok (i := 5) rfl rfl ?_
  refine g_iload_n C tb_X8_swish_0_ok (i := 6) rfl rfl ?_
  obtain ⟨r4, er4, h⟩ := cp_e h
  refine g_callV0 C tb_X8_swish_0_ok (i := 7) [.int a1] rfl mw_X8_spotOf mv_X8_spotOf ml_X8_132 k1 rfl rfl rfl rfl (w_X8_spotOf C.G y a0 a1 M3) (pm_s er4) rfl rfl rfl ?_
  refine g_istore C tb_X8_swish_0_ok (i := 8) rfl rfl rfl ?_
  refine g_aload_n C tb_X8_swish_0_ok (i := 9) rfl rfl ?_
  refine g_iload C tb_X8_swish_0_ok (i := 10) rfl rfl ?_
  refine g_iload_n C tb_X8_swish_0_ok (i := 11) rfl rfl ?_
  obtain ⟨r5, M6, er5, h⟩ := c0_e h
  refine g_callV0 C tb_X8_swish_0_ok (i := 12) [.int r4, .int r2] rfl mw_X8_addBlue mv_X8_addBlue ml_X8_135 k1 rfl rfl rfl rfl (w_X8_addBlue C.G y a0 r4 r2 M3) er5 rfl rfl rfl ?_
  refine g_aload_n C tb_X8_swish_0_ok (i := 13) rfl rfl ?_
  obtain ⟨n7, h⟩ := gN_e h
  refine g_getR C tb_X8_swish_0_ok (i := 14) rfl fl_X8_32 rfl k1 n7 ?_
  refine g_iload_n C tb_X8_swish_0_ok (i := 15) rfl rfl ?_
  obtain ⟨k8, h⟩ := gK_e h
  obtain ⟨r9, er9, h⟩ := cp_e h
  refine g_callV0 C tb_X8_swish_0_ok (i := 16) [.int a1] rfl mw_X1_isOld mv_X1_isOld ml_X8_138 k8 rfl rfl rfl rfl (w_X1_isOld C.G y (y.2.1 a0 0) a1 M6) (pm_s er9) rfl rfl rfl ?_
  obtain ⟨j11, ej11, h⟩ := jn_e h
  have J95 : ∀ (M10 : Mem), j11 M10 = some out → GG g x 7 Q 0 0 y M10 95 [none, none, none, none, none, none, none] [] := by
    intro M10 h; subst ej11
    cases h
    exact g_vret0 C R tb_X8_swish_1_ok (i := 11) rfl
  obtain ⟨t12, f13⟩ := br_e h
  refine g_if_eq C tb_X8_swish_0_ok (i := 17) 44 rfl rfl (fun c => ?_) (fun c => ?_)
  · have h := t12 c
    refine g_aload_n C tb_X8_swish_0_ok (i := 25) rfl rfl ?_
    refine g_getR C tb_X8_swish_0_ok (i := 26) rfl fl_X8_32 rfl k1 n7 ?_
    refine g_iload C tb_X8_swish_0_ok (i := 27) rfl rfl ?_
    obtain ⟨r14, er14, h⟩ := cp_e h
    refine g_callV0 C tb_X8_swish_0_ok (i := 28) [.int r4] rfl mw_X1_besideBits mv_X1_besideBits ml_X8_144 k8 rfl rfl rfl rfl (w_X1_besideBits C.G y (y.2.1 a0 0) r4 M6) (pm_s er14) rfl rfl rfl ?_
    refine g_istore C tb_X8_swish_0_ok (i := 29) rfl rfl rfl ?_
    refine g_iconstv C tb_X8_swish_0_ok (i := 30) 0 rfl k_iconstv_0 ?_
    refine g_istore C tb_X8_swish_0_ok (i := 31) rfl rfl rfl ?_
    refine g_less (L' := [some (.ref a0), none, none, some (.int r2), none, some (.int r14), some (.int (0 : Int32))]) ⟨rfl, ⟨rfl, ⟨rfl, ⟨rfl, trivial⟩⟩⟩⟩ ?_
    refine fix_i (P := fun (f : Int32 → Mem → Option (Int32 × Mem)) => ∀ (v15 : Int32) (M16 : Mem), f v15 M16 = some out → GG g x 7 Q 0 0 y M16 58 [some (.ref a0), none, none, some (.int r2), none, some (.int r14), some (.int v15)] []) ?_ ?_ _ (0 : Int32) M6 h
    · intro v15 M16 h; exact (nn_e h).elim
    · intro s17 ih18 v15 M16 h
      refine g_iload C tb_X8_swish_0_ok (i := 32) rfl rfl ?_
      refine g_aload_n C tb_X8_swish_0_ok (i := 33) rfl rfl ?_
      refine g_getR C tb_X8_swish_0_ok (i := 34) rfl fl_X8_32 rfl k1 n7 ?_
      obtain ⟨r19, er19, h⟩ := cp_e h
      refine g_callV0 C tb_X8_swish_0_ok (i := 35) [] rfl mw_X1_cells mv_X1_cells ml_X8_147 k8 rfl rfl rfl rfl (w_X1_cells C.G y (y.2.1 a0 0) M16) (pm_s er19) rfl rfl rfl ?_
      obtain ⟨t20, f21⟩ := br_e h
      refine g_icmp_ge C tb_X8_swish_0_ok (i := 36) 95 rfl rfl (fun c => ?_) (fun c => ?_)
      · have h := t20 c
        exact g_less (L' := [none, none, none, none, none, none, none]) trivial (J95 M16 h)
      · have h := f21 c
        refine g_iload C tb_X8_swish_0_ok (i := 37) rfl rfl ?_
        refine g_iload C tb_X8_swish_0_ok (i := 38) rfl rfl ?_
        refine g_ishr C tb_X8_swish_0_ok (i := 39) rfl ?_
        refine g_iconstv C tb_X8_swish_1_ok (i := 0) 1 rfl k_iconstv_1 ?_
        refine g_iand C tb_X8_swish_1_ok (i := 1) rfl ?_
        obtain ⟨j23, ej23, h⟩ := jn_e h
        have J89 : ∀ (M22 : Mem), j23 M22 = some out → GG g x 7 Q 0 0 y M22 89 [some (.ref a0), none, none, some (.int r2), none, some (.int r14), some (.int v15)] [] := by
          intro M22 h; subst ej23
          obtain ⟨v24, ev24⟩ : ∃ w : Int32, w = v15 + (1 : Int32) := ⟨_, rfl⟩
          have h := lt_e ev24 h
          refine g_iincv C tb_X8_swish_1_ok (i := 9) (1 : Int32) ev24 rfl rfl k_iconstv_1 rfl rfl ?_
          refine g_goto C tb_X8_swish_1_ok (i := 10) 58 rfl rfl ?_
          exact g_less (L' := [some (.ref a0), none, none, some (.int r2), none, some (.int r14), some (.int v24)]) ⟨rfl, ⟨rfl, ⟨rfl, ⟨rfl, trivial⟩⟩⟩⟩ (ih18 v24 M22 h)
        obtain ⟨t25, f26⟩ := br_e h
        refine g_if_eq C tb_X8_swish_1_ok (i := 2) 89 rfl rfl (fun c => ?_) (fun c => ?_)
        · have h := t25 c
          exact g_less (L' := [some (.ref a0), none, none, some (.int r2), none, some (.int r14), some (.int v15)]) ⟨rfl, ⟨rfl, ⟨rfl, ⟨rfl, trivial⟩⟩⟩⟩ (J89 M16 h)
        · have h := f26 c
          refine g_aload_n C tb_X8_swish_1_ok (i := 3) rfl rfl ?_
          refine g_iload C tb_X8_swish_1_ok (i := 4) rfl rfl ?_
          refine g_iload_n C tb_X8_swish_1_ok (i := 5) rfl rfl ?_
          refine g_iconstv C tb_X8_swish_1_ok (i := 6) 2 rfl k_iconstv_2 ?_
          obtain ⟨n27, h⟩ := gd_e h
          refine g_idiv C tb_X8_swish_1_ok (i := 7) rfl n27 ?_
          obtain ⟨r28, M29, er28, h⟩ := c0_e h
          refine g_callV0 C tb_X8_swish_1_ok (i := 8) [.int v15, .int (r2 / (2 : Int32))] rfl mw_X8_addBlue mv_X8_addBlue ml_X8_135 k1 rfl rfl rfl rfl (w_X8_addBlue C.G y a0 v15 (r2 / (2 : Int32)) M16) er28 rfl rfl rfl ?_
          exact g_less (L' := [some (.ref a0), none, none, some (.int r2), none, some (.int r14), some (.int v15)]) ⟨rfl, ⟨rfl, ⟨rfl, ⟨rfl, trivial⟩⟩⟩⟩ (J89 M29 h)
  · have h := f13 c
    refine g_aload_n C tb_X8_swish_0_ok (i := 18) rfl rfl ?_
    refine g_iload C tb_X8_swish_0_ok (i := 19) rfl rfl ?_
    refine g_iload_n C tb_X8_swish_0_ok (i := 20) rfl rfl ?_
    refine g_iconstv C tb_X8_swish_0_ok (i := 21) 2 rfl k_iconstv_2 ?_
    obtain ⟨n30, h⟩ := gd_e h
    refine g_idiv C tb_X8_swish_0_ok (i := 22) rfl n30 ?_
    obtain ⟨r31, M32, er31, h⟩ := c0_e h
    refine g_callV0 C tb_X8_swish_0_ok (i := 23) [.int r4, .int (r2 / (2 : Int32))] rfl mw_X8_drip mv_X8_drip ml_X8_141 k1 rfl rfl rfl rfl (w_X8_drip C.G y a0 r4 (r2 / (2 : Int32)) M6) er31 rfl rfl rfl ?_
    refine g_goto C tb_X8_swish_0_ok (i := 24) 95 rfl rfl ?_
    exact g_less (L' := [none, none, none, none, none, none, none]) trivial (J95 M32 h)
def f_J6_bitCount_0f7a4 (y : Lay) (a0 : Int32) (M : Mem) : Option Int32 := lt (a0 - (((a0.toUInt32 >>> ((1 : Int32).toUInt32 &&& Int32.toUInt32 31)).toInt32) &&& (1431655765 : Int32))) fun (v1 : Int32) => lt ((v1 &&& (858993459 : Int32)) + (((v1.toUInt32 >>> ((2 : Int32).toUInt32 &&& Int32.toUInt32 31)).toInt32) &&& (858993459 : Int32))) fun (v2 : Int32) => lt ((v2 + ((v2.toUInt32 >>> ((4 : Int32).toUInt32 &&& Int32.toUInt32 31)).toInt32)) &&& (252645135 : Int32)) fun (v3 : Int32) => lt (v3 + ((v3.toUInt32 >>> ((8 : Int32).toUInt32 &&& Int32.toUInt32 31)).toInt32)) fun (v4 : Int32) => lt (v4 + ((v4.toUInt32 >>> ((16 : Int32).toUInt32 &&& Int32.toUInt32 31)).toInt32)) fun (v5 : Int32) => some (v5 &&& (63 : Int32))
theorem w_J6_bitCount_0f7a4 {g : GX} {l : Launch} (hG : GF g l) (y : Lay) (a0 : Int32) (M : Mem) : C0 g l yJ6_bitCount_0f7a4 cJ6_bitCount_0f7a4 1 (some .int) 0 y [.int a0] M (pm M (f_J6_bitCount_0f7a4 y a0 M)) := by
  refine CP_of hG (by decide) [some (.int a0)] rfl rfl (fun out h x Q C R => ?_)
  unfold f_J6_bitCount_0f7a4 at h
  refine g_iload_n C tb_J6_bitCount_0f7a4_0_ok (i := 0) rfl rfl ?_
  refine g_iload_n C tb_J6_bitCount_0f7a4_0_ok (i := 1) rfl rfl ?_
  refine g_iconstv C tb_J6_bitCount_0f7a4_0_ok (i := 2) 1 rfl k_iconstv_1 ?_
  refine g_iushr C tb_J6_bitCount_0f7a4_0_ok (i := 3) rfl ?_
  refine g_ldcIw C tb_J6_bitCount_0f7a4_0_ok (i := 4) rfl cl_J6_265 ?_
  refine g_iand C tb_J6_bitCount_0f7a4_0_ok (i := 5) rfl ?_
  refine g_isub C tb_J6_bitCount_0f7a4_0_ok (i := 6) rfl ?_
  refine g_topi (fun v1 ev1 => ?_)
  have h := lt_e ev1 h
  refine g_istore_n C tb_J6_bitCount_0f7a4_0_ok (i := 7) rfl rfl rfl ?_
  refine g_iload_n C tb_J6_bitCount_0f7a4_0_ok (i := 8) rfl rfl ?_
  refine g_ldcIw C tb_J6_bitCount_0f7a4_0_ok (i := 9) rfl cl_J6_266 ?_
  refine g_iand C tb_J6_bitCount_0f7a4_0_ok (i := 10) rfl ?_
  refine g_iload_n C tb_J6_bitCount_0f7a4_0_ok (i := 11) rfl rfl ?_
  refine g_iconstv C tb_J6_bitCount_0f7a4_0_ok (i := 12) 2 rfl k_iconstv_2 ?_
  refine g_iushr C tb_J6_bitCount_0f7a4_0_ok (i := 13) rfl ?_
  refine g_ldcIw C tb_J6_bitCount_0f7a4_0_ok (i := 14) rfl cl_J6_266 ?_
  refine g_iand C tb_J6_bitCount_0f7a4_0_ok (i := 15) rfl ?_
  refine g_iadd C tb_J6_bitCount_0f7a4_0_ok (i := 16) rfl ?_
  refine g_topi (fun v2 ev2 => ?_)
  have h := lt_e ev2 h
  refine g_istore_n C tb_J6_bitCount_0f7a4_0_ok (i := 17) rfl rfl rfl ?_
  refine g_iload_n C tb_J6_bitCount_0f7a4_0_ok (i := 18) rfl rfl ?_
  refine g_iload_n C tb_J6_bitCount_0f7a4_0_ok (i := 19) rfl rfl ?_
  refine g_iconstv C tb_J6_bitCount_0f7a4_0_ok (i := 20) 4 rfl k_iconstv_4 ?_
  refine g_iushr C tb_J6_bitCount_0f7a4_0_ok (i := 21) rfl ?_
  refine g_iadd C tb_J6_bitCount_0f7a4_0_ok (i := 22) rfl ?_
  refine g_ldcIw C tb_J6_bitCount_0f7a4_0_ok (i := 23) rfl cl_J6_267 ?_
  refine g_iand C tb_J6_bitCount_0f7a4_0_ok (i := 24) rfl ?_
  refine g_topi (fun v3 ev3 => ?_)
  have h := lt_e ev3 h
  refine g_istore_n C tb_J6_bitCount_0f7a4_0_ok (i := 25) rfl rfl rfl ?_
  refine g_iload_n C tb_J6_bitCount_0f7a4_0_ok (i := 26) rfl rfl ?_
  refine g_iload_n C tb_J6_bitCount_0f7a4_0_ok (i := 27) rfl rfl ?_
  refine g_bipushv C tb_J6_bitCount_0f7a4_0_ok (i := 28) 8 rfl k_bipushv_8 ?_
  refine g_iushr C tb_J6_bitCount_0f7a4_0_ok (i := 29) rfl ?_
  refine g_iadd C tb_J6_bitCount_0f7a4_0_ok (i := 30) rfl ?_
  refine g_topi (fun v4 ev4 => ?_)
  have h := lt_e ev4 h
  refine g_istore_n C tb_J6_bitCount_0f7a4_0_ok (i := 31) rfl rfl rfl ?_
  refine g_iload_n C tb_J6_bitCount_0f7a4_0_ok (i := 32) rfl rfl ?_
  refine g_iload_n C tb_J6_bitCount_0f7a4_0_ok (i := 33) rfl rfl ?_
  refine g_bipushv C tb_J6_bitCount_0f7a4_0_ok (i := 34) 16 rfl k_bipushv_16 ?_
  refine g_iushr C tb_J6_bitCount_0f7a4_0_ok (i := 35) rfl ?_
  refine g_iadd C tb_J6_bitCount_0f7a4_0_ok (i := 36) rfl ?_
  refine g_topi (fun v5 ev5 => ?_)
  have h := lt_e ev5 h
  refine g_istore_n C tb_J6_bitCount_0f7a4_0_ok (i := 37) rfl rfl rfl ?_
  refine g_iload_n C tb_J6_bitCount_0f7a4_0_ok (i := 38) rfl rfl ?_
  refine g_bipushv C tb_J6_bitCount_0f7a4_0_ok (i := 39) 63 rfl k_bipushv_63 ?_
  refine g_iand C tb_J6_bitCount_0f7a4_1_ok (i := 0) rfl ?_
  cases h
  exact g_iret0 C R tb_J6_bitCount_0f7a4_1_ok (i := 1) rfl
def f_X8_markOverdone (y : Lay) (a0 : Nat) (M : Mem) : Option (Int32 × Mem) := gK y a0 (0, 8) (lt (wI M a0 12 (0 : Int32)) fun (M2 : Mem) => fixN (fun _ _ => none) (fun (s5 : Int32 → Mem → Option (Int32 × Mem)) (v3 : Int32) (M4 : Mem) => br ((30 : Int32) ≤ v3) (cp (f_J6_bitCount_0f7a4 y (M4.1 a0 12) M4) fun (r9 : Int32) => lt (wI M4 a0 10 (jmin (9999 : Int32) ((M4.1 a0 10) + r9))) fun (M10 : Mem) => some (0, M10)) (gN (y.2.1 a0 1) (gA y (y.2.1 a0 1) 1 v3 (gN (y.2.1 a0 0) (gK y (y.2.1 a0 0) (0, 1) (jn (fun (M15 : Mem) => lt (v3 + (1 : Int32)) fun (v17 : Int32) => s5 v17 M15) fun j16 => br ((M4.1 (y.2.1 a0 1) v3.toNatClampNeg) ≤ (M4.1 (y.2.1 a0 0) 3)) (j16 M4) (lt (wI M4 a0 12 ((M4.1 a0 12) ||| ((1 : Int32) <<< (v3 &&& 31)))) fun (M20 : Mem) => j16 M20))))))) FUEL (0 : Int32) M2)
theorem w_X8_markOverdone {g : GX} {l : Launch} (hG : GF g l) (y : Lay) (a0 : Nat) (M : Mem) : C0 g l yX8_markOverdone cX8_markOverdone 2 none 1 y [.ref a0] M (f_X8_markOverdone y a0 M) := by
  refine C0_of hG (by decide) [some (.ref a0), none] rfl rfl (fun out h x Q C R => ?_)
  unfold f_X8_markOverdone at h
  refine g_aload_n C tb_X8_markOverdone_0_ok (i := 0) rfl rfl ?_
  refine g_iconstv C tb_X8_markOverdone_0_ok (i := 1) 0 rfl k_iconstv_0 ?_
  obtain ⟨k1, h⟩ := gK_e h
  refine g_putI C tb_X8_markOverdone_0_ok (i := 2) rfl fl_X8_55 ft_8_12 rfl k1 ?_
  refine g_mem (fun M2 eM2 => ?_)
  have h := lt_e eM2 h
  refine g_iconstv C tb_X8_markOverdone_0_ok (i := 3) 0 rfl k_iconstv_0 ?_
  refine g_istore_n C tb_X8_markOverdone_0_ok (i := 4) rfl rfl rfl ?_
  refine g_less (L' := [some (.ref a0), some (.int (0 : Int32))]) ⟨rfl, ⟨rfl, trivial⟩⟩ ?_
  refine fix_i (P := fun (f : Int32 → Mem → Option (Int32 × Mem)) => ∀ (v3 : Int32) (M4 : Mem), f v3 M4 = some out → GG g x 2 Q 0 0 y M4 7 [some (.ref a0), some (.int v3)] []) ?_ ?_ _ (0 : Int32) M2 h
  · intro v3 M4 h; exact (nn_e h).elim
  · intro s5 ih6 v3 M4 h
    refine g_iload_n C tb_X8_markOverdone_0_ok (i := 5) rfl rfl ?_
    refine g_bipushv C tb_X8_markOverdone_0_ok (i := 6) 30 rfl k_bipushv_30 ?_
    obtain ⟨t7, f8⟩ := br_e h
    refine g_icmp_ge C tb_X8_markOverdone_0_ok (i := 7) 47 rfl rfl (fun c => ?_) (fun c => ?_)
    · have h := t7 c
      refine g_aload_n C tb_X8_markOverdone_0_ok (i := 26) rfl rfl ?_
      refine g_sipushv C tb_X8_markOverdone_0_ok (i := 27) 9999 rfl k_sipushv_9999 ?_
      refine g_aload_n C tb_X8_markOverdone_0_ok (i := 28) rfl rfl ?_
      refine g_getI C tb_X8_markOverdone_0_ok (i := 29) rfl fl_X8_49 rfl k1 ?_
      refine g_aload_n C tb_X8_markOverdone_0_ok (i := 30) rfl rfl ?_
      refine g_getI C tb_X8_markOverdone_0_ok (i := 31) rfl fl_X8_55 rfl k1 ?_
      obtain ⟨r9, er9, h⟩ := cp_e h
      refine g_callS0 C tb_X8_markOverdone_0_ok (i := 32) [.int (M4.1 a0 12)] rfl mw_J6_bitCount_0f7a4 mst_J6_bitCount_0f7a4 ml_X8_101 rfl rfl rfl rfl (w_J6_bitCount_0f7a4 C.G y (M4.1 a0 12) M4) (pm_s er9) rfl rfl rfl ?_
      refine g_iadd C tb_X8_markOverdone_0_ok (i := 33) rfl ?_
      refine g_min C tb_X8_markOverdone_0_ok (i := 34) rfl mt_X8_64 rfl rfl rfl ?_
      refine g_putI C tb_X8_markOverdone_0_ok (i := 35) rfl fl_X8_49 ft_8_10 rfl k1 ?_
      refine g_mem (fun M10 eM10 => ?_)
      have h := lt_e eM10 h
      cases h
      exact g_vret0 C R tb_X8_markOverdone_0_ok (i := 36) rfl
    · have h := f8 c
      refine g_aload_n C tb_X8_markOverdone_0_ok (i := 8) rfl rfl ?_
      obtain ⟨n11, h⟩ := gN_e h
      refine g_getR C tb_X8_markOverdone_0_ok (i := 9) rfl fl_X8_9 rfl k1 n11 ?_
      refine g_iload_n C tb_X8_markOverdone_0_ok (i := 10) rfl rfl ?_
      obtain ⟨b12, h⟩ := gA_e h
      refine g_iald C tb_X8_markOverdone_0_ok (i := 11) rfl b12 ?_
      refine g_aload_n C tb_X8_markOverdone_0_ok (i := 12) rfl rfl ?_
      obtain ⟨n13, h⟩ := gN_e h
      refine g_getR C tb_X8_markOverdone_0_ok (i := 13) rfl fl_X8_32 rfl k1 n13 ?_
      obtain ⟨k14, h⟩ := gK_e h
      refine g_getI C tb_X8_markOverdone_0_ok (i := 14) rfl fl_X8_98 rfl k14 ?_
      obtain ⟨j16, ej16, h⟩ := jn_e h
      have J41 : ∀ (M15 : Mem), j16 M15 = some out → GG g x 2 Q 0 0 y M15 41 [some (.ref a0), some (.int v3)] [] := by
        intro M15 h; subst ej16
        obtain ⟨v17, ev17⟩ : ∃ w : Int32, w = v3 + (1 : Int32) := ⟨_, rfl⟩
        have h := lt_e ev17 h
        refine g_iincv C tb_X8_markOverdone_0_ok (i := 24) (1 : Int32) ev17 rfl rfl k_iconstv_1 rfl rfl ?_
        refine g_goto C tb_X8_markOverdone_0_ok (i := 25) 7 rfl rfl ?_
        exact g_less (L' := [some (.ref a0), some (.int v17)]) ⟨rfl, ⟨rfl, trivial⟩⟩ (ih6 v17 M15 h)
      obtain ⟨t18, f19⟩ := br_e h
      refine g_icmp_le C tb_X8_markOverdone_0_ok (i := 15) 41 rfl rfl (fun c => ?_) (fun c => ?_)
      · have h := t18 c
        exact g_less (L' := [some (.ref a0), some (.int v3)]) ⟨rfl, ⟨rfl, trivial⟩⟩ (J41 M4 h)
      · have h := f19 c
        refine g_aload_n C tb_X8_markOverdone_0_ok (i := 16) rfl rfl ?_
        refine g_dup C tb_X8_markOverdone_0_ok (i := 17) rfl rfl ?_
        refine g_getI C tb_X8_markOverdone_0_ok (i := 18) rfl fl_X8_55 rfl k1 ?_
        refine g_iconstv C tb_X8_markOverdone_0_ok (i := 19) 1 rfl k_iconstv_1 ?_
        refine g_iload_n C tb_X8_markOverdone_0_ok (i := 20) rfl rfl ?_
        refine g_ishl C tb_X8_markOverdone_0_ok (i := 21) rfl ?_
        refine g_ior C tb_X8_markOverdone_0_ok (i := 22) rfl ?_
        refine g_putI C tb_X8_markOverdone_0_ok (i := 23) rfl fl_X8_55 ft_8_12 rfl k1 ?_
        refine g_mem (fun M20 eM20 => ?_)
        have h := lt_e eM20 h
        exact g_less (L' := [some (.ref a0), some (.int v3)]) ⟨rfl, ⟨rfl, trivial⟩⟩ (J41 M20 h)
def f_X8_fadeOf (y : Lay) (a0 : Nat) (a1 : Int32) (M : Mem) : Option (Int32 × Mem) := gK y a0 (0, 8) (gN (y.2.1 a0 0) (gK y (y.2.1 a0 0) (0, 1) (gN (y.2.1 (y.2.1 a0 0) 8) (gK y (y.2.1 (y.2.1 a0 0) 8) (0, 5) (cp (f_X5_isTold y (y.2.1 (y.2.1 a0 0) 8) M) fun (r6 : Int32) => br (r6 = 0) (cp (f_X8_blueOf y a0 a1 M) fun (r18 : Int32) => gd (¬ (5 : Int32) = 0) (some ((r18 / (5 : Int32)), M))) (cp (f_X8_blueOf y a0 a1 M) fun (r9 : Int32) => br (r9 = 0) (some ((0 : Int32), M)) (c0 (f_X8_setValues y a0 a1 M) fun (r12 : Int32) (M13 : Mem) => cp (f_X8_blueOf y a0 a1 M13) fun (r14 : Int32) => gN (y.2.1 a0 6) (c0 (f_X5_worth y (y.2.1 (y.2.1 a0 0) 8) (y.2.1 a0 6) M13) fun (r16 : Int32) (M17 : Mem) => some ((jmax (0 : Int32) (jmin r14 r16)), M17)))))))))
theorem w_X8_fadeOf {g : GX} {l : Launch} (hG : GF g l) (y : Lay) (a0 : Nat) (a1 : Int32) (M : Mem) : C0 g l yX8_fadeOf cX8_fadeOf 2 (some .int) 2 y [.ref a0, .int a1] M (f_X8_fadeOf y a0 a1 M) := by
  refine C0_of hG (by decide) [some (.ref a0), some (.int a1)] rfl rfl (fun out h x Q C R => ?_)
  unfold f_X8_fadeOf at h
  refine g_aload_n C tb_X8_fadeOf_0_ok (i := 0) rfl rfl ?_
  obtain ⟨k1, h⟩ := gK_e h
  obtain ⟨n2, h⟩ := gN_e h
  refine g_getR C tb_X8_fadeOf_0_ok (i := 1) rfl fl_X8_32 rfl k1 n2 ?_
  obtain ⟨k3, h⟩ := gK_e h
  obtain ⟨n4, h⟩ := gN_e h
  refine g_getR C tb_X8_fadeOf_0_ok (i := 2) rfl fl_X8_110 rfl k3 n4 ?_
  obtain ⟨k5, h⟩ := gK_e h
  obtain ⟨r6, er6, h⟩ := cp_e h
  refine g_callV0 C tb_X8_fadeOf_0_ok (i := 3) [] rfl mw_X5_isTold mv_X5_isTold ml_X8_114 k5 rfl rfl rfl rfl (w_X5_isTold C.G y (y.2.1 (y.2.1 a0 0) 8) M) (pm_s er6) rfl rfl rfl ?_
  obtain ⟨t7, f8⟩ := br_e h
  refine g_if_ne C tb_X8_fadeOf_0_ok (i := 4) 21 rfl rfl (fun c => ?_) (fun c => ?_)
  · have h := f8 c
    refine g_aload_n C tb_X8_fadeOf_0_ok (i := 11) rfl rfl ?_
    refine g_iload_n C tb_X8_fadeOf_0_ok (i := 12) rfl rfl ?_
    obtain ⟨r9, er9, h⟩ := cp_e h
    refine g_callV0 C tb_X8_fadeOf_0_ok (i := 13) [.int a1] rfl mw_X8_blueOf mv_X8_blueOf ml_X8_118 k1 rfl rfl rfl rfl (w_X8_blueOf C.G y a0 a1 M) (pm_s er9) rfl rfl rfl ?_
    obtain ⟨t10, f11⟩ := br_e h
    refine g_if_ne C tb_X8_fadeOf_0_ok (i := 14) 31 rfl rfl (fun c => ?_) (fun c => ?_)
    · have h := f11 c
      refine g_aload_n C tb_X8_fadeOf_0_ok (i := 17) rfl rfl ?_
      refine g_iload_n C tb_X8_fadeOf_0_ok (i := 18) rfl rfl ?_
      obtain ⟨r12, M13, er12, h⟩ := c0_e h
      refine g_callV0 C tb_X8_fadeOf_0_ok (i := 19) [.int a1] rfl mw_X8_setValues mv_X8_setValues ml_X8_121 k1 rfl rfl rfl rfl (w_X8_setValues C.G y a0 a1 M) er12 rfl rfl rfl ?_
      refine g_iconstv C tb_X8_fadeOf_0_ok (i := 20) 0 rfl k_iconstv_0 ?_
      refine g_aload_n C tb_X8_fadeOf_0_ok (i := 21) rfl rfl ?_
      refine g_iload_n C tb_X8_fadeOf_0_ok (i := 22) rfl rfl ?_
      obtain ⟨r14, er14, h⟩ := cp_e h
      refine g_callV0 C tb_X8_fadeOf_0_ok (i := 23) [.int a1] rfl mw_X8_blueOf mv_X8_blueOf ml_X8_118 k1 rfl rfl rfl rfl (w_X8_blueOf C.G y a0 a1 M13) (pm_s er14) rfl rfl rfl ?_
      refine g_aload_n C tb_X8_fadeOf_0_ok (i := 24) rfl rfl ?_
      refine g_getR C tb_X8_fadeOf_0_ok (i := 25) rfl fl_X8_32 rfl k1 n2 ?_
      refine g_getR C tb_X8_fadeOf_0_ok (i := 26) rfl fl_X8_110 rfl k3 n4 ?_
      refine g_aload_n C tb_X8_fadeOf_0_ok (i := 27) rfl rfl ?_
      obtain ⟨n15, h⟩ := gN_e h
      refine g_getR C tb_X8_fadeOf_0_ok (i := 28) rfl fl_X8_29 rfl k1 n15 ?_
      obtain ⟨r16, M17, er16, h⟩ := c0_e h
      refine g_callV0 C tb_X8_fadeOf_0_ok (i := 29) [.ref (y.2.1 a0 6)] rfl mw_X5_worth mv_X5_worth ml_X8_125 k5 rfl rfl rfl rfl (w_X5_worth C.G y (y.2.1 (y.2.1 a0 0) 8) (y.2.1 a0 6) M13) er16 rfl rfl rfl ?_
      refine g_min C tb_X8_fadeOf_0_ok (i := 30) rfl mt_X8_64 rfl rfl rfl ?_
      refine g_max C tb_X8_fadeOf_0_ok (i := 31) rfl mt_X8_92 rfl rfl rfl ?_
      cases h
      exact g_iret0 C R tb_X8_fadeOf_0_ok (i := 32) rfl
    · have h := t10 c
      refine g_iconstv C tb_X8_fadeOf_0_ok (i := 15) 0 rfl k_iconstv_0 ?_
      cases h
      exact g_iret0 C R tb_X8_fadeOf_0_ok (i := 16) rfl
  · have h := t7 c
    refine g_aload_n C tb_X8_fadeOf_0_ok (i := 5) rfl rfl ?_
    refine g_iload_n C tb_X8_fadeOf_0_ok (i := 6) rfl rfl ?_
    obtain ⟨r18, er18, h⟩ := cp_e h
    refine g_callV0 C tb_X8_fadeOf_0_ok (i := 7) [.int a1] rfl mw_X8_blueOf mv_X8_blueOf ml_X8_118 k1 rfl rfl rfl rfl (w_X8_blueOf C.G y a0 a1 M) (pm_s er18) rfl rfl rfl ?_
    refine g_iconstv C tb_X8_fadeOf_0_ok (i := 8) 5 rfl k_iconstv_5 ?_
    obtain ⟨n19, h⟩ := gd_e h
    refine g_idiv C tb_X8_fadeOf_0_ok (i := 9) rfl n19 ?_
    cases h
    exact g_iret0 C R tb_X8_fadeOf_0_ok (i := 10) rfl
def f_X8_fade (y : Lay) (a0 : Nat) (M : Mem) : Option (Int32 × Mem) := fixN (fun _ _ => none) (fun (s3 : Int32 → Mem → Option (Int32 × Mem)) (v1 : Int32) (M2 : Mem) => br ((30 : Int32) ≤ v1) (fixN (fun _ _ => none) (fun (s9 : Int32 → Mem → Option (Int32 × Mem)) (v7 : Int32) (M8 : Mem) => br ((30 : Int32) ≤ v7) (some (0, M8)) (gK y a0 (0, 8) (gN (y.2.1 a0 1) (gA y (y.2.1 a0 1) 1 v7 (gN (y.2.1 a0 3) (gA y (y.2.1 a0 3) 1 v7 (gA y (y.2.1 a0 1) 1 v7 (lt (wI M8 (y.2.1 a0 1) v7.toNatClampNeg ((M8.1 (y.2.1 a0 1) v7.toNatClampNeg) - (M8.1 (y.2.1 a0 3) v7.toNatClampNeg))) fun (M19 : Mem) => lt (v7 + (1 : Int32)) fun (v20 : Int32) => s9 v20 M19)))))))) FUEL (0 : Int32) M2) (gK y a0 (0, 8) (gN (y.2.1 a0 3) (c0 (f_X8_fadeOf y a0 v1 M2) fun (r23 : Int32) (M24 : Mem) => gA y (y.2.1 a0 3) 1 v1 (lt (wI M24 (y.2.1 a0 3) v1.toNatClampNeg r23) fun (M26 : Mem) => lt (v1 + (1 : Int32)) fun (v27 : Int32) => s3 v27 M26))))) FUEL (0 : Int32) M
theorem w_X8_fade {g : GX} {l : Launch} (hG : GF g l) (y : Lay) (a0 : Nat) (M : Mem) : C0 g l yX8_fade cX8_fade 2 none 3 y [.ref a0] M (f_X8_fade y a0 M) := by
  refine C0_of hG (by decide) [some (.ref a0), none] rfl rfl (fun out h x Q C R => ?_)
  unfold f_X8_fade at h
  refine g_iconstv C tb_X8_fade_0_ok (i := 0) 0 rfl k_iconstv_0 ?_
  refine g_istore_n C tb_X8_fade_0_ok (i := 1) rfl rfl rfl ?_
  refine g_less (L' := [some (.ref a0), some (.int (0 : Int32))]) ⟨rfl, ⟨rfl, trivial⟩⟩ ?_
  refine fix_i (P := fun (f : Int32 → Mem → Option (Int32 × Mem)) => ∀ (v1 : Int32) (M2 : Mem), f v1 M2 = some out → GG g x 2 Q 0 0 y M2 2 [some (.ref a0), some (.int v1)] []) ?_ ?_ _ (0 : Int32) M h
  · intro v1 M2 h; exact (nn_e h).elim
  · intro s3 ih4 v1 M2 h
    refine g_iload_n C tb_X8_fade_0_ok (i := 2) rfl rfl ?_
    refine g_bipushv C tb_X8_fade_0_ok (i := 3) 30 rfl k_bipushv_30 ?_
    obtain ⟨t5, f6⟩ := br_e h
    refine g_icmp_ge C tb_X8_fade_0_ok (i := 4) 25 rfl rfl (fun c => ?_) (fun c => ?_)
    · have h := t5 c
      refine g_iconstv C tb_X8_fade_0_ok (i := 14) 0 rfl k_iconstv_0 ?_
      refine g_istore_n C tb_X8_fade_0_ok (i := 15) rfl rfl rfl ?_
      refine g_less (L' := [some (.ref a0), some (.int (0 : Int32))]) ⟨rfl, ⟨rfl, trivial⟩⟩ ?_
      refine fix_i (P := fun (f : Int32 → Mem → Option (Int32 × Mem)) => ∀ (v7 : Int32) (M8 : Mem), f v7 M8 = some out → GG g x 2 Q 0 0 y M8 27 [some (.ref a0), some (.int v7)] []) ?_ ?_ _ (0 : Int32) M2 h
      · intro v7 M8 h; exact (nn_e h).elim
      · intro s9 ih10 v7 M8 h
        refine g_iload_n C tb_X8_fade_0_ok (i := 16) rfl rfl ?_
        refine g_bipushv C tb_X8_fade_0_ok (i := 17) 30 rfl k_bipushv_30 ?_
        obtain ⟨t11, f12⟩ := br_e h
        refine g_icmp_ge C tb_X8_fade_0_ok (i := 18) 54 rfl rfl (fun c => ?_) (fun c => ?_)
        · have h := t11 c
          cases h
          exact g_vret0 C R tb_X8_fade_0_ok (i := 32) rfl
        · have h := f12 c
          refine g_aload_n C tb_X8_fade_0_ok (i := 19) rfl rfl ?_
          obtain ⟨k13, h⟩ := gK_e h
          obtain ⟨n14, h⟩ := gN_e h
          refine g_getR C tb_X8_fade_0_ok (i := 20) rfl fl_X8_9 rfl k13 n14 ?_
          refine g_iload_n C tb_X8_fade_0_ok (i := 21) rfl rfl ?_
          refine g_dup2 C tb_X8_fade_0_ok (i := 22) rfl rfl rfl ?_
          obtain ⟨b15, h⟩ := gA_e h
          refine g_iald C tb_X8_fade_0_ok (i := 23) rfl b15 ?_
          refine g_aload_n C tb_X8_fade_0_ok (i := 24) rfl rfl ?_
          obtain ⟨n16, h⟩ := gN_e h
          refine g_getR C tb_X8_fade_0_ok (i := 25) rfl fl_X8_18 rfl k13 n16 ?_
          refine g_iload_n C tb_X8_fade_0_ok (i := 26) rfl rfl ?_
          obtain ⟨b17, h⟩ := gA_e h
          refine g_iald C tb_X8_fade_0_ok (i := 27) rfl b17 ?_
          refine g_isub C tb_X8_fade_0_ok (i := 28) rfl ?_
          obtain ⟨b18, h⟩ := gA_e h
          refine g_iast C tb_X8_fade_0_ok (i := 29) rfl b18 ?_
          refine g_mem (fun M19 eM19 => ?_)
          have h := lt_e eM19 h
          obtain ⟨v20, ev20⟩ : ∃ w : Int32, w = v7 + (1 : Int32) := ⟨_, rfl⟩
          have h := lt_e ev20 h
          refine g_iincv C tb_X8_fade_0_ok (i := 30) (1 : Int32) ev20 rfl rfl k_iconstv_1 rfl rfl ?_
          refine g_goto C tb_X8_fade_0_ok (i := 31) 27 rfl rfl ?_
          exact g_less (L' := [some (.ref a0), some (.int v20)]) ⟨rfl, ⟨rfl, trivial⟩⟩ (ih10 v20 M19 h)
    · have h := f6 c
      refine g_aload_n C tb_X8_fade_0_ok (i := 5) rfl rfl ?_
      obtain ⟨k21, h⟩ := gK_e h
      obtain ⟨n22, h⟩ := gN_e h
      refine g_getR C tb_X8_fade_0_ok (i := 6) rfl fl_X8_18 rfl k21 n22 ?_
      refine g_iload_n C tb_X8_fade_0_ok (i := 7) rfl rfl ?_
      refine g_aload_n C tb_X8_fade_0_ok (i := 8) rfl rfl ?_
      refine g_iload_n C tb_X8_fade_0_ok (i := 9) rfl rfl ?_
      obtain ⟨r23, M24, er23, h⟩ := c0_e h
      refine g_callV0 C tb_X8_fade_0_ok (i := 10) [.int v1] rfl mw_X8_fadeOf mv_X8_fadeOf ml_X8_107 k21 rfl rfl rfl rfl (w_X8_fadeOf C.G y a0 v1 M2) er23 rfl rfl rfl ?_
      obtain ⟨b25, h⟩ := gA_e h
      refine g_iast C tb_X8_fade_0_ok (i := 11) rfl b25 ?_
      refine g_mem (fun M26 eM26 => ?_)
      have h := lt_e eM26 h
      obtain ⟨v27, ev27⟩ : ∃ w : Int32, w = v1 + (1 : Int32) := ⟨_, rfl⟩
      have h := lt_e ev27 h
      refine g_iincv C tb_X8_fade_0_ok (i := 12) (1 : Int32) ev27 rfl rfl k_iconstv_1 rfl rfl ?_
      refine g_goto C tb_X8_fade_0_ok (i := 13) 2 rfl rfl ?_
      exact g_less (L' := [some (.ref a0), some (.int v27)]) ⟨rfl, ⟨rfl, trivial⟩⟩ (ih4 v27 M26 h)
def f_X8_passDay (y : Lay) (a0 : Nat) (M : Mem) : Option (Int32 × Mem) := gK y a0 (0, 8) (gN (y.2.1 a0 1) (gN (y.2.1 a0 2) (gC y (y.2.1 a0 1) (y.2.1 a0 2) (0 : Int32) (0 : Int32) (30 : Int32) (lt (cpI M (y.2.1 a0 1) (y.2.1 a0 2) (0 : Int32).toNatClampNeg (0 : Int32).toNatClampNeg (30 : Int32).toNatClampNeg) fun (M5 : Mem) => fixN (fun _ _ => none) (fun (s8 : Int32 → Mem → Option (Int32 × Mem)) (v6 : Int32) (M7 : Mem) => gN (y.2.1 a0 0) (gK y (y.2.1 a0 0) (0, 1) (br ((M7.1 (y.2.1 a0 0) 4) ≤ v6) (c0 (f_X8_markOverdone y a0 M7) fun (r14 : Int32) (M15 : Mem) => fixN (fun _ _ => none) (fun (s18 : Int32 → Mem → Option (Int32 × Mem)) (v16 : Int32) (M17 : Mem) => br ((30 : Int32) ≤ v16) (c0 (f_X8_fade y a0 M17) fun (r22 : Int32) (M23 : Mem) => lt (wI M23 a0 11 ((M23.1 a0 11) + (1 : Int32))) fun (M24 : Mem) => some (0, M24)) (gA y (y.2.1 a0 1) 1 v16 (gA y (y.2.1 a0 1) 1 v16 (lt (wI M17 (y.2.1 a0 1) v16.toNatClampNeg (jmax (0 : Int32) ((M17.1 (y.2.1 a0 1) v16.toNatClampNeg) - (M17.1 (y.2.1 a0 0) 2)))) fun (M27 : Mem) => lt (v16 + (1 : Int32)) fun (v28 : Int32) => s18 v28 M27)))) FUEL (0 : Int32) M15) (cp (f_X8_isResting y a0 v6 M7) fun (r29 : Int32) => jn (fun (M30 : Mem) => lt (v6 + (1 : Int32)) fun (v32 : Int32) => s8 v32 M30) fun j31 => br (r29 = 0) (br ((M7.1 a0 9) ≤ 0) (j31 M7) (lt (wI M7 a0 9 ((M7.1 a0 9) - (1 : Int32))) fun (M37 : Mem) => c0 (f_X8_swish y a0 v6 (M37.1 a0 9) M37) fun (r38 : Int32) (M39 : Mem) => j31 M39)) (j31 M7))))) FUEL (0 : Int32) M5))))
theorem w_X8_passDay {g : GX} {l : Launch} (hG : GF g l) (y : Lay) (a0 : Nat) (M : Mem) : C0 g l yX8_passDay cX8_passDay 2 none 4 y [.ref a0] M (f_X8_passDay y a0 M) := by
  refine C0_of hG (by decide) [some (.ref a0), none] rfl rfl (fun out h x Q C R => ?_)
  unfold f_X8_passDay at h
  refine g_aload_n C tb_X8_passDay_0_ok (i := 0) rfl rfl ?_
  obtain ⟨k1, h⟩ := gK_e h
  obtain ⟨n2, h⟩ := gN_e h
  refine g_getR C tb_X8_passDay_0_ok (i := 1) rfl fl_X8_9 rfl k1 n2 ?_
  refine g_iconstv C tb_X8_passDay_0_ok (i := 2) 0 rfl k_iconstv_0 ?_
  refine g_aload_n C tb_X8_passDay_0_ok (i := 3) rfl rfl ?_
  obtain ⟨n3, h⟩ := gN_e h
  refine g_getR C tb_X8_passDay_0_ok (i := 4) rfl fl_X8_15 rfl k1 n3 ?_
  refine g_iconstv C tb_X8_passDay_0_ok (i := 5) 0 rfl k_iconstv_0 ?_
  refine g_bipushv C tb_X8_passDay_0_ok (i := 6) 30 rfl k_bipushv_30 ?_
  obtain ⟨b4, h⟩ := gC_e h
  refine g_copy C tb_X8_passDay_0_ok (i := 7) rfl mt_X8_58 rfl b4 ?_
  refine g_mem (fun M5 eM5 => ?_)
  have h := lt_e eM5 h
  refine g_iconstv C tb_X8_passDay_0_ok (i := 8) 0 rfl k_iconstv_0 ?_
  refine g_istore_n C tb_X8_passDay_0_ok (i := 9) rfl rfl rfl ?_
  refine g_less (L' := [some (.ref a0), some (.int (0 : Int32))]) ⟨rfl, ⟨rfl, trivial⟩⟩ ?_
  refine fix_i (P := fun (f : Int32 → Mem → Option (Int32 × Mem)) => ∀ (v6 : Int32) (M7 : Mem), f v6 M7 = some out → GG g x 2 Q 0 0 y M7 17 [some (.ref a0), some (.int v6)] []) ?_ ?_ _ (0 : Int32) M5 h
  · intro v6 M7 h; exact (nn_e h).elim
  · intro s8 ih9 v6 M7 h
    refine g_iload_n C tb_X8_passDay_0_ok (i := 10) rfl rfl ?_
    refine g_aload_n C tb_X8_passDay_0_ok (i := 11) rfl rfl ?_
    obtain ⟨n10, h⟩ := gN_e h
    refine g_getR C tb_X8_passDay_0_ok (i := 12) rfl fl_X8_32 rfl k1 n10 ?_
    obtain ⟨k11, h⟩ := gK_e h
    refine g_getI C tb_X8_passDay_0_ok (i := 13) rfl fl_X8_74 rfl k11 ?_
    obtain ⟨t12, f13⟩ := br_e h
    refine g_icmp_ge C tb_X8_passDay_0_ok (i := 14) 68 rfl rfl (fun c => ?_) (fun c => ?_)
    · have h := t12 c
      refine g_aload_n C tb_X8_passDay_0_ok (i := 35) rfl rfl ?_
      obtain ⟨r14, M15, er14, h⟩ := c0_e h
      refine g_callV0 C tb_X8_passDay_0_ok (i := 36) [] rfl mw_X8_markOverdone mv_X8_markOverdone ml_X8_86 k1 rfl rfl rfl rfl (w_X8_markOverdone C.G y a0 M7) er14 rfl rfl rfl ?_
      refine g_iconstv C tb_X8_passDay_0_ok (i := 37) 0 rfl k_iconstv_0 ?_
      refine g_istore_n C tb_X8_passDay_0_ok (i := 38) rfl rfl rfl ?_
      refine g_less (L' := [some (.ref a0), some (.int (0 : Int32))]) ⟨rfl, ⟨rfl, trivial⟩⟩ ?_
      refine fix_i (P := fun (f : Int32 → Mem → Option (Int32 × Mem)) => ∀ (v16 : Int32) (M17 : Mem), f v16 M17 = some out → GG g x 2 Q 0 0 y M17 74 [some (.ref a0), some (.int v16)] []) ?_ ?_ _ (0 : Int32) M15 h
      · intro v16 M17 h; exact (nn_e h).elim
      · intro s18 ih19 v16 M17 h
        refine g_iload_n C tb_X8_passDay_0_ok (i := 39) rfl rfl ?_
        refine g_bipushv C tb_X8_passDay_1_ok (i := 0) 30 rfl k_bipushv_30 ?_
        obtain ⟨t20, f21⟩ := br_e h
        refine g_icmp_ge C tb_X8_passDay_1_ok (i := 1) 110 rfl rfl (fun c => ?_) (fun c => ?_)
        · have h := t20 c
          refine g_aload_n C tb_X8_passDay_1_ok (i := 18) rfl rfl ?_
          obtain ⟨r22, M23, er22, h⟩ := c0_e h
          refine g_callV0 C tb_X8_passDay_1_ok (i := 19) [] rfl mw_X8_fade mv_X8_fade ml_X8_95 k1 rfl rfl rfl rfl (w_X8_fade C.G y a0 M17) er22 rfl rfl rfl ?_
          refine g_aload_n C tb_X8_passDay_1_ok (i := 20) rfl rfl ?_
          refine g_dup C tb_X8_passDay_1_ok (i := 21) rfl rfl ?_
          refine g_getI C tb_X8_passDay_1_ok (i := 22) rfl fl_X8_52 rfl k1 ?_
          refine g_iconstv C tb_X8_passDay_1_ok (i := 23) 1 rfl k_iconstv_1 ?_
          refine g_iadd C tb_X8_passDay_1_ok (i := 24) rfl ?_
          refine g_putI C tb_X8_passDay_1_ok (i := 25) rfl fl_X8_52 ft_8_11 rfl k1 ?_
          refine g_mem (fun M24 eM24 => ?_)
          have h := lt_e eM24 h
          cases h
          exact g_vret0 C R tb_X8_passDay_1_ok (i := 26) rfl
        · have h := f21 c
          refine g_aload_n C tb_X8_passDay_1_ok (i := 2) rfl rfl ?_
          refine g_getR C tb_X8_passDay_1_ok (i := 3) rfl fl_X8_9 rfl k1 n2 ?_
          refine g_iload_n C tb_X8_passDay_1_ok (i := 4) rfl rfl ?_
          refine g_iconstv C tb_X8_passDay_1_ok (i := 5) 0 rfl k_iconstv_0 ?_
          refine g_aload_n C tb_X8_passDay_1_ok (i := 6) rfl rfl ?_
          refine g_getR C tb_X8_passDay_1_ok (i := 7) rfl fl_X8_9 rfl k1 n2 ?_
          refine g_iload_n C tb_X8_passDay_1_ok (i := 8) rfl rfl ?_
          obtain ⟨b25, h⟩ := gA_e h
          refine g_iald C tb_X8_passDay_1_ok (i := 9) rfl b25 ?_
          refine g_aload_n C tb_X8_passDay_1_ok (i := 10) rfl rfl ?_
          refine g_getR C tb_X8_passDay_1_ok (i := 11) rfl fl_X8_32 rfl k1 n10 ?_
          refine g_getI C tb_X8_passDay_1_ok (i := 12) rfl fl_X8_89 rfl k11 ?_
          refine g_isub C tb_X8_passDay_1_ok (i := 13) rfl ?_
          refine g_max C tb_X8_passDay_1_ok (i := 14) rfl mt_X8_92 rfl rfl rfl ?_
          obtain ⟨b26, h⟩ := gA_e h
          refine g_iast C tb_X8_passDay_1_ok (i := 15) rfl b26 ?_
          refine g_mem (fun M27 eM27 => ?_)
          have h := lt_e eM27 h
          obtain ⟨v28, ev28⟩ : ∃ w : Int32, w = v16 + (1 : Int32) := ⟨_, rfl⟩
          have h := lt_e ev28 h
          refine g_iincv C tb_X8_passDay_1_ok (i := 16) (1 : Int32) ev28 rfl rfl k_iconstv_1 rfl rfl ?_
          refine g_goto C tb_X8_passDay_1_ok (i := 17) 74 rfl rfl ?_
          exact g_less (L' := [some (.ref a0), some (.int v28)]) ⟨rfl, ⟨rfl, trivial⟩⟩ (ih19 v28 M27 h)
    · have h := f13 c
      refine g_aload_n C tb_X8_passDay_0_ok (i := 15) rfl rfl ?_
      refine g_iload_n C tb_X8_passDay_0_ok (i := 16) rfl rfl ?_
      obtain ⟨r29, er29, h⟩ := cp_e h
      refine g_callV0 C tb_X8_passDay_0_ok (i := 17) [.int v6] rfl mw_X8_isResting mv_X8_isResting ml_X8_79 k1 rfl rfl rfl rfl (w_X8_isResting C.G y a0 v6 M7) (pm_s er29) rfl rfl rfl ?_
      obtain ⟨j31, ej31, h⟩ := jn_e h
      have J62 : ∀ (M30 : Mem), j31 M30 = some out → GG g x 2 Q 0 0 y M30 62 [some (.ref a0), some (.int v6)] [] := by
        intro M30 h; subst ej31
        obtain ⟨v32, ev32⟩ : ∃ w : Int32, w = v6 + (1 : Int32) := ⟨_, rfl⟩
        have h := lt_e ev32 h
        refine g_iincv C tb_X8_passDay_0_ok (i := 33) (1 : Int32) ev32 rfl rfl k_iconstv_1 rfl rfl ?_
        refine g_goto C tb_X8_passDay_0_ok (i := 34) 17 rfl rfl ?_
        exact g_less (L' := [some (.ref a0), some (.int v32)]) ⟨rfl, ⟨rfl, trivial⟩⟩ (ih9 v32 M30 h)
      obtain ⟨t33, f34⟩ := br_e h
      refine g_if_ne C tb_X8_passDay_0_ok (i := 18) 62 rfl rfl (fun c => ?_) (fun c => ?_)
      · have h := f34 c
        exact g_less (L' := [some (.ref a0), some (.int v6)]) ⟨rfl, ⟨rfl, trivial⟩⟩ (J62 M7 h)
      · have h := t33 c
        refine g_aload_n C tb_X8_passDay_0_ok (i := 19) rfl rfl ?_
        refine g_getI C tb_X8_passDay_0_ok (i := 20) rfl fl_X8_46 rfl k1 ?_
        obtain ⟨t35, f36⟩ := br_e h
        refine g_if_le C tb_X8_passDay_0_ok (i := 21) 62 rfl rfl (fun c => ?_) (fun c => ?_)
        · have h := t35 c
          exact g_less (L' := [some (.ref a0), some (.int v6)]) ⟨rfl, ⟨rfl, trivial⟩⟩ (J62 M7 h)
        · have h := f36 c
          refine g_aload_n C tb_X8_passDay_0_ok (i := 22) rfl rfl ?_
          refine g_dup C tb_X8_passDay_0_ok (i := 23) rfl rfl ?_
          refine g_getI C tb_X8_passDay_0_ok (i := 24) rfl fl_X8_46 rfl k1 ?_
          refine g_iconstv C tb_X8_passDay_0_ok (i := 25) 1 rfl k_iconstv_1 ?_
          refine g_isub C tb_X8_passDay_0_ok (i := 26) rfl ?_
          refine g_putI C tb_X8_passDay_0_ok (i := 27) rfl fl_X8_46 ft_8_9 rfl k1 ?_
          refine g_mem (fun M37 eM37 => ?_)
          have h := lt_e eM37 h
          refine g_aload_n C tb_X8_passDay_0_ok (i := 28) rfl rfl ?_
          refine g_iload_n C tb_X8_passDay_0_ok (i := 29) rfl rfl ?_
          refine g_aload_n C tb_X8_passDay_0_ok (i := 30) rfl rfl ?_
          refine g_getI C tb_X8_passDay_0_ok (i := 31) rfl fl_X8_46 rfl k1 ?_
          obtain ⟨r38, M39, er38, h⟩ := c0_e h
          refine g_callV0 C tb_X8_passDay_0_ok (i := 32) [.int v6, .int (M37.1 a0 9)] rfl mw_X8_swish mv_X8_swish ml_X8_82 k1 rfl rfl rfl rfl (w_X8_swish C.G y a0 v6 (M37.1 a0 9) M37) er38 rfl rfl rfl ?_
          exact g_less (L' := [some (.ref a0), some (.int v6)]) ⟨rfl, ⟨rfl, trivial⟩⟩ (J62 M39 h)
def f_X11_days (y : Lay) (a0 : Nat) (a1 : Int32) (M : Mem) : Option (Int32 × Mem) := jn (fun (_u : Unit) => gK y a0 (0, 11) (c0 (f_X11_refuseAct y a0 M) fun (r3 : Int32) (M4 : Mem) => some (r3, M4))) fun j1 => br (a1 < (1 : Int32)) (j1 ()) (br ((20 : Int32) < a1) (j1 ()) (gK y a0 (0, 11) (gN (y.2.1 a0 3) (gK y (y.2.1 a0 3) (0, 4) (gN (y.2.1 (y.2.1 a0 3) 0) (gK y (y.2.1 (y.2.1 a0 3) 0) (0, 8) (br (a1 ≤ ((999 : Int32) - (M.1 (y.2.1 (y.2.1 a0 3) 0) 11))) (c0 (f_X4_keepAct y (y.2.1 a0 3) M) fun (r16 : Int32) (M17 : Mem) => fixN (fun _ _ => none) (fun (s20 : Int32 → Mem → Option (Int32 × Mem)) (v18 : Int32) (M19 : Mem) => br (a1 ≤ v18) (some ((M19.1 (y.2.1 (y.2.1 a0 3) 0) 11), M19)) (c0 (f_X8_passDay y (y.2.1 (y.2.1 a0 3) 0) M19) fun (r24 : Int32) (M25 : Mem) => lt (v18 + (1 : Int32)) fun (v26 : Int32) => s20 v26 M25)) FUEL (0 : Int32) M17) (j1 ()))))))))
theorem w_X11_days {g : GX} {l : Launch} (hG : GF g l) (y : Lay) (a0 : Nat) (a1 : Int32) (M : Mem) : C0 g l yX11_days cX11_days 3 (some .int) 5 y [.ref a0, .int a1] M (f_X11_days y a0 a1 M) := by
  refine C0_of hG (by decide) [some (.ref a0), some (.int a1), none] rfl rfl (fun out h x Q C R => ?_)
  unfold f_X11_days at h
  refine g_iload_n C tb_X11_days_0_ok (i := 0) rfl rfl ?_
  refine g_iconstv C tb_X11_days_0_ok (i := 1) 1 rfl k_iconstv_1 ?_
  obtain ⟨j1, ej1, h⟩ := jn_e h
  have J29 : ∀ (_u : Unit), j1 _u = some out → GG g x 3 Q 0 0 y M 29 [some (.ref a0), none, none] [] := by
    intro _u h; subst ej1
    refine g_aload_n C tb_X11_days_0_ok (i := 14) rfl rfl ?_
    obtain ⟨k2, h⟩ := gK_e h
    obtain ⟨r3, M4, er3, h⟩ := c0_e h
    refine g_callV0 C tb_X11_days_0_ok (i := 15) [] rfl mw_X11_refuseAct mv_X11_refuseAct ml_X11_215 k2 rfl rfl rfl rfl (w_X11_refuseAct C.G y a0 M) er3 rfl rfl rfl ?_
    cases h
    exact g_iret0 C R tb_X11_days_0_ok (i := 16) rfl
  obtain ⟨t5, f6⟩ := br_e h
  refine g_icmp_lt C tb_X11_days_0_ok (i := 2) 29 rfl rfl (fun c => ?_) (fun c => ?_)
  · have h := t5 c
    exact g_less (L' := [some (.ref a0), none, none]) ⟨rfl, trivial⟩ (J29 () h)
  · have h := f6 c
    refine g_iload_n C tb_X11_days_0_ok (i := 3) rfl rfl ?_
    refine g_bipushv C tb_X11_days_0_ok (i := 4) 20 rfl k_bipushv_20 ?_
    obtain ⟨t7, f8⟩ := br_e h
    refine g_icmp_gt C tb_X11_days_0_ok (i := 5) 29 rfl rfl (fun c => ?_) (fun c => ?_)
    · have h := t7 c
      exact g_less (L' := [some (.ref a0), none, none]) ⟨rfl, trivial⟩ (J29 () h)
    · have h := f8 c
      refine g_iload_n C tb_X11_days_0_ok (i := 6) rfl rfl ?_
      refine g_sipushv C tb_X11_days_0_ok (i := 7) 999 rfl k_sipushv_999 ?_
      refine g_aload_n C tb_X11_days_0_ok (i := 8) rfl rfl ?_
      obtain ⟨k9, h⟩ := gK_e h
      obtain ⟨n10, h⟩ := gN_e h
      refine g_getR C tb_X11_days_0_ok (i := 9) rfl fl_X11_37 rfl k9 n10 ?_
      obtain ⟨k11, h⟩ := gK_e h
      obtain ⟨n12, h⟩ := gN_e h
      refine g_getR C tb_X11_days_0_ok (i := 10) rfl fl_X11_53 rfl k11 n12 ?_
      obtain ⟨k13, h⟩ := gK_e h
      refine g_getI C tb_X11_days_0_ok (i := 11) rfl fl_X11_137 rfl k13 ?_
      refine g_isub C tb_X11_days_0_ok (i := 12) rfl ?_
      obtain ⟨t14, f15⟩ := br_e h
      refine g_icmp_le C tb_X11_days_0_ok (i := 13) 34 rfl rfl (fun c => ?_) (fun c => ?_)
      · have h := t14 c
        refine g_aload_n C tb_X11_days_0_ok (i := 17) rfl rfl ?_
        refine g_getR C tb_X11_days_0_ok (i := 18) rfl fl_X11_37 rfl k9 n10 ?_
        obtain ⟨r16, M17, er16, h⟩ := c0_e h
        refine g_callV0 C tb_X11_days_0_ok (i := 19) [] rfl mw_X4_keepAct mv_X4_keepAct ml_X11_218 k11 rfl rfl rfl rfl (w_X4_keepAct C.G y (y.2.1 a0 3) M) er16 rfl rfl rfl ?_
        refine g_iconstv C tb_X11_days_0_ok (i := 20) 0 rfl k_iconstv_0 ?_
        refine g_istore_n C tb_X11_days_0_ok (i := 21) rfl rfl rfl ?_
        refine g_less (L' := [some (.ref a0), some (.int a1), some (.int (0 : Int32))]) ⟨rfl, ⟨rfl, ⟨rfl, trivial⟩⟩⟩ ?_
        refine fix_i (P := fun (f : Int32 → Mem → Option (Int32 × Mem)) => ∀ (v18 : Int32) (M19 : Mem), f v18 M19 = some out → GG g x 3 Q 0 0 y M19 43 [some (.ref a0), some (.int a1), some (.int v18)] []) ?_ ?_ _ (0 : Int32) M17 h
        · intro v18 M19 h; exact (nn_e h).elim
        · intro s20 ih21 v18 M19 h
          refine g_iload_n C tb_X11_days_0_ok (i := 22) rfl rfl ?_
          refine g_iload_n C tb_X11_days_0_ok (i := 23) rfl rfl ?_
          obtain ⟨t22, f23⟩ := br_e h
          refine g_icmp_ge C tb_X11_days_0_ok (i := 24) 64 rfl rfl (fun c => ?_) (fun c => ?_)
          · have h := t22 c
            refine g_aload_n C tb_X11_days_0_ok (i := 31) rfl rfl ?_
            refine g_getR C tb_X11_days_0_ok (i := 32) rfl fl_X11_37 rfl k9 n10 ?_
            refine g_getR C tb_X11_days_0_ok (i := 33) rfl fl_X11_53 rfl k11 n12 ?_
            refine g_getI C tb_X11_days_0_ok (i := 34) rfl fl_X11_137 rfl k13 ?_
            cases h
            exact g_iret0 C R tb_X11_days_0_ok (i := 35) rfl
          · have h := f23 c
            refine g_aload_n C tb_X11_days_0_ok (i := 25) rfl rfl ?_
            refine g_getR C tb_X11_days_0_ok (i := 26) rfl fl_X11_37 rfl k9 n10 ?_
            refine g_getR C tb_X11_days_0_ok (i := 27) rfl fl_X11_53 rfl k11 n12 ?_
            obtain ⟨r24, M25, er24, h⟩ := c0_e h
            refine g_callV0 C tb_X11_days_0_ok (i := 28) [] rfl mw_X8_passDay mv_X8_passDay ml_X11_221 k13 rfl rfl rfl rfl (w_X8_passDay C.G y (y.2.1 (y.2.1 a0 3) 0) M19) er24 rfl rfl rfl ?_
            obtain ⟨v26, ev26⟩ : ∃ w : Int32, w = v18 + (1 : Int32) := ⟨_, rfl⟩
            have h := lt_e ev26 h
            refine g_iincv C tb_X11_days_0_ok (i := 29) (1 : Int32) ev26 rfl rfl k_iconstv_1 rfl rfl ?_
            refine g_goto C tb_X11_days_0_ok (i := 30) 43 rfl rfl ?_
            exact g_less (L' := [some (.ref a0), some (.int a1), some (.int v26)]) ⟨rfl, ⟨rfl, ⟨rfl, trivial⟩⟩⟩ (ih21 v26 M25 h)
      · have h := f15 c
        exact g_less (L' := [some (.ref a0), none, none]) ⟨rfl, trivial⟩ (J29 () h)
def f_X8_addKnobs (y : Lay) (a0 : Nat) (a1 : Int32) (M : Mem) : Option (Int32 × Mem) := gK y a0 (0, 8) (lt (wI M a0 9 (jmin (99 : Int32) ((M.1 a0 9) + a1))) fun (M2 : Mem) => some (0, M2))
theorem w_X8_addKnobs {g : GX} {l : Launch} (hG : GF g l) (y : Lay) (a0 : Nat) (a1 : Int32) (M : Mem) : C0 g l yX8_addKnobs cX8_addKnobs 2 none 0 y [.ref a0, .int a1] M (f_X8_addKnobs y a0 a1 M) := by
  refine C0_of hG (by decide) [some (.ref a0), some (.int a1)] rfl rfl (fun out h x Q C R => ?_)
  unfold f_X8_addKnobs at h
  refine g_aload_n C tb_X8_addKnobs_0_ok (i := 0) rfl rfl ?_
  refine g_bipushv C tb_X8_addKnobs_0_ok (i := 1) 99 rfl k_bipushv_99 ?_
  refine g_aload_n C tb_X8_addKnobs_0_ok (i := 2) rfl rfl ?_
  obtain ⟨k1, h⟩ := gK_e h
  refine g_getI C tb_X8_addKnobs_0_ok (i := 3) rfl fl_X8_46 rfl k1 ?_
  refine g_iload_n C tb_X8_addKnobs_0_ok (i := 4) rfl rfl ?_
  refine g_iadd C tb_X8_addKnobs_0_ok (i := 5) rfl ?_
  refine g_min C tb_X8_addKnobs_0_ok (i := 6) rfl mt_X8_64 rfl rfl rfl ?_
  refine g_putI C tb_X8_addKnobs_0_ok (i := 7) rfl fl_X8_46 ft_8_9 rfl k1 ?_
  refine g_mem (fun M2 eM2 => ?_)
  have h := lt_e eM2 h
  cases h
  exact g_vret0 C R tb_X8_addKnobs_0_ok (i := 8) rfl
def f_X11_bag (y : Lay) (a0 : Nat) (a1 : Int32) (M : Mem) : Option (Int32 × Mem) := jn (fun (_u : Unit) => gK y a0 (0, 11) (c0 (f_X11_refuseAct y a0 M) fun (r3 : Int32) (M4 : Mem) => some (r3, M4))) fun j1 => br (a1 < (1 : Int32)) (j1 ()) (br (a1 ≤ (50 : Int32)) (gK y a0 (0, 11) (gN (y.2.1 a0 3) (gK y (y.2.1 a0 3) (0, 4) (c0 (f_X4_keepAct y (y.2.1 a0 3) M) fun (r12 : Int32) (M13 : Mem) => gN (y.2.1 (y.2.1 a0 3) 0) (gK y (y.2.1 (y.2.1 a0 3) 0) (0, 8) (c0 (f_X8_addKnobs y (y.2.1 (y.2.1 a0 3) 0) a1 M13) fun (r16 : Int32) (M17 : Mem) => some ((M17.1 (y.2.1 (y.2.1 a0 3) 0) 9), M17))))))) (j1 ()))
theorem w_X11_bag {g : GX} {l : Launch} (hG : GF g l) (y : Lay) (a0 : Nat) (a1 : Int32) (M : Mem) : C0 g l yX11_bag cX11_bag 2 (some .int) 3 y [.ref a0, .int a1] M (f_X11_bag y a0 a1 M) := by
  refine C0_of hG (by decide) [some (.ref a0), some (.int a1)] rfl rfl (fun out h x Q C R => ?_)
  unfold f_X11_bag at h
  refine g_iload_n C tb_X11_bag_0_ok (i := 0) rfl rfl ?_
  refine g_iconstv C tb_X11_bag_0_ok (i := 1) 1 rfl k_iconstv_1 ?_
  obtain ⟨j1, ej1, h⟩ := jn_e h
  have J11 : ∀ (_u : Unit), j1 _u = some out → GG g x 2 Q 0 0 y M 11 [some (.ref a0), none] [] := by
    intro _u h; subst ej1
    refine g_aload_n C tb_X11_bag_0_ok (i := 6) rfl rfl ?_
    obtain ⟨k2, h⟩ := gK_e h
    obtain ⟨r3, M4, er3, h⟩ := c0_e h
    refine g_callV0 C tb_X11_bag_0_ok (i := 7) [] rfl mw_X11_refuseAct mv_X11_refuseAct ml_X11_215 k2 rfl rfl rfl rfl (w_X11_refuseAct C.G y a0 M) er3 rfl rfl rfl ?_
    cases h
    exact g_iret0 C R tb_X11_bag_0_ok (i := 8) rfl
  obtain ⟨t5, f6⟩ := br_e h
  refine g_icmp_lt C tb_X11_bag_0_ok (i := 2) 11 rfl rfl (fun c => ?_) (fun c => ?_)
  · have h := t5 c
    exact g_less (L' := [some (.ref a0), none]) ⟨rfl, trivial⟩ (J11 () h)
  · have h := f6 c
    refine g_iload_n C tb_X11_bag_0_ok (i := 3) rfl rfl ?_
    refine g_bipushv C tb_X11_bag_0_ok (i := 4) 50 rfl k_bipushv_50 ?_
    obtain ⟨t7, f8⟩ := br_e h
    refine g_icmp_le C tb_X11_bag_0_ok (i := 5) 16 rfl rfl (fun c => ?_) (fun c => ?_)
    · have h := t7 c
      refine g_aload_n C tb_X11_bag_0_ok (i := 9) rfl rfl ?_
      obtain ⟨k9, h⟩ := gK_e h
      obtain ⟨n10, h⟩ := gN_e h
      refine g_getR C tb_X11_bag_0_ok (i := 10) rfl fl_X11_37 rfl k9 n10 ?_
      obtain ⟨k11, h⟩ := gK_e h
      obtain ⟨r12, M13, er12, h⟩ := c0_e h
      refine g_callV0 C tb_X11_bag_0_ok (i := 11) [] rfl mw_X4_keepAct mv_X4_keepAct ml_X11_218 k11 rfl rfl rfl rfl (w_X4_keepAct C.G y (y.2.1 a0 3) M) er12 rfl rfl rfl ?_
      refine g_aload_n C tb_X11_bag_0_ok (i := 12) rfl rfl ?_
      refine g_getR C tb_X11_bag_0_ok (i := 13) rfl fl_X11_37 rfl k9 n10 ?_
      obtain ⟨n14, h⟩ := gN_e h
      refine g_getR C tb_X11_bag_0_ok (i := 14) rfl fl_X11_53 rfl k11 n14 ?_
      refine g_iload_n C tb_X11_bag_0_ok (i := 15) rfl rfl ?_
      obtain ⟨k15, h⟩ := gK_e h
      obtain ⟨r16, M17, er16, h⟩ := c0_e h
      refine g_callV0 C tb_X11_bag_0_ok (i := 16) [.int a1] rfl mw_X8_addKnobs mv_X8_addKnobs ml_X11_235 k15 rfl rfl rfl rfl (w_X8_addKnobs C.G y (y.2.1 (y.2.1 a0 3) 0) a1 M13) er16 rfl rfl rfl ?_
      refine g_aload_n C tb_X11_bag_0_ok (i := 17) rfl rfl ?_
      refine g_getR C tb_X11_bag_0_ok (i := 18) rfl fl_X11_37 rfl k9 n10 ?_
      refine g_getR C tb_X11_bag_0_ok (i := 19) rfl fl_X11_53 rfl k11 n14 ?_
      refine g_getI C tb_X11_bag_0_ok (i := 20) rfl fl_X11_140 rfl k15 ?_
      cases h
      exact g_iret0 C R tb_X11_bag_0_ok (i := 21) rfl
    · have h := f8 c
      exact g_less (L' := [some (.ref a0), none]) ⟨rfl, trivial⟩ (J11 () h)
def f_X8_load (y : Lay) (a0 : Nat) (a1 : Nat) (a2 : Int32) (M : Mem) : Option (Int32 × Mem) := jn (fun (_u : Unit) => some (0, M)) fun j1 => br (a2 < 0) (j1 ()) (gT y a1 1 (br (a2 ≤ ((Int32.ofNat (kd y a1).2) - (41 : Int32))) (gK y a0 (0, 8) (gN (y.2.1 a0 1) (gC y a1 (y.2.1 a0 1) a2 (0 : Int32) (30 : Int32) (lt (cpI M a1 (y.2.1 a0 1) a2.toNatClampNeg (0 : Int32).toNatClampNeg (30 : Int32).toNatClampNeg) fun (M10 : Mem) => gN (y.2.1 a0 4) (gC y a1 (y.2.1 a0 4) (a2 + (30 : Int32)) (0 : Int32) (6 : Int32) (lt (cpI M10 a1 (y.2.1 a0 4) (a2 + (30 : Int32)).toNatClampNeg (0 : Int32).toNatClampNeg (6 : Int32).toNatClampNeg) fun (M13 : Mem) => lt ((a2 + (30 : Int32)) + (6 : Int32)) fun (v14 : Int32) => gA y a1 1 v14 (lt (wI M13 a0 7 (M13.1 a1 v14.toNatClampNeg)) fun (M16 : Mem) => gA y a1 1 (v14 + (1 : Int32)) (lt (wI M16 a0 8 (M16.1 a1 (v14 + (1 : Int32)).toNatClampNeg)) fun (M18 : Mem) => gA y a1 1 (v14 + (2 : Int32)) (lt (wI M18 a0 9 (M18.1 a1 (v14 + (2 : Int32)).toNatClampNeg)) fun (M20 : Mem) => gA y a1 1 (v14 + (3 : Int32)) (lt (wI M20 a0 10 (M20.1 a1 (v14 + (3 : Int32)).toNatClampNeg)) fun (M22 : Mem) => gA y a1 1 (v14 + (4 : Int32)) (lt (wI M22 a0 11 (M22.1 a1 (v14 + (4 : Int32)).toNatClampNeg)) fun (M24 : Mem) => some (0, M24)))))))))))) (j1 ())))
theorem w_X8_load {g : GX} {l : Launch} (hG : GF g l) (y : Lay) (a0 : Nat) (a1 : Nat) (a2 : Int32) (M : Mem) : C0 g l yX8_load cX8_load 4 none 0 y [.ref a0, .ref a1, .int a2] M (f_X8_load y a0 a1 a2 M) := by
  refine C0_of hG (by decide) [some (.ref a0), some (.ref a1), some (.int a2), none] rfl rfl (fun out h x Q C R => ?_)
  unfold f_X8_load at h
  refine g_iload_n C tb_X8_load_0_ok (i := 0) rfl rfl ?_
  obtain ⟨j1, ej1, h⟩ := jn_e h
  have J13 : ∀ (_u : Unit), j1 _u = some out → GG g x 4 Q 0 0 y M 13 [none, none, none, none] [] := by
    intro _u h; subst ej1
    cases h
    exact g_vret0 C R tb_X8_load_0_ok (i := 8) rfl
  obtain ⟨t2, f3⟩ := br_e h
  refine g_if_lt C tb_X8_load_0_ok (i := 1) 13 rfl rfl (fun c => ?_) (fun c => ?_)
  · have h := t2 c
    exact g_less (L' := [none, none, none, none]) trivial (J13 () h)
  · have h := f3 c
    refine g_iload_n C tb_X8_load_0_ok (i := 2) rfl rfl ?_
    refine g_aload_n C tb_X8_load_0_ok (i := 3) rfl rfl ?_
    obtain ⟨b4, h⟩ := gT_e h
    refine g_alen C tb_X8_load_0_ok (i := 4) rfl b4 (by decide) ?_
    refine g_bipushv C tb_X8_load_0_ok (i := 5) 41 rfl k_bipushv_41 ?_
    refine g_isub C tb_X8_load_0_ok (i := 6) rfl ?_
    obtain ⟨t5, f6⟩ := br_e h
    refine g_icmp_le C tb_X8_load_0_ok (i := 7) 14 rfl rfl (fun c => ?_) (fun c => ?_)
    · have h := t5 c
      refine g_aload_n C tb_X8_load_0_ok (i := 9) rfl rfl ?_
      refine g_iload_n C tb_X8_load_0_ok (i := 10) rfl rfl ?_
      refine g_aload_n C tb_X8_load_0_ok (i := 11) rfl rfl ?_
      obtain ⟨k7, h⟩ := gK_e h
      obtain ⟨n8, h⟩ := gN_e h
      refine g_getR C tb_X8_load_0_ok (i := 12) rfl fl_X8_9 rfl k7 n8 ?_
      refine g_iconstv C tb_X8_load_0_ok (i := 13) 0 rfl k_iconstv_0 ?_
      refine g_bipushv C tb_X8_load_0_ok (i := 14) 30 rfl k_bipushv_30 ?_
      obtain ⟨b9, h⟩ := gC_e h
      refine g_copy C tb_X8_load_0_ok (i := 15) rfl mt_X8_58 rfl b9 ?_
      refine g_mem (fun M10 eM10 => ?_)
      have h := lt_e eM10 h
      refine g_aload_n C tb_X8_load_0_ok (i := 16) rfl rfl ?_
      refine g_iload_n C tb_X8_load_0_ok (i := 17) rfl rfl ?_
      refine g_bipushv C tb_X8_load_0_ok (i := 18) 30 rfl k_bipushv_30 ?_
      refine g_iadd C tb_X8_load_0_ok (i := 19) rfl ?_
      refine g_aload_n C tb_X8_load_0_ok (i := 20) rfl rfl ?_
      obtain ⟨n11, h⟩ := gN_e h
      refine g_getR C tb_X8_load_0_ok (i := 21) rfl fl_X8_21 rfl k7 n11 ?_
      refine g_iconstv C tb_X8_load_0_ok (i := 22) 0 rfl k_iconstv_0 ?_
      refine g_bipushv C tb_X8_load_0_ok (i := 23) 6 rfl k_bipushv_6 ?_
      obtain ⟨b12, h⟩ := gC_e h
      refine g_copy C tb_X8_load_0_ok (i := 24) rfl mt_X8_58 rfl b12 ?_
      refine g_mem (fun M13 eM13 => ?_)
      have h := lt_e eM13 h
      refine g_iload_n C tb_X8_load_0_ok (i := 25) rfl rfl ?_
      refine g_bipushv C tb_X8_load_0_ok (i := 26) 30 rfl k_bipushv_30 ?_
      refine g_iadd C tb_X8_load_0_ok (i := 27) rfl ?_
      refine g_bipushv C tb_X8_load_0_ok (i := 28) 6 rfl k_bipushv_6 ?_
      refine g_iadd C tb_X8_load_0_ok (i := 29) rfl ?_
      refine g_topi (fun v14 ev14 => ?_)
      have h := lt_e ev14 h
      refine g_istore_n C tb_X8_load_0_ok (i := 30) rfl rfl rfl ?_
      refine g_aload_n C tb_X8_load_0_ok (i := 31) rfl rfl ?_
      refine g_aload_n C tb_X8_load_0_ok (i := 32) rfl rfl ?_
      refine g_iload_n C tb_X8_load_0_ok (i := 33) rfl rfl ?_
      obtain ⟨b15, h⟩ := gA_e h
      refine g_iald C tb_X8_load_0_ok (i := 34) rfl b15 ?_
      refine g_putI C tb_X8_load_0_ok (i := 35) rfl fl_X8_39 ft_8_7 rfl k7 ?_
      refine g_mem (fun M16 eM16 => ?_)
      have h := lt_e eM16 h
      refine g_aload_n C tb_X8_load_0_ok (i := 36) rfl rfl ?_
      refine g_aload_n C tb_X8_load_0_ok (i := 37) rfl rfl ?_
      refine g_iload_n C tb_X8_load_0_ok (i := 38) rfl rfl ?_
      refine g_iconstv C tb_X8_load_0_ok (i := 39) 1 rfl k_iconstv_1 ?_
      refine g_iadd C tb_X8_load_1_ok (i := 0) rfl ?_
      obtain ⟨b17, h⟩ := gA_e h
      refine g_iald C tb_X8_load_1_ok (i := 1) rfl b17 ?_
      refine g_putI C tb_X8_load_1_ok (i := 2) rfl fl_X8_43 ft_8_8 rfl k7 ?_
      refine g_mem (fun M18 eM18 => ?_)
      have h := lt_e eM18 h
      refine g_aload_n C tb_X8_load_1_ok (i := 3) rfl rfl ?_
      refine g_aload_n C tb_X8_load_1_ok (i := 4) rfl rfl ?_
      refine g_iload_n C tb_X8_load_1_ok (i := 5) rfl rfl ?_
      refine g_iconstv C tb_X8_load_1_ok (i := 6) 2 rfl k_iconstv_2 ?_
      refine g_iadd C tb_X8_load_1_ok (i := 7) rfl ?_
      obtain ⟨b19, h⟩ := gA_e h
      refine g_iald C tb_X8_load_1_ok (i := 8) rfl b19 ?_
      refine g_putI C tb_X8_load_1_ok (i := 9) rfl fl_X8_46 ft_8_9 rfl k7 ?_
      refine g_mem (fun M20 eM20 => ?_)
      have h := lt_e eM20 h
      refine g_aload_n C tb_X8_load_1_ok (i := 10) rfl rfl ?_
      refine g_aload_n C tb_X8_load_1_ok (i := 11) rfl rfl ?_
      refine g_iload_n C tb_X8_load_1_ok (i := 12) rfl rfl ?_
      refine g_iconstv C tb_X8_load_1_ok (i := 13) 3 rfl k_iconstv_3 ?_
      refine g_iadd C tb_X8_load_1_ok (i := 14) rfl ?_
      obtain ⟨b21, h⟩ := gA_e h
      refine g_iald C tb_X8_load_1_ok (i := 15) rfl b21 ?_
      refine g_putI C tb_X8_load_1_ok (i := 16) rfl fl_X8_49 ft_8_10 rfl k7 ?_
      refine g_mem (fun M22 eM22 => ?_)
      have h := lt_e eM22 h
      refine g_aload_n C tb_X8_load_1_ok (i := 17) rfl rfl ?_
      refine g_aload_n C tb_X8_load_1_ok (i := 18) rfl rfl ?_
      refine g_iload_n C tb_X8_load_1_ok (i := 19) rfl rfl ?_
      refine g_iconstv C tb_X8_load_1_ok (i := 20) 4 rfl k_iconstv_4 ?_
      refine g_iadd C tb_X8_load_1_ok (i := 21) rfl ?_
      obtain ⟨b23, h⟩ := gA_e h
      refine g_iald C tb_X8_load_1_ok (i := 22) rfl b23 ?_
      refine g_putI C tb_X8_load_1_ok (i := 23) rfl fl_X8_52 ft_8_11 rfl k7 ?_
      refine g_mem (fun M24 eM24 => ?_)
      have h := lt_e eM24 h
      cases h
      exact g_vret0 C R tb_X8_load_1_ok (i := 24) rfl
    · have h := f6 c
      exact g_less (L' := [none, none, none, none]) trivial (J13 () h)
def f_X0_takeBack (y : Lay) (a0 : Nat) (a1 : Nat) (M : Mem) : Option (Int32 × Mem) := gK y a0 (0, 0) (br (0 < (M.1 a0 1)) (lt (wI M a0 1 ((M.1 a0 1) - (1 : Int32))) fun (M4 : Mem) => gN (y.2.1 a0 0) (gK y a1 (0, 8) (c0 (f_X8_load y a1 (y.2.1 a0 0) ((M4.1 a0 1) * (41 : Int32)) M4) fun (r7 : Int32) (M8 : Mem) => some ((1 : Int32), M8)))) (some ((0 : Int32), M)))
theorem w_X0_takeBack {g : GX} {l : Launch} (hG : GF g l) (y : Lay) (a0 : Nat) (a1 : Nat) (M : Mem) : C0 g l yX0_takeBack cX0_takeBack 2 (some .boolean) 1 y [.ref a0, .ref a1] M (f_X0_takeBack y a0 a1 M) := by
  refine C0_of hG (by decide) [some (.ref a0), some (.ref a1)] rfl rfl (fun out h x Q C R => ?_)
  unfold f_X0_takeBack at h
  refine g_aload_n C tb_X0_takeBack_0_ok (i := 0) rfl rfl ?_
  obtain ⟨k1, h⟩ := gK_e h
  refine g_getI C tb_X0_takeBack_0_ok (i := 1) rfl fl_X0_17 rfl k1 ?_
  obtain ⟨t2, f3⟩ := br_e h
  refine g_if_gt C tb_X0_takeBack_0_ok (i := 2) 9 rfl rfl (fun c => ?_) (fun c => ?_)
  · have h := t2 c
    refine g_aload_n C tb_X0_takeBack_0_ok (i := 5) rfl rfl ?_
    refine g_dup C tb_X0_takeBack_0_ok (i := 6) rfl rfl ?_
    refine g_getI C tb_X0_takeBack_0_ok (i := 7) rfl fl_X0_17 rfl k1 ?_
    refine g_iconstv C tb_X0_takeBack_0_ok (i := 8) 1 rfl k_iconstv_1 ?_
    refine g_isub C tb_X0_takeBack_0_ok (i := 9) rfl ?_
    refine g_putI C tb_X0_takeBack_0_ok (i := 10) rfl fl_X0_17 ft_0_1 rfl k1 ?_
    refine g_mem (fun M4 eM4 => ?_)
    have h := lt_e eM4 h
    refine g_aload_n C tb_X0_takeBack_0_ok (i := 11) rfl rfl ?_
    refine g_aload_n C tb_X0_takeBack_0_ok (i := 12) rfl rfl ?_
    obtain ⟨n5, h⟩ := gN_e h
    refine g_getR C tb_X0_takeBack_0_ok (i := 13) rfl fl_X0_11 rfl k1 n5 ?_
    refine g_aload_n C tb_X0_takeBack_0_ok (i := 14) rfl rfl ?_
    refine g_getI C tb_X0_takeBack_0_ok (i := 15) rfl fl_X0_17 rfl k1 ?_
    refine g_bipushv C tb_X0_takeBack_0_ok (i := 16) 41 rfl k_bipushv_41 ?_
    refine g_imul C tb_X0_takeBack_0_ok (i := 17) rfl ?_
    obtain ⟨k6, h⟩ := gK_e h
    obtain ⟨r7, M8, er7, h⟩ := c0_e h
    refine g_callV0 C tb_X0_takeBack_0_ok (i := 18) [.ref (y.2.1 a0 0), .int ((M4.1 a0 1) * (41 : Int32))] rfl mw_X8_load mv_X8_load ml_X0_31 k6 rfl rfl rfl rfl (w_X8_load C.G y a1 (y.2.1 a0 0) ((M4.1 a0 1) * (41 : Int32)) M4) er7 rfl rfl rfl ?_
    refine g_iconstv C tb_X0_takeBack_0_ok (i := 19) 1 rfl k_iconstv_1 ?_
    cases h
    exact g_zret0 C R (by decide) tb_X0_takeBack_0_ok (i := 20) rfl
  · have h := f3 c
    refine g_iconstv C tb_X0_takeBack_0_ok (i := 3) 0 rfl k_iconstv_0 ?_
    cases h
    exact g_zret0 C R (by decide) tb_X0_takeBack_0_ok (i := 4) rfl
def f_X11_undo (y : Lay) (a0 : Nat) (M : Mem) : Option (Int32 × Mem) := gK y a0 (0, 11) (gN (y.2.1 a0 3) (gK y (y.2.1 a0 3) (0, 4) (gN (y.2.1 (y.2.1 a0 3) 1) (gN (y.2.1 (y.2.1 a0 3) 0) (gK y (y.2.1 (y.2.1 a0 3) 1) (0, 0) (c0 (f_X0_takeBack y (y.2.1 (y.2.1 a0 3) 1) (y.2.1 (y.2.1 a0 3) 0) M) fun (r7 : Int32) (M8 : Mem) => br (r7 = 0) (some (((-1) : Int32), M8)) (some ((M8.1 (y.2.1 (y.2.1 a0 3) 1) 1), M8))))))))
theorem w_X11_undo {g : GX} {l : Launch} (hG : GF g l) (y : Lay) (a0 : Nat) (M : Mem) : C0 g l yX11_undo cX11_undo 1 (some .int) 2 y [.ref a0] M (f_X11_undo y a0 M) := by
  refine C0_of hG (by decide) [some (.ref a0)] rfl rfl (fun out h x Q C R => ?_)
  unfold f_X11_undo at h
  refine g_aload_n C tb_X11_undo_0_ok (i := 0) rfl rfl ?_
  obtain ⟨k1, h⟩ := gK_e h
  obtain ⟨n2, h⟩ := gN_e h
  refine g_getR C tb_X11_undo_0_ok (i := 1) rfl fl_X11_37 rfl k1 n2 ?_
  obtain ⟨k3, h⟩ := gK_e h
  obtain ⟨n4, h⟩ := gN_e h
  refine g_getR C tb_X11_undo_0_ok (i := 2) rfl fl_X11_161 rfl k3 n4 ?_
  refine g_aload_n C tb_X11_undo_0_ok (i := 3) rfl rfl ?_
  refine g_getR C tb_X11_undo_0_ok (i := 4) rfl fl_X11_37 rfl k1 n2 ?_
  obtain ⟨n5, h⟩ := gN_e h
  refine g_getR C tb_X11_undo_0_ok (i := 5) rfl fl_X11_53 rfl k3 n5 ?_
  obtain ⟨k6, h⟩ := gK_e h
  obtain ⟨r7, M8, er7, h⟩ := c0_e h
  refine g_callV0 C tb_X11_undo_0_ok (i := 6) [.ref (y.2.1 (y.2.1 a0 3) 0)] rfl mw_X0_takeBack mv_X0_takeBack ml_X11_244 k6 rfl rfl rfl rfl (w_X0_takeBack C.G y (y.2.1 (y.2.1 a0 3) 1) (y.2.1 (y.2.1 a0 3) 0) M) er7 rfl rfl rfl ?_
  obtain ⟨t9, f10⟩ := br_e h
  refine g_if_ne C tb_X11_undo_0_ok (i := 7) 22 rfl rfl (fun c => ?_) (fun c => ?_)
  · have h := f10 c
    refine g_aload_n C tb_X11_undo_0_ok (i := 10) rfl rfl ?_
    refine g_getR C tb_X11_undo_0_ok (i := 11) rfl fl_X11_37 rfl k1 n2 ?_
    refine g_getR C tb_X11_undo_0_ok (i := 12) rfl fl_X11_161 rfl k3 n4 ?_
    refine g_getI C tb_X11_undo_0_ok (i := 13) rfl fl_X11_165 rfl k6 ?_
    cases h
    exact g_iret0 C R tb_X11_undo_0_ok (i := 14) rfl
  · have h := t9 c
    refine g_iconstv C tb_X11_undo_0_ok (i := 8) (-1) rfl k_iconstv_m1 ?_
    cases h
    exact g_iret0 C R tb_X11_undo_0_ok (i := 9) rfl
def f_X8_copyFrom (y : Lay) (a0 : Nat) (a1 : Nat) (M : Mem) : Option (Int32 × Mem) := gK y a1 (0, 8) (gN (y.2.1 a1 1) (gK y a0 (0, 8) (gN (y.2.1 a0 1) (gC y (y.2.1 a1 1) (y.2.1 a0 1) (0 : Int32) (0 : Int32) (30 : Int32) (lt (cpI M (y.2.1 a1 1) (y.2.1 a0 1) (0 : Int32).toNatClampNeg (0 : Int32).toNatClampNeg (30 : Int32).toNatClampNeg) fun (M6 : Mem) => gN (y.2.1 a1 4) (gN (y.2.1 a0 4) (gC y (y.2.1 a1 4) (y.2.1 a0 4) (0 : Int32) (0 : Int32) (6 : Int32) (lt (cpI M6 (y.2.1 a1 4) (y.2.1 a0 4) (0 : Int32).toNatClampNeg (0 : Int32).toNatClampNeg (6 : Int32).toNatClampNeg) fun (M10 : Mem) => gN (y.2.1 a1 5) (gN (y.2.1 a0 5) (gC y (y.2.1 a1 5) (y.2.1 a0 5) (0 : Int32) (0 : Int32) (6 : Int32) (lt (cpI M10 (y.2.1 a1 5) (y.2.1 a0 5) (0 : Int32).toNatClampNeg (0 : Int32).toNatClampNeg (6 : Int32).toNatClampNeg) fun (M14 : Mem) => lt (wI M14 a0 7 (M14.1 a1 7)) fun (M15 : Mem) => lt (wI M15 a0 8 (M15.1 a1 8)) fun (M16 : Mem) => lt (wI M16 a0 9 (M16.1 a1 9)) fun (M17 : Mem) => lt (wI M17 a0 10 (M17.1 a1 10)) fun (M18 : Mem) => lt (wI M18 a0 11 (M18.1 a1 11)) fun (M19 : Mem) => lt (wI M19 a0 12 (M19.1 a1 12)) fun (M20 : Mem) => some (0, M20))))))))))))
theorem w_X8_copyFrom {g : GX} {l : Launch} (hG : GF g l) (y : Lay) (a0 : Nat) (a1 : Nat) (M : Mem) : C0 g l yX8_copyFrom cX8_copyFrom 2 none 0 y [.ref a0, .ref a1] M (f_X8_copyFrom y a0 a1 M) := by
  refine C0_of hG (by decide) [some (.ref a0), some (.ref a1)] rfl rfl (fun out h x Q C R => ?_)
  unfold f_X8_copyFrom at h
  refine g_aload_n C tb_X8_copyFrom_0_ok (i := 0) rfl rfl ?_
  obtain ⟨k1, h⟩ := gK_e h
  obtain ⟨n2, h⟩ := gN_e h
  refine g_getR C tb_X8_copyFrom_0_ok (i := 1) rfl fl_X8_9 rfl k1 n2 ?_
  refine g_iconstv C tb_X8_copyFrom_0_ok (i := 2) 0 rfl k_iconstv_0 ?_
  refine g_aload_n C tb_X8_copyFrom_0_ok (i := 3) rfl rfl ?_
  obtain ⟨k3, h⟩ := gK_e h
  obtain ⟨n4, h⟩ := gN_e h
  refine g_getR C tb_X8_copyFrom_0_ok (i := 4) rfl fl_X8_9 rfl k3 n4 ?_
  refine g_iconstv C tb_X8_copyFrom_0_ok (i := 5) 0 rfl k_iconstv_0 ?_
  refine g_bipushv C tb_X8_copyFrom_0_ok (i := 6) 30 rfl k_bipushv_30 ?_
  obtain ⟨b5, h⟩ := gC_e h
  refine g_copy C tb_X8_copyFrom_0_ok (i := 7) rfl mt_X8_58 rfl b5 ?_
  refine g_mem (fun M6 eM6 => ?_)
  have h := lt_e eM6 h
  refine g_aload_n C tb_X8_copyFrom_0_ok (i := 8) rfl rfl ?_
  obtain ⟨n7, h⟩ := gN_e h
  refine g_getR C tb_X8_copyFrom_0_ok (i := 9) rfl fl_X8_21 rfl k1 n7 ?_
  refine g_iconstv C tb_X8_copyFrom_0_ok (i := 10) 0 rfl k_iconstv_0 ?_
  refine g_aload_n C tb_X8_copyFrom_0_ok (i := 11) rfl rfl ?_
  obtain ⟨n8, h⟩ := gN_e h
  refine g_getR C tb_X8_copyFrom_0_ok (i := 12) rfl fl_X8_21 rfl k3 n8 ?_
  refine g_iconstv C tb_X8_copyFrom_0_ok (i := 13) 0 rfl k_iconstv_0 ?_
  refine g_bipushv C tb_X8_copyFrom_0_ok (i := 14) 6 rfl k_bipushv_6 ?_
  obtain ⟨b9, h⟩ := gC_e h
  refine g_copy C tb_X8_copyFrom_0_ok (i := 15) rfl mt_X8_58 rfl b9 ?_
  refine g_mem (fun M10 eM10 => ?_)
  have h := lt_e eM10 h
  refine g_aload_n C tb_X8_copyFrom_0_ok (i := 16) rfl rfl ?_
  obtain ⟨n11, h⟩ := gN_e h
  refine g_getR C tb_X8_copyFrom_0_ok (i := 17) rfl fl_X8_24 rfl k1 n11 ?_
  refine g_iconstv C tb_X8_copyFrom_0_ok (i := 18) 0 rfl k_iconstv_0 ?_
  refine g_aload_n C tb_X8_copyFrom_0_ok (i := 19) rfl rfl ?_
  obtain ⟨n12, h⟩ := gN_e h
  refine g_getR C tb_X8_copyFrom_0_ok (i := 20) rfl fl_X8_24 rfl k3 n12 ?_
  refine g_iconstv C tb_X8_copyFrom_0_ok (i := 21) 0 rfl k_iconstv_0 ?_
  refine g_bipushv C tb_X8_copyFrom_0_ok (i := 22) 6 rfl k_bipushv_6 ?_
  obtain ⟨b13, h⟩ := gC_e h
  refine g_copy C tb_X8_copyFrom_0_ok (i := 23) rfl mt_X8_58 rfl b13 ?_
  refine g_mem (fun M14 eM14 => ?_)
  have h := lt_e eM14 h
  refine g_aload_n C tb_X8_copyFrom_0_ok (i := 24) rfl rfl ?_
  refine g_aload_n C tb_X8_copyFrom_0_ok (i := 25) rfl rfl ?_
  refine g_getI C tb_X8_copyFrom_0_ok (i := 26) rfl fl_X8_39 rfl k1 ?_
  refine g_putI C tb_X8_copyFrom_0_ok (i := 27) rfl fl_X8_39 ft_8_7 rfl k3 ?_
  refine g_mem (fun M15 eM15 => ?_)
  have h := lt_e eM15 h
  refine g_aload_n C tb_X8_copyFrom_0_ok (i := 28) rfl rfl ?_
  refine g_aload_n C tb_X8_copyFrom_0_ok (i := 29) rfl rfl ?_
  refine g_getI C tb_X8_copyFrom_0_ok (i := 30) rfl fl_X8_43 rfl k1 ?_
  refine g_putI C tb_X8_copyFrom_0_ok (i := 31) rfl fl_X8_43 ft_8_8 rfl k3 ?_
  refine g_mem (fun M16 eM16 => ?_)
  have h := lt_e eM16 h
  refine g_aload_n C tb_X8_copyFrom_0_ok (i := 32) rfl rfl ?_
  refine g_aload_n C tb_X8_copyFrom_0_ok (i := 33) rfl rfl ?_
  refine g_getI C tb_X8_copyFrom_0_ok (i := 34) rfl fl_X8_46 rfl k1 ?_
  refine g_putI C tb_X8_copyFrom_0_ok (i := 35) rfl fl_X8_46 ft_8_9 rfl k3 ?_
  refine g_mem (fun M17 eM17 => ?_)
  have h := lt_e eM17 h
  refine g_aload_n C tb_X8_copyFrom_0_ok (i := 36) rfl rfl ?_
  refine g_aload_n C tb_X8_copyFrom_0_ok (i := 37) rfl rfl ?_
  refine g_getI C tb_X8_copyFrom_0_ok (i := 38) rfl fl_X8_49 rfl k1 ?_
  refine g_putI C tb_X8_copyFrom_0_ok (i := 39) rfl fl_X8_49 ft_8_10 rfl k3 ?_
  refine g_mem (fun M18 eM18 => ?_)
  have h := lt_e eM18 h
  refine g_aload_n C tb_X8_copyFrom_1_ok (i := 0) rfl rfl ?_
  refine g_aload_n C tb_X8_copyFrom_1_ok (i := 1) rfl rfl ?_
  refine g_getI C tb_X8_copyFrom_1_ok (i := 2) rfl fl_X8_52 rfl k1 ?_
  refine g_putI C tb_X8_copyFrom_1_ok (i := 3) rfl fl_X8_52 ft_8_11 rfl k3 ?_
  refine g_mem (fun M19 eM19 => ?_)
  have h := lt_e eM19 h
  refine g_aload_n C tb_X8_copyFrom_1_ok (i := 4) rfl rfl ?_
  refine g_aload_n C tb_X8_copyFrom_1_ok (i := 5) rfl rfl ?_
  refine g_getI C tb_X8_copyFrom_1_ok (i := 6) rfl fl_X8_55 rfl k1 ?_
  refine g_putI C tb_X8_copyFrom_1_ok (i := 7) rfl fl_X8_55 ft_8_12 rfl k3 ?_
  refine g_mem (fun M20 eM20 => ?_)
  have h := lt_e eM20 h
  cases h
  exact g_vret0 C R tb_X8_copyFrom_1_ok (i := 8) rfl
def f_X11_lookAhead (y : Lay) (a0 : Nat) (a1 : Int32) (M : Mem) : Option (Int32 × Mem) := gK y a0 (0, 11) (gN (y.2.1 a0 5) (gN (y.2.1 a0 3) (gK y (y.2.1 a0 3) (0, 4) (gN (y.2.1 (y.2.1 a0 3) 0) (gK y (y.2.1 a0 5) (0, 8) (c0 (f_X8_copyFrom y (y.2.1 a0 5) (y.2.1 (y.2.1 a0 3) 0) M) fun (r7 : Int32) (M8 : Mem) => fixN (fun _ _ => none) (fun (s11 : Int32 → Mem → Option (Int32 × Mem)) (v9 : Int32) (M10 : Mem) => br (a1 ≤ v9) (some (0, M10)) (c0 (f_X8_passDay y (y.2.1 a0 5) M10) fun (r15 : Int32) (M16 : Mem) => lt (v9 + (1 : Int32)) fun (v17 : Int32) => s11 v17 M16)) FUEL (0 : Int32) M8))))))
theorem w_X11_lookAhead {g : GX} {l : Launch} (hG : GF g l) (y : Lay) (a0 : Nat) (a1 : Int32) (M : Mem) : C0 g l yX11_lookAhead cX11_lookAhead 3 none 5 y [.ref a0, .int a1] M (f_X11_lookAhead y a0 a1 M) := by
  refine C0_of hG (by decide) [some (.ref a0), some (.int a1), none] rfl rfl (fun out h x Q C R => ?_)
  unfold f_X11_lookAhead at h
  refine g_aload_n C tb_X11_lookAhead_0_ok (i := 0) rfl rfl ?_
  obtain ⟨k1, h⟩ := gK_e h
  obtain ⟨n2, h⟩ := gN_e h
  refine g_getR C tb_X11_lookAhead_0_ok (i := 1) rfl fl_X11_47 rfl k1 n2 ?_
  refine g_aload_n C tb_X11_lookAhead_0_ok (i := 2) rfl rfl ?_
  obtain ⟨n3, h⟩ := gN_e h
  refine g_getR C tb_X11_lookAhead_0_ok (i := 3) rfl fl_X11_37 rfl k1 n3 ?_
  obtain ⟨k4, h⟩ := gK_e h
  obtain ⟨n5, h⟩ := gN_e h
  refine g_getR C tb_X11_lookAhead_0_ok (i := 4) rfl fl_X11_53 rfl k4 n5 ?_
  obtain ⟨k6, h⟩ := gK_e h
  obtain ⟨r7, M8, er7, h⟩ := c0_e h
  refine g_callV0 C tb_X11_lookAhead_0_ok (i := 5) [.ref (y.2.1 (y.2.1 a0 3) 0)] rfl mw_X8_copyFrom mv_X8_copyFrom ml_X11_343 k6 rfl rfl rfl rfl (w_X8_copyFrom C.G y (y.2.1 a0 5) (y.2.1 (y.2.1 a0 3) 0) M) er7 rfl rfl rfl ?_
  refine g_iconstv C tb_X11_lookAhead_0_ok (i := 6) 0 rfl k_iconstv_0 ?_
  refine g_istore_n C tb_X11_lookAhead_0_ok (i := 7) rfl rfl rfl ?_
  refine g_less (L' := [some (.ref a0), some (.int a1), some (.int (0 : Int32))]) ⟨rfl, ⟨rfl, ⟨rfl, trivial⟩⟩⟩ ?_
  refine fix_i (P := fun (f : Int32 → Mem → Option (Int32 × Mem)) => ∀ (v9 : Int32) (M10 : Mem), f v9 M10 = some out → GG g x 3 Q 0 0 y M10 16 [some (.ref a0), some (.int a1), some (.int v9)] []) ?_ ?_ _ (0 : Int32) M8 h
  · intro v9 M10 h; exact (nn_e h).elim
  · intro s11 ih12 v9 M10 h
    refine g_iload_n C tb_X11_lookAhead_0_ok (i := 8) rfl rfl ?_
    refine g_iload_n C tb_X11_lookAhead_0_ok (i := 9) rfl rfl ?_
    obtain ⟨t13, f14⟩ := br_e h
    refine g_icmp_ge C tb_X11_lookAhead_0_ok (i := 10) 34 rfl rfl (fun c => ?_) (fun c => ?_)
    · have h := t13 c
      cases h
      exact g_vret0 C R tb_X11_lookAhead_0_ok (i := 16) rfl
    · have h := f14 c
      refine g_aload_n C tb_X11_lookAhead_0_ok (i := 11) rfl rfl ?_
      refine g_getR C tb_X11_lookAhead_0_ok (i := 12) rfl fl_X11_47 rfl k1 n2 ?_
      obtain ⟨r15, M16, er15, h⟩ := c0_e h
      refine g_callV0 C tb_X11_lookAhead_0_ok (i := 13) [] rfl mw_X8_passDay mv_X8_passDay ml_X11_221 k6 rfl rfl rfl rfl (w_X8_passDay C.G y (y.2.1 a0 5) M10) er15 rfl rfl rfl ?_
      obtain ⟨v17, ev17⟩ : ∃ w : Int32, w = v9 + (1 : Int32) := ⟨_, rfl⟩
      have h := lt_e ev17 h
      refine g_iincv C tb_X11_lookAhead_0_ok (i := 14) (1 : Int32) ev17 rfl rfl k_iconstv_1 rfl rfl ?_
      refine g_goto C tb_X11_lookAhead_0_ok (i := 15) 16 rfl rfl ?_
      exact g_less (L' := [some (.ref a0), some (.int a1), some (.int v17)]) ⟨rfl, ⟨rfl, ⟨rfl, trivial⟩⟩⟩ (ih12 v17 M16 h)
def f_X11_spent (y : Lay) (a0 : Nat) (M : Mem) : Option (Int32 × Mem) := gK y a0 (0, 11) (c0 (f_X11_lookAhead y a0 (0 : Int32) M) fun (r2 : Int32) (M3 : Mem) => fixN (fun _ _ => none) (fun (s6 : Int32 → Mem → Option (Int32 × Mem)) (v4 : Int32) (M5 : Mem) => br ((40 : Int32) < v4) (some (((-1) : Int32), M5)) (gN (y.2.1 a0 5) (gK y (y.2.1 a0 5) (0, 8) (br ((M5.1 (y.2.1 a0 5) 9) = 0) (some (v4, M5)) (c0 (f_X8_passDay y (y.2.1 a0 5) M5) fun (r14 : Int32) (M15 : Mem) => lt (v4 + (1 : Int32)) fun (v16 : Int32) => s6 v16 M15))))) FUEL (0 : Int32) M3)
theorem w_X11_spent {g : GX} {l : Launch} (hG : GF g l) (y : Lay) (a0 : Nat) (M : Mem) : C0 g l yX11_spent cX11_spent 2 (some .int) 6 y [.ref a0] M (f_X11_spent y a0 M) := by
  refine C0_of hG (by decide) [some (.ref a0), none] rfl rfl (fun out h x Q C R => ?_)
  unfold f_X11_spent at h
  refine g_aload_n C tb_X11_spent_0_ok (i := 0) rfl rfl ?_
  refine g_iconstv C tb_X11_spent_0_ok (i := 1) 0 rfl k_iconstv_0 ?_
  obtain ⟨k1, h⟩ := gK_e h
  obtain ⟨r2, M3, er2, h⟩ := c0_e h
  refine g_callV0 C tb_X11_spent_0_ok (i := 2) [.int (0 : Int32)] rfl mw_X11_lookAhead mv_X11_lookAhead ml_X11_252 k1 rfl rfl rfl rfl (w_X11_lookAhead C.G y a0 (0 : Int32) M) er2 rfl rfl rfl ?_
  refine g_iconstv C tb_X11_spent_0_ok (i := 3) 0 rfl k_iconstv_0 ?_
  refine g_istore_n C tb_X11_spent_0_ok (i := 4) rfl rfl rfl ?_
  refine g_less (L' := [some (.ref a0), some (.int (0 : Int32))]) ⟨rfl, ⟨rfl, trivial⟩⟩ ?_
  refine fix_i (P := fun (f : Int32 → Mem → Option (Int32 × Mem)) => ∀ (v4 : Int32) (M5 : Mem), f v4 M5 = some out → GG g x 2 Q 0 0 y M5 7 [some (.ref a0), some (.int v4)] []) ?_ ?_ _ (0 : Int32) M3 h
  · intro v4 M5 h; exact (nn_e h).elim
  · intro s6 ih7 v4 M5 h
    refine g_iload_n C tb_X11_spent_0_ok (i := 5) rfl rfl ?_
    refine g_bipushv C tb_X11_spent_0_ok (i := 6) 40 rfl k_bipushv_40 ?_
    obtain ⟨t8, f9⟩ := br_e h
    refine g_icmp_gt C tb_X11_spent_0_ok (i := 7) 38 rfl rfl (fun c => ?_) (fun c => ?_)
    · have h := t8 c
      refine g_iconstv C tb_X11_spent_0_ok (i := 19) (-1) rfl k_iconstv_m1 ?_
      cases h
      exact g_iret0 C R tb_X11_spent_0_ok (i := 20) rfl
    · have h := f9 c
      refine g_aload_n C tb_X11_spent_0_ok (i := 8) rfl rfl ?_
      obtain ⟨n10, h⟩ := gN_e h
      refine g_getR C tb_X11_spent_0_ok (i := 9) rfl fl_X11_47 rfl k1 n10 ?_
      obtain ⟨k11, h⟩ := gK_e h
      refine g_getI C tb_X11_spent_0_ok (i := 10) rfl fl_X11_140 rfl k11 ?_
      obtain ⟨t12, f13⟩ := br_e h
      refine g_if_ne C tb_X11_spent_0_ok (i := 11) 25 rfl rfl (fun c => ?_) (fun c => ?_)
      · have h := f13 c
        refine g_aload_n C tb_X11_spent_0_ok (i := 14) rfl rfl ?_
        refine g_getR C tb_X11_spent_0_ok (i := 15) rfl fl_X11_47 rfl k1 n10 ?_
        obtain ⟨r14, M15, er14, h⟩ := c0_e h
        refine g_callV0 C tb_X11_spent_0_ok (i := 16) [] rfl mw_X8_passDay mv_X8_passDay ml_X11_221 k11 rfl rfl rfl rfl (w_X8_passDay C.G y (y.2.1 a0 5) M5) er14 rfl rfl rfl ?_
        obtain ⟨v16, ev16⟩ : ∃ w : Int32, w = v4 + (1 : Int32) := ⟨_, rfl⟩
        have h := lt_e ev16 h
        refine g_iincv C tb_X11_spent_0_ok (i := 17) (1 : Int32) ev16 rfl rfl k_iconstv_1 rfl rfl ?_
        refine g_goto C tb_X11_spent_0_ok (i := 18) 7 rfl rfl ?_
        exact g_less (L' := [some (.ref a0), some (.int v16)]) ⟨rfl, ⟨rfl, trivial⟩⟩ (ih7 v16 M15 h)
      · have h := t12 c
        refine g_iload_n C tb_X11_spent_0_ok (i := 12) rfl rfl ?_
        cases h
        exact g_iret0 C R tb_X11_spent_0_ok (i := 13) rfl
def f_X8_isAsInTheMorning (y : Lay) (a0 : Nat) (M : Mem) : Option Int32 := fixN (fun _ => none) (fun (s2 : Int32 → Option Int32) (v1 : Int32) => br ((30 : Int32) ≤ v1) (some (1 : Int32)) (gK y a0 (0, 8) (gN (y.2.1 a0 1) (gA y (y.2.1 a0 1) 1 v1 (gN (y.2.1 a0 2) (gA y (y.2.1 a0 2) 1 v1 (br ((M.1 (y.2.1 a0 1) v1.toNatClampNeg) = (M.1 (y.2.1 a0 2) v1.toNatClampNeg)) (lt (v1 + (1 : Int32)) fun (v13 : Int32) => s2 v13) (some (0 : Int32))))))))) FUEL (0 : Int32)
theorem w_X8_isAsInTheMorning {g : GX} {l : Launch} (hG : GF g l) (y : Lay) (a0 : Nat) (M : Mem) : C0 g l yX8_isAsInTheMorning cX8_isAsInTheMorning 2 (some .boolean) 0 y [.ref a0] M (pm M (f_X8_isAsInTheMorning y a0 M)) := by
  refine CP_of hG (by decide) [some (.ref a0), none] rfl rfl (fun out h x Q C R => ?_)
  unfold f_X8_isAsInTheMorning at h
  refine g_iconstv C tb_X8_isAsInTheMorning_0_ok (i := 0) 0 rfl k_iconstv_0 ?_
  refine g_istore_n C tb_X8_isAsInTheMorning_0_ok (i := 1) rfl rfl rfl ?_
  refine g_less (L' := [some (.ref a0), some (.int (0 : Int32))]) ⟨rfl, ⟨rfl, trivial⟩⟩ ?_
  refine fix_i (P := fun (f : Int32 → Option Int32) => ∀ (v1 : Int32), f v1 = some out → GG g x 2 Q 0 0 y M 2 [some (.ref a0), some (.int v1)] []) ?_ ?_ _ (0 : Int32) h
  · intro v1 h; exact (nn_e h).elim
  · intro s2 ih3 v1 h
    refine g_iload_n C tb_X8_isAsInTheMorning_0_ok (i := 2) rfl rfl ?_
    refine g_bipushv C tb_X8_isAsInTheMorning_0_ok (i := 3) 30 rfl k_bipushv_30 ?_
    obtain ⟨t4, f5⟩ := br_e h
    refine g_icmp_ge C tb_X8_isAsInTheMorning_0_ok (i := 4) 31 rfl rfl (fun c => ?_) (fun c => ?_)
    · have h := t4 c
      refine g_iconstv C tb_X8_isAsInTheMorning_0_ok (i := 18) 1 rfl k_iconstv_1 ?_
      cases h
      exact g_zret0 C R (by decide) tb_X8_isAsInTheMorning_0_ok (i := 19) rfl
    · have h := f5 c
      refine g_aload_n C tb_X8_isAsInTheMorning_0_ok (i := 5) rfl rfl ?_
      obtain ⟨k6, h⟩ := gK_e h
      obtain ⟨n7, h⟩ := gN_e h
      refine g_getR C tb_X8_isAsInTheMorning_0_ok (i := 6) rfl fl_X8_9 rfl k6 n7 ?_
      refine g_iload_n C tb_X8_isAsInTheMorning_0_ok (i := 7) rfl rfl ?_
      obtain ⟨b8, h⟩ := gA_e h
      refine g_iald C tb_X8_isAsInTheMorning_0_ok (i := 8) rfl b8 ?_
      refine g_aload_n C tb_X8_isAsInTheMorning_0_ok (i := 9) rfl rfl ?_
      obtain ⟨n9, h⟩ := gN_e h
      refine g_getR C tb_X8_isAsInTheMorning_0_ok (i := 10) rfl fl_X8_15 rfl k6 n9 ?_
      refine g_iload_n C tb_X8_isAsInTheMorning_0_ok (i := 11) rfl rfl ?_
      obtain ⟨b10, h⟩ := gA_e h
      refine g_iald C tb_X8_isAsInTheMorning_0_ok (i := 12) rfl b10 ?_
      obtain ⟨t11, f12⟩ := br_e h
      refine g_icmp_eq C tb_X8_isAsInTheMorning_0_ok (i := 13) 25 rfl rfl (fun c => ?_) (fun c => ?_)
      · have h := t11 c
        obtain ⟨v13, ev13⟩ : ∃ w : Int32, w = v1 + (1 : Int32) := ⟨_, rfl⟩
        have h := lt_e ev13 h
        refine g_iincv C tb_X8_isAsInTheMorning_0_ok (i := 16) (1 : Int32) ev13 rfl rfl k_iconstv_1 rfl rfl ?_
        refine g_goto C tb_X8_isAsInTheMorning_0_ok (i := 17) 2 rfl rfl ?_
        exact g_less (L' := [some (.ref a0), some (.int v13)]) ⟨rfl, ⟨rfl, trivial⟩⟩ (ih3 v13 h)
      · have h := f12 c
        refine g_iconstv C tb_X8_isAsInTheMorning_0_ok (i := 14) 0 rfl k_iconstv_0 ?_
        cases h
        exact g_zret0 C R (by decide) tb_X8_isAsInTheMorning_0_ok (i := 15) rfl
def f_X11_steady (y : Lay) (a0 : Nat) (M : Mem) : Option (Int32 × Mem) := gK y a0 (0, 11) (c0 (f_X11_lookAhead y a0 (0 : Int32) M) fun (r2 : Int32) (M3 : Mem) => fixN (fun _ _ => none) (fun (s6 : Int32 → Mem → Option (Int32 × Mem)) (v4 : Int32) (M5 : Mem) => br ((40 : Int32) < v4) (some (((-1) : Int32), M5)) (gN (y.2.1 a0 5) (gK y (y.2.1 a0 5) (0, 8) (c0 (f_X8_passDay y (y.2.1 a0 5) M5) fun (r12 : Int32) (M13 : Mem) => cp (f_X8_isAsInTheMorning y (y.2.1 a0 5) M13) fun (r14 : Int32) => br (r14 = 0) (lt (v4 + (1 : Int32)) fun (v17 : Int32) => s6 v17 M13) (some (v4, M13)))))) FUEL (1 : Int32) M3)
theorem w_X11_steady {g : GX} {l : Launch} (hG : GF g l) (y : Lay) (a0 : Nat) (M : Mem) : C0 g l yX11_steady cX11_steady 2 (some .int) 6 y [.ref a0] M (f_X11_steady y a0 M) := by
  refine C0_of hG (by decide) [some (.ref a0), none] rfl rfl (fun out h x Q C R => ?_)
  unfold f_X11_steady at h
  refine g_aload_n C tb_X11_steady_0_ok (i := 0) rfl rfl ?_
  refine g_iconstv C tb_X11_steady_0_ok (i := 1) 0 rfl k_iconstv_0 ?_
  obtain ⟨k1, h⟩ := gK_e h
  obtain ⟨r2, M3, er2, h⟩ := c0_e h
  refine g_callV0 C tb_X11_steady_0_ok (i := 2) [.int (0 : Int32)] rfl mw_X11_lookAhead mv_X11_lookAhead ml_X11_252 k1 rfl rfl rfl rfl (w_X11_lookAhead C.G y a0 (0 : Int32) M) er2 rfl rfl rfl ?_
  refine g_iconstv C tb_X11_steady_0_ok (i := 3) 1 rfl k_iconstv_1 ?_
  refine g_istore_n C tb_X11_steady_0_ok (i := 4) rfl rfl rfl ?_
  refine g_less (L' := [some (.ref a0), some (.int (1 : Int32))]) ⟨rfl, ⟨rfl, trivial⟩⟩ ?_
  refine fix_i (P := fun (f : Int32 → Mem → Option (Int32 × Mem)) => ∀ (v4 : Int32) (M5 : Mem), f v4 M5 = some out → GG g x 2 Q 0 0 y M5 7 [some (.ref a0), some (.int v4)] []) ?_ ?_ _ (1 : Int32) M3 h
  · intro v4 M5 h; exact (nn_e h).elim
  · intro s6 ih7 v4 M5 h
    refine g_iload_n C tb_X11_steady_0_ok (i := 5) rfl rfl ?_
    refine g_bipushv C tb_X11_steady_0_ok (i := 6) 40 rfl k_bipushv_40 ?_
    obtain ⟨t8, f9⟩ := br_e h
    refine g_icmp_gt C tb_X11_steady_0_ok (i := 7) 38 rfl rfl (fun c => ?_) (fun c => ?_)
    · have h := t8 c
      refine g_iconstv C tb_X11_steady_0_ok (i := 19) (-1) rfl k_iconstv_m1 ?_
      cases h
      exact g_iret0 C R tb_X11_steady_0_ok (i := 20) rfl
    · have h := f9 c
      refine g_aload_n C tb_X11_steady_0_ok (i := 8) rfl rfl ?_
      obtain ⟨n10, h⟩ := gN_e h
      refine g_getR C tb_X11_steady_0_ok (i := 9) rfl fl_X11_47 rfl k1 n10 ?_
      obtain ⟨k11, h⟩ := gK_e h
      obtain ⟨r12, M13, er12, h⟩ := c0_e h
      refine g_callV0 C tb_X11_steady_0_ok (i := 10) [] rfl mw_X8_passDay mv_X8_passDay ml_X11_221 k11 rfl rfl rfl rfl (w_X8_passDay C.G y (y.2.1 a0 5) M5) er12 rfl rfl rfl ?_
      refine g_aload_n C tb_X11_steady_0_ok (i := 11) rfl rfl ?_
      refine g_getR C tb_X11_steady_0_ok (i := 12) rfl fl_X11_47 rfl k1 n10 ?_
      obtain ⟨r14, er14, h⟩ := cp_e h
      refine g_callV0 C tb_X11_steady_0_ok (i := 13) [] rfl mw_X8_isAsInTheMorning mv_X8_isAsInTheMorning ml_X11_276 k11 rfl rfl rfl rfl (w_X8_isAsInTheMorning C.G y (y.2.1 a0 5) M13) (pm_s er14) rfl rfl rfl ?_
      obtain ⟨t15, f16⟩ := br_e h
      refine g_if_eq C tb_X11_steady_0_ok (i := 14) 32 rfl rfl (fun c => ?_) (fun c => ?_)
      · have h := t15 c
        obtain ⟨v17, ev17⟩ : ∃ w : Int32, w = v4 + (1 : Int32) := ⟨_, rfl⟩
        have h := lt_e ev17 h
        refine g_iincv C tb_X11_steady_0_ok (i := 17) (1 : Int32) ev17 rfl rfl k_iconstv_1 rfl rfl ?_
        refine g_goto C tb_X11_steady_0_ok (i := 18) 7 rfl rfl ?_
        exact g_less (L' := [some (.ref a0), some (.int v17)]) ⟨rfl, ⟨rfl, trivial⟩⟩ (ih7 v17 M13 h)
      · have h := f16 c
        refine g_iload_n C tb_X11_steady_0_ok (i := 15) rfl rfl ?_
        cases h
        exact g_iret0 C R tb_X11_steady_0_ok (i := 16) rfl
def f_X8_deepest (y : Lay) (a0 : Nat) (M : Mem) : Option Int32 := lt ((-1) : Int32) fun (v1 : Int32) => fixN (fun _ _ => none) (fun (s4 : Int32 → Int32 → Option Int32) (v2 : Int32) (v3 : Int32) => gK y a0 (0, 8) (gN (y.2.1 a0 0) (gK y (y.2.1 a0 0) (0, 1) (cp (f_X1_cells y (y.2.1 a0 0) M) fun (r9 : Int32) => br (r9 ≤ v3) (some v2) (cp (f_X8_isPegged y a0 v3 M) fun (r12 : Int32) => jn (fun (v13 : Int32) => lt (v3 + (1 : Int32)) fun (v15 : Int32) => s4 v13 v15) fun j14 => br (r12 = 0) (jn (fun (_u : Unit) => j14 v3) fun j18 => br (v2 = ((-1) : Int32)) (j18 ()) (cp (f_X8_blueOf y a0 v3 M) fun (r21 : Int32) => cp (f_X8_blueOf y a0 v2 M) fun (r22 : Int32) => br (r21 ≤ r22) (j14 v2) (j18 ()))) (j14 v2)))))) FUEL v1 (0 : Int32)
theorem w_X8_deepest {g : GX} {l : Launch} (hG : GF g l) (y : Lay) (a0 : Nat) (M : Mem) : C0 g l yX8_deepest cX8_deepest 3 (some .int) 1 y [.ref a0] M (pm M (f_X8_deepest y a0 M)) := by
  refine CP_of hG (by decide) [some (.ref a0), none, none] rfl rfl (fun out h x Q C R => ?_)
  unfold f_X8_deepest at h
  refine g_iconstv C tb_X8_deepest_0_ok (i := 0) (-1) rfl k_iconstv_m1 ?_
  refine g_topi (fun v1 ev1 => ?_)
  have h := lt_e ev1 h
  refine g_istore_n C tb_X8_deepest_0_ok (i := 1) rfl rfl rfl ?_
  refine g_iconstv C tb_X8_deepest_0_ok (i := 2) 0 rfl k_iconstv_0 ?_
  refine g_istore_n C tb_X8_deepest_0_ok (i := 3) rfl rfl rfl ?_
  refine g_less (L' := [some (.ref a0), some (.int v1), some (.int (0 : Int32))]) ⟨rfl, ⟨rfl, ⟨rfl, trivial⟩⟩⟩ ?_
  refine fix_i (P := fun (f : Int32 → Int32 → Option Int32) => ∀ (v2 : Int32) (v3 : Int32), f v2 v3 = some out → GG g x 3 Q 0 0 y M 4 [some (.ref a0), some (.int v2), some (.int v3)] []) ?_ ?_ _ v1 (0 : Int32) h
  · intro v2 v3 h; exact (nn_e h).elim
  · intro s4 ih5 v2 v3 h
    refine g_iload_n C tb_X8_deepest_0_ok (i := 4) rfl rfl ?_
    refine g_aload_n C tb_X8_deepest_0_ok (i := 5) rfl rfl ?_
    obtain ⟨k6, h⟩ := gK_e h
    obtain ⟨n7, h⟩ := gN_e h
    refine g_getR C tb_X8_deepest_0_ok (i := 6) rfl fl_X8_32 rfl k6 n7 ?_
    obtain ⟨k8, h⟩ := gK_e h
    obtain ⟨r9, er9, h⟩ := cp_e h
    refine g_callV0 C tb_X8_deepest_0_ok (i := 7) [] rfl mw_X1_cells mv_X1_cells ml_X8_147 k8 rfl rfl rfl rfl (w_X1_cells C.G y (y.2.1 a0 0) M) (pm_s er9) rfl rfl rfl ?_
    obtain ⟨t10, f11⟩ := br_e h
    refine g_icmp_ge C tb_X8_deepest_0_ok (i := 8) 49 rfl rfl (fun c => ?_) (fun c => ?_)
    · have h := t10 c
      refine g_iload_n C tb_X8_deepest_0_ok (i := 27) rfl rfl ?_
      cases h
      exact g_iret0 C R tb_X8_deepest_0_ok (i := 28) rfl
    · have h := f11 c
      refine g_aload_n C tb_X8_deepest_0_ok (i := 9) rfl rfl ?_
      refine g_iload_n C tb_X8_deepest_0_ok (i := 10) rfl rfl ?_
      obtain ⟨r12, er12, h⟩ := cp_e h
      refine g_callV0 C tb_X8_deepest_0_ok (i := 11) [.int v3] rfl mw_X8_isPegged mv_X8_isPegged ml_X8_70 k6 rfl rfl rfl rfl (w_X8_isPegged C.G y a0 v3 M) (pm_s er12) rfl rfl rfl ?_
      obtain ⟨j14, ej14, h⟩ := jn_e h
      have J43 : ∀ (v13 : Int32), j14 v13 = some out → GG g x 3 Q 0 0 y M 43 [some (.ref a0), some (.int v13), some (.int v3)] [] := by
        intro v13 h; subst ej14
        obtain ⟨v15, ev15⟩ : ∃ w : Int32, w = v3 + (1 : Int32) := ⟨_, rfl⟩
        have h := lt_e ev15 h
        refine g_iincv C tb_X8_deepest_0_ok (i := 25) (1 : Int32) ev15 rfl rfl k_iconstv_1 rfl rfl ?_
        refine g_goto C tb_X8_deepest_0_ok (i := 26) 4 rfl rfl ?_
        exact g_less (L' := [some (.ref a0), some (.int v13), some (.int v15)]) ⟨rfl, ⟨rfl, ⟨rfl, trivial⟩⟩⟩ (ih5 v13 v15 h)
      obtain ⟨t16, f17⟩ := br_e h
      refine g_if_ne C tb_X8_deepest_0_ok (i := 12) 43 rfl rfl (fun c => ?_) (fun c => ?_)
      · have h := f17 c
        exact g_less (L' := [some (.ref a0), some (.int v2), some (.int v3)]) ⟨rfl, ⟨rfl, ⟨rfl, trivial⟩⟩⟩ (J43 v2 h)
      · have h := t16 c
        refine g_iload_n C tb_X8_deepest_0_ok (i := 13) rfl rfl ?_
        refine g_iconstv C tb_X8_deepest_0_ok (i := 14) (-1) rfl k_iconstv_m1 ?_
        obtain ⟨j18, ej18, h⟩ := jn_e h
        have J41 : ∀ (_u : Unit), j18 _u = some out → GG g x 3 Q 0 0 y M 41 [some (.ref a0), none, some (.int v3)] [] := by
          intro _u h; subst ej18
          refine g_iload_n C tb_X8_deepest_0_ok (i := 23) rfl rfl ?_
          refine g_istore_n C tb_X8_deepest_0_ok (i := 24) rfl rfl rfl ?_
          exact g_less (L' := [some (.ref a0), some (.int v3), some (.int v3)]) ⟨rfl, ⟨rfl, ⟨rfl, trivial⟩⟩⟩ (J43 v3 h)
        obtain ⟨t19, f20⟩ := br_e h
        refine g_icmp_eq C tb_X8_deepest_0_ok (i := 15) 41 rfl rfl (fun c => ?_) (fun c => ?_)
        · have h := t19 c
          exact g_less (L' := [some (.ref a0), none, some (.int v3)]) ⟨rfl, ⟨rfl, trivial⟩⟩ (J41 () h)
        · have h := f20 c
          refine g_aload_n C tb_X8_deepest_0_ok (i := 16) rfl rfl ?_
          refine g_iload_n C tb_X8_deepest_0_ok (i := 17) rfl rfl ?_
          obtain ⟨r21, er21, h⟩ := cp_e h
          refine g_callV0 C tb_X8_deepest_0_ok (i := 18) [.int v3] rfl mw_X8_blueOf mv_X8_blueOf ml_X8_118 k6 rfl rfl rfl rfl (w_X8_blueOf C.G y a0 v3 M) (pm_s er21) rfl rfl rfl ?_
          refine g_aload_n C tb_X8_deepest_0_ok (i := 19) rfl rfl ?_
          refine g_iload_n C tb_X8_deepest_0_ok (i := 20) rfl rfl ?_
          obtain ⟨r22, er22, h⟩ := cp_e h
          refine g_callV0 C tb_X8_deepest_0_ok (i := 21) [.int v2] rfl mw_X8_blueOf mv_X8_blueOf ml_X8_118 k6 rfl rfl rfl rfl (w_X8_blueOf C.G y a0 v2 M) (pm_s er22) rfl rfl rfl ?_
          obtain ⟨t23, f24⟩ := br_e h
          refine g_icmp_le C tb_X8_deepest_0_ok (i := 22) 43 rfl rfl (fun c => ?_) (fun c => ?_)
          · have h := t23 c
            exact g_less (L' := [some (.ref a0), some (.int v2), some (.int v3)]) ⟨rfl, ⟨rfl, ⟨rfl, trivial⟩⟩⟩ (J43 v2 h)
          · have h := f24 c
            exact g_less (L' := [some (.ref a0), none, some (.int v3)]) ⟨rfl, ⟨rfl, trivial⟩⟩ (J41 () h)
def f_X8_palest (y : Lay) (a0 : Nat) (M : Mem) : Option Int32 := lt ((-1) : Int32) fun (v1 : Int32) => fixN (fun _ _ => none) (fun (s4 : Int32 → Int32 → Option Int32) (v2 : Int32) (v3 : Int32) => gK y a0 (0, 8) (gN (y.2.1 a0 0) (gK y (y.2.1 a0 0) (0, 1) (cp (f_X1_cells y (y.2.1 a0 0) M) fun (r9 : Int32) => br (r9 ≤ v3) (some v2) (cp (f_X8_isPegged y a0 v3 M) fun (r12 : Int32) => jn (fun (v13 : Int32) => lt (v3 + (1 : Int32)) fun (v15 : Int32) => s4 v13 v15) fun j14 => br (r12 = 0) (jn (fun (_u : Unit) => j14 v3) fun j18 => br (v2 = ((-1) : Int32)) (j18 ()) (cp (f_X8_blueOf y a0 v3 M) fun (r21 : Int32) => cp (f_X8_blueOf y a0 v2 M) fun (r22 : Int32) => br (r22 ≤ r21) (j14 v2) (j18 ()))) (j14 v2)))))) FUEL v1 (0 : Int32)
theorem w_X8_palest {g : GX} {l : Launch} (hG : GF g l) (y : Lay) (a0 : Nat) (M : Mem) : C0 g l yX8_palest cX8_palest 3 (some .int) 1 y [.ref a0] M (pm M (f_X8_palest y a0 M)) := by
  refine CP_of hG (by decide) [some (.ref a0), none, none] rfl rfl (fun out h x Q C R => ?_)
  unfold f_X8_palest at h
  refine g_iconstv C tb_X8_palest_0_ok (i := 0) (-1) rfl k_iconstv_m1 ?_
  refine g_topi (fun v1 ev1 => ?_)
  have h := lt_e ev1 h
  refine g_istore_n C tb_X8_palest_0_ok (i := 1) rfl rfl rfl ?_
  refine g_iconstv C tb_X8_palest_0_ok (i := 2) 0 rfl k_iconstv_0 ?_
  refine g_istore_n C tb_X8_palest_0_ok (i := 3) rfl rfl rfl ?_
  refine g_less (L' := [some (.ref a0), some (.int v1), some (.int (0 : Int32))]) ⟨rfl, ⟨rfl, ⟨rfl, trivial⟩⟩⟩ ?_
  refine fix_i (P := fun (f : Int32 → Int32 → Option Int32) => ∀ (v2 : Int32) (v3 : Int32), f v2 v3 = some out → GG g x 3 Q 0 0 y M 4 [some (.ref a0), some (.int v2), some (.int v3)] []) ?_ ?_ _ v1 (0 : Int32) h
  · intro v2 v3 h; exact (nn_e h).elim
  · intro s4 ih5 v2 v3 h
    refine g_iload_n C tb_X8_palest_0_ok (i := 4) rfl rfl ?_
    refine g_aload_n C tb_X8_palest_0_ok (i := 5) rfl rfl ?_
    obtain ⟨k6, h⟩ := gK_e h
    obtain ⟨n7, h⟩ := gN_e h
    refine g_getR C tb_X8_palest_0_ok (i := 6) rfl fl_X8_32 rfl k6 n7 ?_
    obtain ⟨k8, h⟩ := gK_e h
    obtain ⟨r9, er9, h⟩ := cp_e h
    refine g_callV0 C tb_X8_palest_0_ok (i := 7) [] rfl mw_X1_cells mv_X1_cells ml_X8_147 k8 rfl rfl rfl rfl (w_X1_cells C.G y (y.2.1 a0 0) M) (pm_s er9) rfl rfl rfl ?_
    obtain ⟨t10, f11⟩ := br_e h
    refine g_icmp_ge C tb_X8_palest_0_ok (i := 8) 49 rfl rfl (fun c => ?_) (fun c => ?_)
    · have h := t10 c
      refine g_iload_n C tb_X8_palest_0_ok (i := 27) rfl rfl ?_
      cases h
      exact g_iret0 C R tb_X8_palest_0_ok (i := 28) rfl
    · have h := f11 c
      refine g_aload_n C tb_X8_palest_0_ok (i := 9) rfl rfl ?_
      refine g_iload_n C tb_X8_palest_0_ok (i := 10) rfl rfl ?_
      obtain ⟨r12, er12, h⟩ := cp_e h
      refine g_callV0 C tb_X8_palest_0_ok (i := 11) [.int v3] rfl mw_X8_isPegged mv_X8_isPegged ml_X8_70 k6 rfl rfl rfl rfl (w_X8_isPegged C.G y a0 v3 M) (pm_s er12) rfl rfl rfl ?_
      obtain ⟨j14, ej14, h⟩ := jn_e h
      have J43 : ∀ (v13 : Int32), j14 v13 = some out → GG g x 3 Q 0 0 y M 43 [some (.ref a0), some (.int v13), some (.int v3)] [] := by
        intro v13 h; subst ej14
        obtain ⟨v15, ev15⟩ : ∃ w : Int32, w = v3 + (1 : Int32) := ⟨_, rfl⟩
        have h := lt_e ev15 h
        refine g_iincv C tb_X8_palest_0_ok (i := 25) (1 : Int32) ev15 rfl rfl k_iconstv_1 rfl rfl ?_
        refine g_goto C tb_X8_palest_0_ok (i := 26) 4 rfl rfl ?_
        exact g_less (L' := [some (.ref a0), some (.int v13), some (.int v15)]) ⟨rfl, ⟨rfl, ⟨rfl, trivial⟩⟩⟩ (ih5 v13 v15 h)
      obtain ⟨t16, f17⟩ := br_e h
      refine g_if_ne C tb_X8_palest_0_ok (i := 12) 43 rfl rfl (fun c => ?_) (fun c => ?_)
      · have h := f17 c
        exact g_less (L' := [some (.ref a0), some (.int v2), some (.int v3)]) ⟨rfl, ⟨rfl, ⟨rfl, trivial⟩⟩⟩ (J43 v2 h)
      · have h := t16 c
        refine g_iload_n C tb_X8_palest_0_ok (i := 13) rfl rfl ?_
        refine g_iconstv C tb_X8_palest_0_ok (i := 14) (-1) rfl k_iconstv_m1 ?_
        obtain ⟨j18, ej18, h⟩ := jn_e h
        have J41 : ∀ (_u : Unit), j18 _u = some out → GG g x 3 Q 0 0 y M 41 [some (.ref a0), none, some (.int v3)] [] := by
          intro _u h; subst ej18
          refine g_iload_n C tb_X8_palest_0_ok (i := 23) rfl rfl ?_
          refine g_istore_n C tb_X8_palest_0_ok (i := 24) rfl rfl rfl ?_
          exact g_less (L' := [some (.ref a0), some (.int v3), some (.int v3)]) ⟨rfl, ⟨rfl, ⟨rfl, trivial⟩⟩⟩ (J43 v3 h)
        obtain ⟨t19, f20⟩ := br_e h
        refine g_icmp_eq C tb_X8_palest_0_ok (i := 15) 41 rfl rfl (fun c => ?_) (fun c => ?_)
        · have h := t19 c
          exact g_less (L' := [some (.ref a0), none, some (.int v3)]) ⟨rfl, ⟨rfl, trivial⟩⟩ (J41 () h)
        · have h := f20 c
          refine g_aload_n C tb_X8_palest_0_ok (i := 16) rfl rfl ?_
          refine g_iload_n C tb_X8_palest_0_ok (i := 17) rfl rfl ?_
          obtain ⟨r21, er21, h⟩ := cp_e h
          refine g_callV0 C tb_X8_palest_0_ok (i := 18) [.int v3] rfl mw_X8_blueOf mv_X8_blueOf ml_X8_118 k6 rfl rfl rfl rfl (w_X8_blueOf C.G y a0 v3 M) (pm_s er21) rfl rfl rfl ?_
          refine g_aload_n C tb_X8_palest_0_ok (i := 19) rfl rfl ?_
          refine g_iload_n C tb_X8_palest_0_ok (i := 20) rfl rfl ?_
          obtain ⟨r22, er22, h⟩ := cp_e h
          refine g_callV0 C tb_X8_palest_0_ok (i := 21) [.int v2] rfl mw_X8_blueOf mv_X8_blueOf ml_X8_118 k6 rfl rfl rfl rfl (w_X8_blueOf C.G y a0 v2 M) (pm_s er22) rfl rfl rfl ?_
          obtain ⟨t23, f24⟩ := br_e h
          refine g_icmp_ge C tb_X8_palest_0_ok (i := 22) 43 rfl rfl (fun c => ?_) (fun c => ?_)
          · have h := t23 c
            exact g_less (L' := [some (.ref a0), some (.int v2), some (.int v3)]) ⟨rfl, ⟨rfl, ⟨rfl, trivial⟩⟩⟩ (J43 v2 h)
          · have h := f24 c
            exact g_less (L' := [some (.ref a0), none, some (.int v3)]) ⟨rfl, ⟨rfl, trivial⟩⟩ (J41 () h)
def f_X8_uneven (y : Lay) (a0 : Nat) (M : Mem) : Option Int32 := gK y a0 (0, 8) (cp (f_X8_deepest y a0 M) fun (r2 : Int32) => jn (fun (v3 : Int32) => some v3) fun j4 => br (r2 = ((-1) : Int32)) (j4 ((-1) : Int32)) (cp (f_X8_blueOf y a0 r2 M) fun (r7 : Int32) => cp (f_X8_palest y a0 M) fun (r8 : Int32) => cp (f_X8_blueOf y a0 r8 M) fun (r9 : Int32) => j4 (r7 - r9)))
theorem w_X8_uneven {g : GX} {l : Launch} (hG : GF g l) (y : Lay) (a0 : Nat) (M : Mem) : C0 g l yX8_uneven cX8_uneven 2 (some .int) 2 y [.ref a0] M (pm M (f_X8_uneven y a0 M)) := by
  refine CP_of hG (by decide) [some (.ref a0), none] rfl rfl (fun out h x Q C R => ?_)
  unfold f_X8_uneven at h
  refine g_aload_n C tb_X8_uneven_0_ok (i := 0) rfl rfl ?_
  obtain ⟨k1, h⟩ := gK_e h
  obtain ⟨r2, er2, h⟩ := cp_e h
  refine g_callV0 C tb_X8_uneven_0_ok (i := 1) [] rfl mw_X8_deepest mv_X8_deepest ml_X8_163 k1 rfl rfl rfl rfl (w_X8_deepest C.G y a0 M) (pm_s er2) rfl rfl rfl ?_
  refine g_istore_n C tb_X8_uneven_0_ok (i := 2) rfl rfl rfl ?_
  refine g_iload_n C tb_X8_uneven_0_ok (i := 3) rfl rfl ?_
  refine g_iconstv C tb_X8_uneven_0_ok (i := 4) (-1) rfl k_iconstv_m1 ?_
  obtain ⟨j4, ej4, h⟩ := jn_e h
  have J28 : ∀ (v3 : Int32), j4 v3 = some out → GG g x 2 Q 0 0 y M 28 [none, none] [.int v3] := by
    intro v3 h; subst ej4
    cases h
    exact g_iret0 C R tb_X8_uneven_0_ok (i := 16) rfl
  obtain ⟨t5, f6⟩ := br_e h
  refine g_icmp_ne C tb_X8_uneven_0_ok (i := 5) 14 rfl rfl (fun c => ?_) (fun c => ?_)
  · have h := f6 c
    refine g_aload_n C tb_X8_uneven_0_ok (i := 8) rfl rfl ?_
    refine g_iload_n C tb_X8_uneven_0_ok (i := 9) rfl rfl ?_
    obtain ⟨r7, er7, h⟩ := cp_e h
    refine g_callV0 C tb_X8_uneven_0_ok (i := 10) [.int r2] rfl mw_X8_blueOf mv_X8_blueOf ml_X8_118 k1 rfl rfl rfl rfl (w_X8_blueOf C.G y a0 r2 M) (pm_s er7) rfl rfl rfl ?_
    refine g_aload_n C tb_X8_uneven_0_ok (i := 11) rfl rfl ?_
    refine g_aload_n C tb_X8_uneven_0_ok (i := 12) rfl rfl ?_
    obtain ⟨r8, er8, h⟩ := cp_e h
    refine g_callV0 C tb_X8_uneven_0_ok (i := 13) [] rfl mw_X8_palest mv_X8_palest ml_X8_166 k1 rfl rfl rfl rfl (w_X8_palest C.G y a0 M) (pm_s er8) rfl rfl rfl ?_
    obtain ⟨r9, er9, h⟩ := cp_e h
    refine g_callV0 C tb_X8_uneven_0_ok (i := 14) [.int r8] rfl mw_X8_blueOf mv_X8_blueOf ml_X8_118 k1 rfl rfl rfl rfl (w_X8_blueOf C.G y a0 r8 M) (pm_s er9) rfl rfl rfl ?_
    refine g_isub C tb_X8_uneven_0_ok (i := 15) rfl ?_
    exact g_less (L' := [none, none]) trivial (J28 (r7 - r9) h)
  · have h := t5 c
    refine g_iconstv C tb_X8_uneven_0_ok (i := 6) (-1) rfl k_iconstv_m1 ?_
    refine g_goto C tb_X8_uneven_0_ok (i := 7) 28 rfl rfl ?_
    exact g_less (L' := [none, none]) trivial (J28 ((-1) : Int32) h)
def f_X8_setResting (y : Lay) (a0 : Nat) (a1 : Int32) (a2 : Int32) (M : Mem) : Option (Int32 × Mem) := jn (fun (v1 : Int32) => gK y a0 (0, 8) (lt (wI M a0 8 v1) fun (M4 : Mem) => some (0, M4))) fun j2 => br (a2 = 0) (gK y a0 (0, 8) (j2 ((M.1 a0 8) &&& (((1 : Int32) <<< (a1 &&& 31)) ^^^ ((-1) : Int32))))) (gK y a0 (0, 8) (j2 ((M.1 a0 8) ||| ((1 : Int32) <<< (a1 &&& 31)))))
theorem w_X8_setResting {g : GX} {l : Launch} (hG : GF g l) (y : Lay) (a0 : Nat) (a1 : Int32) (a2 : Int32) (M : Mem) : C0 g l yX8_setResting cX8_setResting 3 none 0 y [.ref a0, .int a1, .int a2] M (f_X8_setResting y a0 a1 a2 M) := by
  refine C0_of hG (by decide) [some (.ref a0), some (.int a1), some (.int a2)] rfl rfl (fun out h x Q C R => ?_)
  unfold f_X8_setResting at h
  refine g_aload_n C tb_X8_setResting_0_ok (i := 0) rfl rfl ?_
  refine g_iload_n C tb_X8_setResting_0_ok (i := 1) rfl rfl ?_
  obtain ⟨j2, ej2, h⟩ := jn_e h
  have J26 : ∀ (v1 : Int32), j2 v1 = some out → GG g x 3 Q 0 0 y M 26 [none, none, none] [.int v1, .ref a0] := by
    intro v1 h; subst ej2
    obtain ⟨k3, h⟩ := gK_e h
    refine g_putI C tb_X8_setResting_0_ok (i := 18) rfl fl_X8_43 ft_8_8 rfl k3 ?_
    refine g_mem (fun M4 eM4 => ?_)
    have h := lt_e eM4 h
    cases h
    exact g_vret0 C R tb_X8_setResting_0_ok (i := 19) rfl
  obtain ⟨t5, f6⟩ := br_e h
  refine g_if_eq C tb_X8_setResting_0_ok (i := 2) 16 rfl rfl (fun c => ?_) (fun c => ?_)
  · have h := t5 c
    refine g_aload_n C tb_X8_setResting_0_ok (i := 10) rfl rfl ?_
    obtain ⟨k7, h⟩ := gK_e h
    refine g_getI C tb_X8_setResting_0_ok (i := 11) rfl fl_X8_43 rfl k7 ?_
    refine g_iconstv C tb_X8_setResting_0_ok (i := 12) 1 rfl k_iconstv_1 ?_
    refine g_iload_n C tb_X8_setResting_0_ok (i := 13) rfl rfl ?_
    refine g_ishl C tb_X8_setResting_0_ok (i := 14) rfl ?_
    refine g_iconstv C tb_X8_setResting_0_ok (i := 15) (-1) rfl k_iconstv_m1 ?_
    refine g_ixor C tb_X8_setResting_0_ok (i := 16) rfl ?_
    refine g_iand C tb_X8_setResting_0_ok (i := 17) rfl ?_
    exact g_less (L' := [none, none, none]) trivial (J26 ((M.1 a0 8) &&& (((1 : Int32) <<< (a1 &&& 31)) ^^^ ((-1) : Int32))) h)
  · have h := f6 c
    refine g_aload_n C tb_X8_setResting_0_ok (i := 3) rfl rfl ?_
    obtain ⟨k8, h⟩ := gK_e h
    refine g_getI C tb_X8_setResting_0_ok (i := 4) rfl fl_X8_43 rfl k8 ?_
    refine g_iconstv C tb_X8_setResting_0_ok (i := 5) 1 rfl k_iconstv_1 ?_
    refine g_iload_n C tb_X8_setResting_0_ok (i := 6) rfl rfl ?_
    refine g_ishl C tb_X8_setResting_0_ok (i := 7) rfl ?_
    refine g_ior C tb_X8_setResting_0_ok (i := 8) rfl ?_
    refine g_goto C tb_X8_setResting_0_ok (i := 9) 26 rfl rfl ?_
    exact g_less (L' := [none, none, none]) trivial (J26 ((M.1 a0 8) ||| ((1 : Int32) <<< (a1 &&& 31))) h)
def f_X11_lookAheadIfResting (y : Lay) (a0 : Nat) (a1 : Int32) (a2 : Int32) (M : Mem) : Option (Int32 × Mem) := gK y a0 (0, 11) (gN (y.2.1 a0 5) (gN (y.2.1 a0 3) (gK y (y.2.1 a0 3) (0, 4) (gN (y.2.1 (y.2.1 a0 3) 0) (gK y (y.2.1 a0 5) (0, 8) (c0 (f_X8_copyFrom y (y.2.1 a0 5) (y.2.1 (y.2.1 a0 3) 0) M) fun (r7 : Int32) (M8 : Mem) => c0 (f_X8_setResting y (y.2.1 a0 5) a1 a2 M8) fun (r9 : Int32) (M10 : Mem) => c0 (f_X8_passDay y (y.2.1 a0 5) M10) fun (r11 : Int32) (M12 : Mem) => some (0, M12)))))))
theorem w_X11_lookAheadIfResting {g : GX} {l : Launch} (hG : GF g l) (y : Lay) (a0 : Nat) (a1 : Int32) (a2 : Int32) (M : Mem) : C0 g l yX11_lookAheadIfResting cX11_lookAheadIfResting 3 none 5 y [.ref a0, .int a1, .int a2] M (f_X11_lookAheadIfResting y a0 a1 a2 M) := by
  refine C0_of hG (by decide) [some (.ref a0), some (.int a1), some (.int a2)] rfl rfl (fun out h x Q C R => ?_)
  unfold f_X11_lookAheadIfResting at h
  refine g_aload_n C tb_X11_lookAheadIfResting_0_ok (i := 0) rfl rfl ?_
  obtain ⟨k1, h⟩ := gK_e h
  obtain ⟨n2, h⟩ := gN_e h
  refine g_getR C tb_X11_lookAheadIfResting_0_ok (i := 1) rfl fl_X11_47 rfl k1 n2 ?_
  refine g_aload_n C tb_X11_lookAheadIfResting_0_ok (i := 2) rfl rfl ?_
  obtain ⟨n3, h⟩ := gN_e h
  refine g_getR C tb_X11_lookAheadIfResting_0_ok (i := 3) rfl fl_X11_37 rfl k1 n3 ?_
  obtain ⟨k4, h⟩ := gK_e h
  obtain ⟨n5, h⟩ := gN_e h
  refine g_getR C tb_X11_lookAheadIfResting_0_ok (i := 4) rfl fl_X11_53 rfl k4 n5 ?_
  obtain ⟨k6, h⟩ := gK_e h
  obtain ⟨r7, M8, er7, h⟩ := c0_e h
  refine g_callV0 C tb_X11_lookAheadIfResting_0_ok (i := 5) [.ref (y.2.1 (y.2.1 a0 3) 0)] rfl mw_X8_copyFrom mv_X8_copyFrom ml_X11_343 k6 rfl rfl rfl rfl (w_X8_copyFrom C.G y (y.2.1 a0 5) (y.2.1 (y.2.1 a0 3) 0) M) er7 rfl rfl rfl ?_
  refine g_aload_n C tb_X11_lookAheadIfResting_0_ok (i := 6) rfl rfl ?_
  refine g_getR C tb_X11_lookAheadIfResting_0_ok (i := 7) rfl fl_X11_47 rfl k1 n2 ?_
  refine g_iload_n C tb_X11_lookAheadIfResting_0_ok (i := 8) rfl rfl ?_
  refine g_iload_n C tb_X11_lookAheadIfResting_0_ok (i := 9) rfl rfl ?_
  obtain ⟨r9, M10, er9, h⟩ := c0_e h
  refine g_callV0 C tb_X11_lookAheadIfResting_0_ok (i := 10) [.int a1, .int a2] rfl mw_X8_setResting mv_X8_setResting ml_X11_227 k6 rfl rfl rfl rfl (w_X8_setResting C.G y (y.2.1 a0 5) a1 a2 M8) er9 rfl rfl rfl ?_
  refine g_aload_n C tb_X11_lookAheadIfResting_0_ok (i := 11) rfl rfl ?_
  refine g_getR C tb_X11_lookAheadIfResting_0_ok (i := 12) rfl fl_X11_47 rfl k1 n2 ?_
  obtain ⟨r11, M12, er11, h⟩ := c0_e h
  refine g_callV0 C tb_X11_lookAheadIfResting_0_ok (i := 13) [] rfl mw_X8_passDay mv_X8_passDay ml_X11_221 k6 rfl rfl rfl rfl (w_X8_passDay C.G y (y.2.1 a0 5) M10) er11 rfl rfl rfl ?_
  cases h
  exact g_vret0 C R tb_X11_lookAheadIfResting_0_ok (i := 14) rfl
def f_X11_toRest (y : Lay) (a0 : Nat) (M : Mem) : Option (Int32 × Mem) := gK y a0 (0, 11) (c0 (f_X11_lookAhead y a0 (1 : Int32) M) fun (r2 : Int32) (M3 : Mem) => lt ((-1) : Int32) fun (v4 : Int32) => gN (y.2.1 a0 5) (gK y (y.2.1 a0 5) (0, 8) (cp (f_X8_uneven y (y.2.1 a0 5) M3) fun (r7 : Int32) => fixN (fun _ _ _ _ => none) (fun (s12 : Int32 → Int32 → Int32 → Mem → Option (Int32 × Mem)) (v8 : Int32) (v9 : Int32) (v10 : Int32) (M11 : Mem) => gN (y.2.1 a0 1) (gK y (y.2.1 a0 1) (0, 1) (br ((M11.1 (y.2.1 a0 1) 4) ≤ v10) (some (v8, M11)) (gN (y.2.1 a0 3) (gK y (y.2.1 a0 3) (0, 4) (gN (y.2.1 (y.2.1 a0 3) 0) (gK y (y.2.1 (y.2.1 a0 3) 0) (0, 8) (cp (f_X8_isResting y (y.2.1 (y.2.1 a0 3) 0) v10 M11) fun (r22 : Int32) => jn (fun (v23 : Int32) (v24 : Int32) (M25 : Mem) => lt (v10 + (1 : Int32)) fun (v27 : Int32) => s12 v23 v24 v27 M25) fun j26 => br (r22 = 0) (c0 (f_X11_lookAheadIfResting y a0 v10 (1 : Int32) M11) fun (r30 : Int32) (M31 : Mem) => cp (f_X8_uneven y (y.2.1 a0 5) M31) fun (r32 : Int32) => br (v9 ≤ r32) (j26 v8 v9 M31) (j26 v10 r32 M31)) (j26 v8 v9 M11))))))))) FUEL v4 r7 (0 : Int32) M3)))
theorem w_X11_toRest {g : GX} {l : Launch} (hG : GF g l) (y : Lay) (a0 : Nat) (M : Mem) : C0 g l yX11_toRest cX11_toRest 5 (some .int) 6 y [.ref a0] M (f_X11_toRest y a0 M) := by
  refine C0_of hG (by decide) [some (.ref a0), none, none, none, none] rfl rfl (fun out h x Q C R => ?_)
  unfold f_X11_toRest at h
  refine g_aload_n C tb_X11_toRest_0_ok (i := 0) rfl rfl ?_
  refine g_iconstv C tb_X11_toRest_0_ok (i := 1) 1 rfl k_iconstv_1 ?_
  obtain ⟨k1, h⟩ := gK_e h
  obtain ⟨r2, M3, er2, h⟩ := c0_e h
  refine g_callV0 C tb_X11_toRest_0_ok (i := 2) [.int (1 : Int32)] rfl mw_X11_lookAhead mv_X11_lookAhead ml_X11_252 k1 rfl rfl rfl rfl (w_X11_lookAhead C.G y a0 (1 : Int32) M) er2 rfl rfl rfl ?_
  refine g_iconstv C tb_X11_toRest_0_ok (i := 3) (-1) rfl k_iconstv_m1 ?_
  refine g_topi (fun v4 ev4 => ?_)
  have h := lt_e ev4 h
  refine g_istore_n C tb_X11_toRest_0_ok (i := 4) rfl rfl rfl ?_
  refine g_aload_n C tb_X11_toRest_0_ok (i := 5) rfl rfl ?_
  obtain ⟨n5, h⟩ := gN_e h
  refine g_getR C tb_X11_toRest_0_ok (i := 6) rfl fl_X11_47 rfl k1 n5 ?_
  obtain ⟨k6, h⟩ := gK_e h
  obtain ⟨r7, er7, h⟩ := cp_e h
  refine g_callV0 C tb_X11_toRest_0_ok (i := 7) [] rfl mw_X8_uneven mv_X8_uneven ml_X11_258 k6 rfl rfl rfl rfl (w_X8_uneven C.G y (y.2.1 a0 5) M3) (pm_s er7) rfl rfl rfl ?_
  refine g_istore_n C tb_X11_toRest_0_ok (i := 8) rfl rfl rfl ?_
  refine g_iconstv C tb_X11_toRest_0_ok (i := 9) 0 rfl k_iconstv_0 ?_
  refine g_istore_n C tb_X11_toRest_0_ok (i := 10) rfl rfl rfl ?_
  refine g_less (L' := [some (.ref a0), some (.int v4), some (.int r7), some (.int (0 : Int32)), none]) ⟨rfl, ⟨rfl, ⟨rfl, ⟨rfl, trivial⟩⟩⟩⟩ ?_
  refine fix_i (P := fun (f : Int32 → Int32 → Int32 → Mem → Option (Int32 × Mem)) => ∀ (v8 : Int32) (v9 : Int32) (v10 : Int32) (M11 : Mem), f v8 v9 v10 M11 = some out → GG g x 5 Q 0 0 y M11 17 [some (.ref a0), some (.int v8), some (.int v9), some (.int v10), none] []) ?_ ?_ _ v4 r7 (0 : Int32) M3 h
  · intro v8 v9 v10 M11 h; exact (nn_e h).elim
  · intro s12 ih13 v8 v9 v10 M11 h
    refine g_iload_n C tb_X11_toRest_0_ok (i := 11) rfl rfl ?_
    refine g_aload_n C tb_X11_toRest_0_ok (i := 12) rfl rfl ?_
    obtain ⟨n14, h⟩ := gN_e h
    refine g_getR C tb_X11_toRest_0_ok (i := 13) rfl fl_X11_19 rfl k1 n14 ?_
    obtain ⟨k15, h⟩ := gK_e h
    refine g_getI C tb_X11_toRest_0_ok (i := 14) rfl fl_X11_134 rfl k15 ?_
    obtain ⟨t16, f17⟩ := br_e h
    refine g_icmp_ge C tb_X11_toRest_0_ok (i := 15) 74 rfl rfl (fun c => ?_) (fun c => ?_)
    · have h := t16 c
      refine g_iload_n C tb_X11_toRest_0_ok (i := 39) rfl rfl ?_
      cases h
      exact g_iret0 C R tb_X11_toRest_1_ok (i := 0) rfl
    · have h := f17 c
      refine g_aload_n C tb_X11_toRest_0_ok (i := 16) rfl rfl ?_
      obtain ⟨n18, h⟩ := gN_e h
      refine g_getR C tb_X11_toRest_0_ok (i := 17) rfl fl_X11_37 rfl k1 n18 ?_
      obtain ⟨k19, h⟩ := gK_e h
      obtain ⟨n20, h⟩ := gN_e h
      refine g_getR C tb_X11_toRest_0_ok (i := 18) rfl fl_X11_53 rfl k19 n20 ?_
      refine g_iload_n C tb_X11_toRest_0_ok (i := 19) rfl rfl ?_
      obtain ⟨k21, h⟩ := gK_e h
      obtain ⟨r22, er22, h⟩ := cp_e h
      refine g_callV0 C tb_X11_toRest_0_ok (i := 20) [.int v10] rfl mw_X8_isResting mv_X8_isResting ml_X11_224 k21 rfl rfl rfl rfl (w_X8_isResting C.G y (y.2.1 (y.2.1 a0 3) 0) v10 M11) (pm_s er22) rfl rfl rfl ?_
      obtain ⟨j26, ej26, h⟩ := jn_e h
      have J68 : ∀ (v23 : Int32) (v24 : Int32) (M25 : Mem), j26 v23 v24 M25 = some out → GG g x 5 Q 0 0 y M25 68 [some (.ref a0), some (.int v23), some (.int v24), some (.int v10), none] [] := by
        intro v23 v24 M25 h; subst ej26
        obtain ⟨v27, ev27⟩ : ∃ w : Int32, w = v10 + (1 : Int32) := ⟨_, rfl⟩
        have h := lt_e ev27 h
        refine g_iincv C tb_X11_toRest_0_ok (i := 37) (1 : Int32) ev27 rfl rfl k_iconstv_1 rfl rfl ?_
        refine g_goto C tb_X11_toRest_0_ok (i := 38) 17 rfl rfl ?_
        exact g_less (L' := [some (.ref a0), some (.int v23), some (.int v24), some (.int v27), none]) ⟨rfl, ⟨rfl, ⟨rfl, ⟨rfl, trivial⟩⟩⟩⟩ (ih13 v23 v24 v27 M25 h)
      obtain ⟨t28, f29⟩ := br_e h
      refine g_if_ne C tb_X11_toRest_0_ok (i := 21) 68 rfl rfl (fun c => ?_) (fun c => ?_)
      · have h := f29 c
        exact g_less (L' := [some (.ref a0), some (.int v8), some (.int v9), some (.int v10), none]) ⟨rfl, ⟨rfl, ⟨rfl, ⟨rfl, trivial⟩⟩⟩⟩ (J68 v8 v9 M11 h)
      · have h := t28 c
        refine g_aload_n C tb_X11_toRest_0_ok (i := 22) rfl rfl ?_
        refine g_iload_n C tb_X11_toRest_0_ok (i := 23) rfl rfl ?_
        refine g_iconstv C tb_X11_toRest_0_ok (i := 24) 1 rfl k_iconstv_1 ?_
        obtain ⟨r30, M31, er30, h⟩ := c0_e h
        refine g_callV0 C tb_X11_toRest_0_ok (i := 25) [.int v10, .int (1 : Int32)] rfl mw_X11_lookAheadIfResting mv_X11_lookAheadIfResting ml_X11_290 k1 rfl rfl rfl rfl (w_X11_lookAheadIfResting C.G y a0 v10 (1 : Int32) M11) er30 rfl rfl rfl ?_
        refine g_aload_n C tb_X11_toRest_0_ok (i := 26) rfl rfl ?_
        refine g_getR C tb_X11_toRest_0_ok (i := 27) rfl fl_X11_47 rfl k1 n5 ?_
        obtain ⟨r32, er32, h⟩ := cp_e h
        refine g_callV0 C tb_X11_toRest_0_ok (i := 28) [] rfl mw_X8_uneven mv_X8_uneven ml_X11_258 k6 rfl rfl rfl rfl (w_X8_uneven C.G y (y.2.1 a0 5) M31) (pm_s er32) rfl rfl rfl ?_
        refine g_istore C tb_X11_toRest_0_ok (i := 29) rfl rfl rfl ?_
        refine g_iload C tb_X11_toRest_0_ok (i := 30) rfl rfl ?_
        refine g_iload_n C tb_X11_toRest_0_ok (i := 31) rfl rfl ?_
        obtain ⟨t33, f34⟩ := br_e h
        refine g_icmp_ge C tb_X11_toRest_0_ok (i := 32) 68 rfl rfl (fun c => ?_) (fun c => ?_)
        · have h := t33 c
          exact g_less (L' := [some (.ref a0), some (.int v8), some (.int v9), some (.int v10), none]) ⟨rfl, ⟨rfl, ⟨rfl, ⟨rfl, trivial⟩⟩⟩⟩ (J68 v8 v9 M31 h)
        · have h := f34 c
          refine g_iload C tb_X11_toRest_0_ok (i := 33) rfl rfl ?_
          refine g_istore_n C tb_X11_toRest_0_ok (i := 34) rfl rfl rfl ?_
          refine g_iload_n C tb_X11_toRest_0_ok (i := 35) rfl rfl ?_
          refine g_istore_n C tb_X11_toRest_0_ok (i := 36) rfl rfl rfl ?_
          exact g_less (L' := [some (.ref a0), some (.int v10), some (.int r32), some (.int v10), none]) ⟨rfl, ⟨rfl, ⟨rfl, ⟨rfl, trivial⟩⟩⟩⟩ (J68 v10 r32 M31 h)
def f_X11_forget (y : Lay) (a0 : Nat) (M : Mem) : Option (Int32 × Mem) := gK y a0 (0, 11) (gN (y.2.1 a0 3) (gK y (y.2.1 a0 3) (0, 4) (lt (wI M (y.2.1 a0 3) 6 (0 : Int32)) fun (M4 : Mem) => some (0, M4))))
theorem w_X11_forget {g : GX} {l : Launch} (hG : GF g l) (y : Lay) (a0 : Nat) (M : Mem) : C0 g l yX11_forget cX11_forget 1 none 0 y [.ref a0] M (f_X11_forget y a0 M) := by
  refine C0_of hG (by decide) [some (.ref a0)] rfl rfl (fun out h x Q C R => ?_)
  unfold f_X11_forget at h
  refine g_aload_n C tb_X11_forget_0_ok (i := 0) rfl rfl ?_
  obtain ⟨k1, h⟩ := gK_e h
  obtain ⟨n2, h⟩ := gN_e h
  refine g_getR C tb_X11_forget_0_ok (i := 1) rfl fl_X11_37 rfl k1 n2 ?_
  refine g_iconstv C tb_X11_forget_0_ok (i := 2) 0 rfl k_iconstv_0 ?_
  obtain ⟨k3, h⟩ := gK_e h
  refine g_putI C tb_X11_forget_0_ok (i := 3) rfl fl_X11_170 ft_4_6 rfl k3 ?_
  refine g_mem (fun M4 eM4 => ?_)
  have h := lt_e eM4 h
  cases h
  exact g_vret0 C R tb_X11_forget_0_ok (i := 4) rfl
def f_X0_copyFrom (y : Lay) (a0 : Nat) (a1 : Nat) (M : Mem) : Option (Int32 × Mem) := gK y a1 (0, 0) (gN (y.2.1 a1 0) (gK y a0 (0, 0) (gN (y.2.1 a0 0) (gC y (y.2.1 a1 0) (y.2.1 a0 0) (0 : Int32) (0 : Int32) (1640 : Int32) (lt (cpI M (y.2.1 a1 0) (y.2.1 a0 0) (0 : Int32).toNatClampNeg (0 : Int32).toNatClampNeg (1640 : Int32).toNatClampNeg) fun (M6 : Mem) => lt (wI M6 a0 1 (M6.1 a1 1)) fun (M7 : Mem) => some (0, M7))))))
theorem w_X0_copyFrom {g : GX} {l : Launch} (hG : GF g l) (y : Lay) (a0 : Nat) (a1 : Nat) (M : Mem) : C0 g l yX0_copyFrom cX0_copyFrom 2 none 0 y [.ref a0, .ref a1] M (f_X0_copyFrom y a0 a1 M) := by
  refine C0_of hG (by decide) [some (.ref a0), some (.ref a1)] rfl rfl (fun out h x Q C R => ?_)
  unfold f_X0_copyFrom at h
  refine g_aload_n C tb_X0_copyFrom_0_ok (i := 0) rfl rfl ?_
  obtain ⟨k1, h⟩ := gK_e h
  obtain ⟨n2, h⟩ := gN_e h
  refine g_getR C tb_X0_copyFrom_0_ok (i := 1) rfl fl_X0_11 rfl k1 n2 ?_
  refine g_iconstv C tb_X0_copyFrom_0_ok (i := 2) 0 rfl k_iconstv_0 ?_
  refine g_aload_n C tb_X0_copyFrom_0_ok (i := 3) rfl rfl ?_
  obtain ⟨k3, h⟩ := gK_e h
  obtain ⟨n4, h⟩ := gN_e h
  refine g_getR C tb_X0_copyFrom_0_ok (i := 4) rfl fl_X0_11 rfl k3 n4 ?_
  refine g_iconstv C tb_X0_copyFrom_0_ok (i := 5) 0 rfl k_iconstv_0 ?_
  refine g_sipushv C tb_X0_copyFrom_0_ok (i := 6) 1640 rfl k_sipushv_1640 ?_
  obtain ⟨b5, h⟩ := gC_e h
  refine g_copy C tb_X0_copyFrom_0_ok (i := 7) rfl mt_X0_21 rfl b5 ?_
  refine g_mem (fun M6 eM6 => ?_)
  have h := lt_e eM6 h
  refine g_aload_n C tb_X0_copyFrom_0_ok (i := 8) rfl rfl ?_
  refine g_aload_n C tb_X0_copyFrom_0_ok (i := 9) rfl rfl ?_
  refine g_getI C tb_X0_copyFrom_0_ok (i := 10) rfl fl_X0_17 rfl k1 ?_
  refine g_putI C tb_X0_copyFrom_0_ok (i := 11) rfl fl_X0_17 ft_0_1 rfl k3 ?_
  refine g_mem (fun M7 eM7 => ?_)
  have h := lt_e eM7 h
  cases h
  exact g_vret0 C R tb_X0_copyFrom_0_ok (i := 12) rfl
def f_X4_copyFrom (y : Lay) (a0 : Nat) (a1 : Nat) (M : Mem) : Option (Int32 × Mem) := gK y a0 (0, 4) (gN (y.2.1 a0 0) (gK y a1 (0, 4) (gN (y.2.1 a1 0) (gK y (y.2.1 a0 0) (0, 8) (c0 (f_X8_copyFrom y (y.2.1 a0 0) (y.2.1 a1 0) M) fun (r6 : Int32) (M7 : Mem) => gN (y.2.1 a0 1) (gN (y.2.1 a1 1) (gK y (y.2.1 a0 1) (0, 0) (c0 (f_X0_copyFrom y (y.2.1 a0 1) (y.2.1 a1 1) M7) fun (r11 : Int32) (M12 : Mem) => gN (y.2.1 a1 2) (gN (y.2.1 a0 2) (gC y (y.2.1 a1 2) (y.2.1 a0 2) (0 : Int32) (0 : Int32) (8 : Int32) (lt (cpI M12 (y.2.1 a1 2) (y.2.1 a0 2) (0 : Int32).toNatClampNeg (0 : Int32).toNatClampNeg (8 : Int32).toNatClampNeg) fun (M16 : Mem) => gN (y.2.1 a1 3) (gN (y.2.1 a0 3) (gC y (y.2.1 a1 3) (y.2.1 a0 3) (0 : Int32) (0 : Int32) (8 : Int32) (lt (cpI M16 (y.2.1 a1 3) (y.2.1 a0 3) (0 : Int32).toNatClampNeg (0 : Int32).toNatClampNeg (8 : Int32).toNatClampNeg) fun (M20 : Mem) => gN (y.2.1 a1 4) (gN (y.2.1 a0 4) (gC y (y.2.1 a1 4) (y.2.1 a0 4) (0 : Int32) (0 : Int32) (8 : Int32) (lt (cpI M20 (y.2.1 a1 4) (y.2.1 a0 4) (0 : Int32).toNatClampNeg (0 : Int32).toNatClampNeg (8 : Int32).toNatClampNeg) fun (M24 : Mem) => gN (y.2.1 a1 5) (gN (y.2.1 a0 5) (gC y (y.2.1 a1 5) (y.2.1 a0 5) (0 : Int32) (0 : Int32) (3 : Int32) (lt (cpI M24 (y.2.1 a1 5) (y.2.1 a0 5) (0 : Int32).toNatClampNeg (0 : Int32).toNatClampNeg (3 : Int32).toNatClampNeg) fun (M28 : Mem) => lt (wI M28 a0 6 (M28.1 a1 6)) fun (M29 : Mem) => some (0, M29)))))))))))))))))))))
theorem w_X4_copyFrom {g : GX} {l : Launch} (hG : GF g l) (y : Lay) (a0 : Nat) (a1 : Nat) (M : Mem) : C0 g l yX4_copyFrom cX4_copyFrom 2 none 1 y [.ref a0, .ref a1] M (f_X4_copyFrom y a0 a1 M) := by
  refine C0_of hG (by decide) [some (.ref a0), some (.ref a1)] rfl rfl (fun out h x Q C R => ?_)
  unfold f_X4_copyFrom at h
  refine g_aload_n C tb_X4_copyFrom_0_ok (i := 0) rfl rfl ?_
  obtain ⟨k1, h⟩ := gK_e h
  obtain ⟨n2, h⟩ := gN_e h
  refine g_getR C tb_X4_copyFrom_0_ok (i := 1) rfl fl_X4_36 rfl k1 n2 ?_
  refine g_aload_n C tb_X4_copyFrom_0_ok (i := 2) rfl rfl ?_
  obtain ⟨k3, h⟩ := gK_e h
  obtain ⟨n4, h⟩ := gN_e h
  refine g_getR C tb_X4_copyFrom_0_ok (i := 3) rfl fl_X4_36 rfl k3 n4 ?_
  obtain ⟨k5, h⟩ := gK_e h
  obtain ⟨r6, M7, er6, h⟩ := c0_e h
  refine g_callV0 C tb_X4_copyFrom_0_ok (i := 4) [.ref (y.2.1 a1 0)] rfl mw_X8_copyFrom mv_X8_copyFrom ml_X4_40 k5 rfl rfl rfl rfl (w_X8_copyFrom C.G y (y.2.1 a0 0) (y.2.1 a1 0) M) er6 rfl rfl rfl ?_
  refine g_aload_n C tb_X4_copyFrom_0_ok (i := 5) rfl rfl ?_
  obtain ⟨n8, h⟩ := gN_e h
  refine g_getR C tb_X4_copyFrom_0_ok (i := 6) rfl fl_X4_12 rfl k1 n8 ?_
  refine g_aload_n C tb_X4_copyFrom_0_ok (i := 7) rfl rfl ?_
  obtain ⟨n9, h⟩ := gN_e h
  refine g_getR C tb_X4_copyFrom_0_ok (i := 8) rfl fl_X4_12 rfl k3 n9 ?_
  obtain ⟨k10, h⟩ := gK_e h
  obtain ⟨r11, M12, er11, h⟩ := c0_e h
  refine g_callV0 C tb_X4_copyFrom_0_ok (i := 9) [.ref (y.2.1 a1 1)] rfl mw_X0_copyFrom mv_X0_copyFrom ml_X4_51 k10 rfl rfl rfl rfl (w_X0_copyFrom C.G y (y.2.1 a0 1) (y.2.1 a1 1) M7) er11 rfl rfl rfl ?_
  refine g_aload_n C tb_X4_copyFrom_0_ok (i := 10) rfl rfl ?_
  obtain ⟨n13, h⟩ := gN_e h
  refine g_getR C tb_X4_copyFrom_0_ok (i := 11) rfl fl_X4_18 rfl k3 n13 ?_
  refine g_iconstv C tb_X4_copyFrom_0_ok (i := 12) 0 rfl k_iconstv_0 ?_
  refine g_aload_n C tb_X4_copyFrom_0_ok (i := 13) rfl rfl ?_
  obtain ⟨n14, h⟩ := gN_e h
  refine g_getR C tb_X4_copyFrom_0_ok (i := 14) rfl fl_X4_18 rfl k1 n14 ?_
  refine g_iconstv C tb_X4_copyFrom_0_ok (i := 15) 0 rfl k_iconstv_0 ?_
  refine g_bipushv C tb_X4_copyFrom_0_ok (i := 16) 8 rfl k_bipushv_8 ?_
  obtain ⟨b15, h⟩ := gC_e h
  refine g_copy C tb_X4_copyFrom_0_ok (i := 17) rfl mt_X4_54 rfl b15 ?_
  refine g_mem (fun M16 eM16 => ?_)
  have h := lt_e eM16 h
  refine g_aload_n C tb_X4_copyFrom_0_ok (i := 18) rfl rfl ?_
  obtain ⟨n17, h⟩ := gN_e h
  refine g_getR C tb_X4_copyFrom_0_ok (i := 19) rfl fl_X4_22 rfl k3 n17 ?_
  refine g_iconstv C tb_X4_copyFrom_0_ok (i := 20) 0 rfl k_iconstv_0 ?_
  refine g_aload_n C tb_X4_copyFrom_0_ok (i := 21) rfl rfl ?_
  obtain ⟨n18, h⟩ := gN_e h
  refine g_getR C tb_X4_copyFrom_0_ok (i := 22) rfl fl_X4_22 rfl k1 n18 ?_
  refine g_iconstv C tb_X4_copyFrom_0_ok (i := 23) 0 rfl k_iconstv_0 ?_
  refine g_bipushv C tb_X4_copyFrom_0_ok (i := 24) 8 rfl k_bipushv_8 ?_
  obtain ⟨b19, h⟩ := gC_e h
  refine g_copy C tb_X4_copyFrom_0_ok (i := 25) rfl mt_X4_54 rfl b19 ?_
  refine g_mem (fun M20 eM20 => ?_)
  have h := lt_e eM20 h
  refine g_aload_n C tb_X4_copyFrom_0_ok (i := 26) rfl rfl ?_
  obtain ⟨n21, h⟩ := gN_e h
  refine g_getR C tb_X4_copyFrom_0_ok (i := 27) rfl fl_X4_25 rfl k3 n21 ?_
  refine g_iconstv C tb_X4_copyFrom_0_ok (i := 28) 0 rfl k_iconstv_0 ?_
  refine g_aload_n C tb_X4_copyFrom_0_ok (i := 29) rfl rfl ?_
  obtain ⟨n22, h⟩ := gN_e h
  refine g_getR C tb_X4_copyFrom_0_ok (i := 30) rfl fl_X4_25 rfl k1 n22 ?_
  refine g_iconstv C tb_X4_copyFrom_0_ok (i := 31) 0 rfl k_iconstv_0 ?_
  refine g_bipushv C tb_X4_copyFrom_0_ok (i := 32) 8 rfl k_bipushv_8 ?_
  obtain ⟨b23, h⟩ := gC_e h
  refine g_copy C tb_X4_copyFrom_0_ok (i := 33) rfl mt_X4_54 rfl b23 ?_
  refine g_mem (fun M24 eM24 => ?_)
  have h := lt_e eM24 h
  refine g_aload_n C tb_X4_copyFrom_0_ok (i := 34) rfl rfl ?_
  obtain ⟨n25, h⟩ := gN_e h
  refine g_getR C tb_X4_copyFrom_0_ok (i := 35) rfl fl_X4_28 rfl k3 n25 ?_
  refine g_iconstv C tb_X4_copyFrom_0_ok (i := 36) 0 rfl k_iconstv_0 ?_
  refine g_aload_n C tb_X4_copyFrom_0_ok (i := 37) rfl rfl ?_
  obtain ⟨n26, h⟩ := gN_e h
  refine g_getR C tb_X4_copyFrom_0_ok (i := 38) rfl fl_X4_28 rfl k1 n26 ?_
  refine g_iconstv C tb_X4_copyFrom_0_ok (i := 39) 0 rfl k_iconstv_0 ?_
  refine g_iconstv C tb_X4_copyFrom_1_ok (i := 0) 3 rfl k_iconstv_3 ?_
  obtain ⟨b27, h⟩ := gC_e h
  refine g_copy C tb_X4_copyFrom_1_ok (i := 1) rfl mt_X4_54 rfl b27 ?_
  refine g_mem (fun M28 eM28 => ?_)
  have h := lt_e eM28 h
  refine g_aload_n C tb_X4_copyFrom_1_ok (i := 2) rfl rfl ?_
  refine g_aload_n C tb_X4_copyFrom_1_ok (i := 3) rfl rfl ?_
  refine g_getI C tb_X4_copyFrom_1_ok (i := 4) rfl fl_X4_47 rfl k3 ?_
  refine g_putI C tb_X4_copyFrom_1_ok (i := 5) rfl fl_X4_47 ft_4_6 rfl k1 ?_
  refine g_mem (fun M29 eM29 => ?_)
  have h := lt_e eM29 h
  cases h
  exact g_vret0 C R tb_X4_copyFrom_1_ok (i := 6) rfl
def f_X11_image (y : Lay) (a0 : Nat) (M : Mem) : Option (Int32 × Mem) := gK y a0 (0, 11) (gN (y.2.1 a0 4) (gN (y.2.1 a0 3) (gK y (y.2.1 a0 4) (0, 4) (c0 (f_X4_copyFrom y (y.2.1 a0 4) (y.2.1 a0 3) M) fun (r5 : Int32) (M6 : Mem) => lt (wI M6 a0 11 (1 : Int32)) fun (M7 : Mem) => some (0, M7)))))
theorem w_X11_image {g : GX} {l : Launch} (hG : GF g l) (y : Lay) (a0 : Nat) (M : Mem) : C0 g l yX11_image cX11_image 1 none 2 y [.ref a0] M (f_X11_image y a0 M) := by
  refine C0_of hG (by decide) [some (.ref a0)] rfl rfl (fun out h x Q C R => ?_)
  unfold f_X11_image at h
  refine g_aload_n C tb_X11_image_0_ok (i := 0) rfl rfl ?_
  obtain ⟨k1, h⟩ := gK_e h
  obtain ⟨n2, h⟩ := gN_e h
  refine g_getR C tb_X11_image_0_ok (i := 1) rfl fl_X11_41 rfl k1 n2 ?_
  refine g_aload_n C tb_X11_image_0_ok (i := 2) rfl rfl ?_
  obtain ⟨n3, h⟩ := gN_e h
  refine g_getR C tb_X11_image_0_ok (i := 3) rfl fl_X11_37 rfl k1 n3 ?_
  obtain ⟨k4, h⟩ := gK_e h
  obtain ⟨r5, M6, er5, h⟩ := c0_e h
  refine g_callV0 C tb_X11_image_0_ok (i := 4) [.ref (y.2.1 a0 3)] rfl mw_X4_copyFrom mv_X4_copyFrom ml_X11_340 k4 rfl rfl rfl rfl (w_X4_copyFrom C.G y (y.2.1 a0 4) (y.2.1 a0 3) M) er5 rfl rfl rfl ?_
  refine g_aload_n C tb_X11_image_0_ok (i := 5) rfl rfl ?_
  refine g_iconstv C tb_X11_image_0_ok (i := 6) 1 rfl k_iconstv_1 ?_
  refine g_putZ C tb_X11_image_0_ok (i := 7) rfl fl_X11_124 ft_11_11 rfl (by decide) k1 ?_
  refine g_mem (fun M7 eM7 => ?_)
  have h := lt_e eM7 h
  cases h
  exact g_vret0 C R tb_X11_image_0_ok (i := 8) rfl
def f_X11_restore (y : Lay) (a0 : Nat) (M : Mem) : Option (Int32 × Mem) := gK y a0 (0, 11) (br ((M.1 a0 11) = 0) (some ((0 : Int32), M)) (gN (y.2.1 a0 3) (gN (y.2.1 a0 4) (gK y (y.2.1 a0 3) (0, 4) (c0 (f_X4_copyFrom y (y.2.1 a0 3) (y.2.1 a0 4) M) fun (r7 : Int32) (M8 : Mem) => some ((1 : Int32), M8))))))
theorem w_X11_restore {g : GX} {l : Launch} (hG : GF g l) (y : Lay) (a0 : Nat) (M : Mem) : C0 g l yX11_restore cX11_restore 1 (some .boolean) 2 y [.ref a0] M (f_X11_restore y a0 M) := by
  refine C0_of hG (by decide) [some (.ref a0)] rfl rfl (fun out h x Q C R => ?_)
  unfold f_X11_restore at h
  refine g_aload_n C tb_X11_restore_0_ok (i := 0) rfl rfl ?_
  obtain ⟨k1, h⟩ := gK_e h
  refine g_getI C tb_X11_restore_0_ok (i := 1) rfl fl_X11_124 rfl k1 ?_
  obtain ⟨t2, f3⟩ := br_e h
  refine g_if_ne C tb_X11_restore_0_ok (i := 2) 9 rfl rfl (fun c => ?_) (fun c => ?_)
  · have h := f3 c
    refine g_aload_n C tb_X11_restore_0_ok (i := 5) rfl rfl ?_
    obtain ⟨n4, h⟩ := gN_e h
    refine g_getR C tb_X11_restore_0_ok (i := 6) rfl fl_X11_37 rfl k1 n4 ?_
    refine g_aload_n C tb_X11_restore_0_ok (i := 7) rfl rfl ?_
    obtain ⟨n5, h⟩ := gN_e h
    refine g_getR C tb_X11_restore_0_ok (i := 8) rfl fl_X11_41 rfl k1 n5 ?_
    obtain ⟨k6, h⟩ := gK_e h
    obtain ⟨r7, M8, er7, h⟩ := c0_e h
    refine g_callV0 C tb_X11_restore_0_ok (i := 9) [.ref (y.2.1 a0 4)] rfl mw_X4_copyFrom mv_X4_copyFrom ml_X11_340 k6 rfl rfl rfl rfl (w_X4_copyFrom C.G y (y.2.1 a0 3) (y.2.1 a0 4) M) er7 rfl rfl rfl ?_
    refine g_iconstv C tb_X11_restore_0_ok (i := 10) 1 rfl k_iconstv_1 ?_
    cases h
    exact g_zret0 C R (by decide) tb_X11_restore_0_ok (i := 11) rfl
  · have h := t2 c
    refine g_iconstv C tb_X11_restore_0_ok (i := 3) 0 rfl k_iconstv_0 ?_
    cases h
    exact g_zret0 C R (by decide) tb_X11_restore_0_ok (i := 4) rfl
def f_X9_byteAt (y : Lay) (a0 : Nat) (a1 : Int32) (M : Mem) : Option Int32 := jn (fun (v1 : Int32) => some v1) fun j2 => jn (fun (_u : Unit) => j2 ((-1) : Int32)) fun j3 => br (a1 < 0) (j3 ()) (gK y a0 (0, 9) (br ((M.1 a0 1) ≤ a1) (j3 ()) (gN (y.2.1 a0 0) (gT y (y.2.1 a0 0) 2 (br ((Int32.ofNat (kd y (y.2.1 a0 0)).2) ≤ a1) (j3 ()) (gA y (y.2.1 a0 0) 2 a1 (j2 ((M.1 (y.2.1 a0 0) a1.toNatClampNeg) &&& (255 : Int32)))))))))
theorem w_X9_byteAt {g : GX} {l : Launch} (hG : GF g l) (y : Lay) (a0 : Nat) (a1 : Int32) (M : Mem) : C0 g l yX9_byteAt cX9_byteAt 2 (some .int) 0 y [.ref a0, .int a1] M (pm M (f_X9_byteAt y a0 a1 M)) := by
  refine CP_of hG (by decide) [some (.ref a0), some (.int a1)] rfl rfl (fun out h x Q C R => ?_)
  unfold f_X9_byteAt at h
  refine g_iload_n C tb_X9_byteAt_0_ok (i := 0) rfl rfl ?_
  obtain ⟨j2, ej2, h⟩ := jn_e h
  have J35 : ∀ (v1 : Int32), j2 v1 = some out → GG g x 2 Q 0 0 y M 35 [none, none] [.int v1] := by
    intro v1 h; subst ej2
    cases h
    exact g_iret0 C R tb_X9_byteAt_0_ok (i := 19) rfl
  obtain ⟨j3, ej3, h⟩ := jn_e h
  have J34 : ∀ (_u : Unit), j3 _u = some out → GG g x 2 Q 0 0 y M 34 [none, none] [] := by
    intro _u h; subst ej3
    refine g_iconstv C tb_X9_byteAt_0_ok (i := 18) (-1) rfl k_iconstv_m1 ?_
    exact g_less (L' := [none, none]) trivial (J35 ((-1) : Int32) h)
  obtain ⟨t4, f5⟩ := br_e h
  refine g_if_lt C tb_X9_byteAt_0_ok (i := 1) 34 rfl rfl (fun c => ?_) (fun c => ?_)
  · have h := t4 c
    exact g_less (L' := [none, none]) trivial (J34 () h)
  · have h := f5 c
    refine g_iload_n C tb_X9_byteAt_0_ok (i := 2) rfl rfl ?_
    refine g_aload_n C tb_X9_byteAt_0_ok (i := 3) rfl rfl ?_
    obtain ⟨k6, h⟩ := gK_e h
    refine g_getI C tb_X9_byteAt_0_ok (i := 4) rfl fl_X9_15 rfl k6 ?_
    obtain ⟨t7, f8⟩ := br_e h
    refine g_icmp_ge C tb_X9_byteAt_0_ok (i := 5) 34 rfl rfl (fun c => ?_) (fun c => ?_)
    · have h := t7 c
      exact g_less (L' := [none, none]) trivial (J34 () h)
    · have h := f8 c
      refine g_iload_n C tb_X9_byteAt_0_ok (i := 6) rfl rfl ?_
      refine g_aload_n C tb_X9_byteAt_0_ok (i := 7) rfl rfl ?_
      obtain ⟨n9, h⟩ := gN_e h
      refine g_getR C tb_X9_byteAt_0_ok (i := 8) rfl fl_X9_9 rfl k6 n9 ?_
      obtain ⟨b10, h⟩ := gT_e h
      refine g_alen C tb_X9_byteAt_0_ok (i := 9) rfl b10 (by decide) ?_
      obtain ⟨t11, f12⟩ := br_e h
      refine g_icmp_ge C tb_X9_byteAt_0_ok (i := 10) 34 rfl rfl (fun c => ?_) (fun c => ?_)
      · have h := t11 c
        exact g_less (L' := [none, none]) trivial (J34 () h)
      · have h := f12 c
        refine g_aload_n C tb_X9_byteAt_0_ok (i := 11) rfl rfl ?_
        refine g_getR C tb_X9_byteAt_0_ok (i := 12) rfl fl_X9_9 rfl k6 n9 ?_
        refine g_iload_n C tb_X9_byteAt_0_ok (i := 13) rfl rfl ?_
        obtain ⟨b13, h⟩ := gA_e h
        refine g_bald C tb_X9_byteAt_0_ok (i := 14) rfl b13 ?_
        refine g_sipushv C tb_X9_byteAt_0_ok (i := 15) 255 rfl k_sipushv_255 ?_
        refine g_iand C tb_X9_byteAt_0_ok (i := 16) rfl ?_
        refine g_goto C tb_X9_byteAt_0_ok (i := 17) 35 rfl rfl ?_
        exact g_less (L' := [none, none]) trivial (J35 ((M.1 (y.2.1 a0 0) a1.toNatClampNeg) &&& (255 : Int32)) h)
def f_X10_isBlank (y : Lay) (a0 : Int32) (M : Mem) : Option Int32 := jn (fun (v1 : Int32) => gd (v1 = 0 ∨ v1 = 1) (some v1)) fun j2 => jn (fun (_u : Unit) => j2 (1 : Int32)) fun j3 => br (a0 = (32 : Int32)) (j3 ()) (br (a0 = (10 : Int32)) (j3 ()) (j2 (0 : Int32)))
theorem w_X10_isBlank {g : GX} {l : Launch} (hG : GF g l) (y : Lay) (a0 : Int32) (M : Mem) : C0 g l yX10_isBlank cX10_isBlank 1 (some .boolean) 0 y [.int a0] M (pm M (f_X10_isBlank y a0 M)) := by
  refine CP_of hG (by decide) [some (.int a0)] rfl rfl (fun out h x Q C R => ?_)
  unfold f_X10_isBlank at h
  refine g_iload_n C tb_X10_isBlank_0_ok (i := 0) rfl rfl ?_
  refine g_bipushv C tb_X10_isBlank_0_ok (i := 1) 32 rfl k_bipushv_32 ?_
  obtain ⟨j2, ej2, h⟩ := jn_e h
  have J17 : ∀ (v1 : Int32), j2 v1 = some out → GG g x 1 Q 0 0 y M 17 [none] [.int v1] := by
    intro v1 h; subst ej2
    obtain ⟨hz, h⟩ := gd_e h
    cases h
    exact g_zret0 C R hz tb_X10_isBlank_0_ok (i := 9) rfl
  obtain ⟨j3, ej3, h⟩ := jn_e h
  have J12 : ∀ (_u : Unit), j3 _u = some out → GG g x 1 Q 0 0 y M 12 [none] [] := by
    intro _u h; subst ej3
    refine g_iconstv C tb_X10_isBlank_0_ok (i := 6) 1 rfl k_iconstv_1 ?_
    refine g_goto C tb_X10_isBlank_0_ok (i := 7) 17 rfl rfl ?_
    exact g_less (L' := [none]) trivial (J17 (1 : Int32) h)
  obtain ⟨t4, f5⟩ := br_e h
  refine g_icmp_eq C tb_X10_isBlank_0_ok (i := 2) 12 rfl rfl (fun c => ?_) (fun c => ?_)
  · have h := t4 c
    exact g_less (L' := [none]) trivial (J12 () h)
  · have h := f5 c
    refine g_iload_n C tb_X10_isBlank_0_ok (i := 3) rfl rfl ?_
    refine g_bipushv C tb_X10_isBlank_0_ok (i := 4) 10 rfl k_bipushv_10 ?_
    obtain ⟨t6, f7⟩ := br_e h
    refine g_icmp_ne C tb_X10_isBlank_0_ok (i := 5) 16 rfl rfl (fun c => ?_) (fun c => ?_)
    · have h := f7 c
      refine g_iconstv C tb_X10_isBlank_0_ok (i := 8) 0 rfl k_iconstv_0 ?_
      exact g_less (L' := [none]) trivial (J17 (0 : Int32) h)
    · have h := t6 c
      exact g_less (L' := [none]) trivial (J12 () h)
def f_X10_isLetter (y : Lay) (a0 : Int32) (M : Mem) : Option Int32 := jn (fun (v1 : Int32) => gd (v1 = 0 ∨ v1 = 1) (some v1)) fun j2 => jn (fun (_u : Unit) => j2 (0 : Int32)) fun j3 => br (a0 < (97 : Int32)) (j3 ()) (br ((122 : Int32) < a0) (j3 ()) (j2 (1 : Int32)))
theorem w_X10_isLetter {g : GX} {l : Launch} (hG : GF g l) (y : Lay) (a0 : Int32) (M : Mem) : C0 g l yX10_isLetter cX10_isLetter 1 (some .boolean) 0 y [.int a0] M (pm M (f_X10_isLetter y a0 M)) := by
  refine CP_of hG (by decide) [some (.int a0)] rfl rfl (fun out h x Q C R => ?_)
  unfold f_X10_isLetter at h
  refine g_iload_n C tb_X10_isLetter_0_ok (i := 0) rfl rfl ?_
  refine g_bipushv C tb_X10_isLetter_0_ok (i := 1) 97 rfl k_bipushv_97 ?_
  obtain ⟨j2, ej2, h⟩ := jn_e h
  have J17 : ∀ (v1 : Int32), j2 v1 = some out → GG g x 1 Q 0 0 y M 17 [none] [.int v1] := by
    intro v1 h; subst ej2
    obtain ⟨hz, h⟩ := gd_e h
    cases h
    exact g_zret0 C R hz tb_X10_isLetter_0_ok (i := 9) rfl
  obtain ⟨j3, ej3, h⟩ := jn_e h
  have J16 : ∀ (_u : Unit), j3 _u = some out → GG g x 1 Q 0 0 y M 16 [none] [] := by
    intro _u h; subst ej3
    refine g_iconstv C tb_X10_isLetter_0_ok (i := 8) 0 rfl k_iconstv_0 ?_
    exact g_less (L' := [none]) trivial (J17 (0 : Int32) h)
  obtain ⟨t4, f5⟩ := br_e h
  refine g_icmp_lt C tb_X10_isLetter_0_ok (i := 2) 16 rfl rfl (fun c => ?_) (fun c => ?_)
  · have h := t4 c
    exact g_less (L' := [none]) trivial (J16 () h)
  · have h := f5 c
    refine g_iload_n C tb_X10_isLetter_0_ok (i := 3) rfl rfl ?_
    refine g_bipushv C tb_X10_isLetter_0_ok (i := 4) 122 rfl k_bipushv_122 ?_
    obtain ⟨t6, f7⟩ := br_e h
    refine g_icmp_gt C tb_X10_isLetter_0_ok (i := 5) 16 rfl rfl (fun c => ?_) (fun c => ?_)
    · have h := t6 c
      exact g_less (L' := [none]) trivial (J16 () h)
    · have h := f7 c
      refine g_iconstv C tb_X10_isLetter_0_ok (i := 6) 1 rfl k_iconstv_1 ?_
      refine g_goto C tb_X10_isLetter_0_ok (i := 7) 17 rfl rfl ?_
      exact g_less (L' := [none]) trivial (J17 (1 : Int32) h)
def f_X10_isDigit (y : Lay) (a0 : Int32) (M : Mem) : Option Int32 := jn (fun (v1 : Int32) => gd (v1 = 0 ∨ v1 = 1) (some v1)) fun j2 => jn (fun (_u : Unit) => j2 (0 : Int32)) fun j3 => br (a0 < (48 : Int32)) (j3 ()) (br ((57 : Int32) < a0) (j3 ()) (j2 (1 : Int32)))
theorem w_X10_isDigit {g : GX} {l : Launch} (hG : GF g l) (y : Lay) (a0 : Int32) (M : Mem) : C0 g l yX10_isDigit cX10_isDigit 1 (some .boolean) 0 y [.int a0] M (pm M (f_X10_isDigit y a0 M)) := by
  refine CP_of hG (by decide) [some (.int a0)] rfl rfl (fun out h x Q C R => ?_)
  unfold f_X10_isDigit at h
  refine g_iload_n C tb_X10_isDigit_0_ok (i := 0) rfl rfl ?_
  refine g_bipushv C tb_X10_isDigit_0_ok (i := 1) 48 rfl k_bipushv_48 ?_
  obtain ⟨j2, ej2, h⟩ := jn_e h
  have J17 : ∀ (v1 : Int32), j2 v1 = some out → GG g x 1 Q 0 0 y M 17 [none] [.int v1] := by
    intro v1 h; subst ej2
    obtain ⟨hz, h⟩ := gd_e h
    cases h
    exact g_zret0 C R hz tb_X10_isDigit_0_ok (i := 9) rfl
  obtain ⟨j3, ej3, h⟩ := jn_e h
  have J16 : ∀ (_u : Unit), j3 _u = some out → GG g x 1 Q 0 0 y M 16 [none] [] := by
    intro _u h; subst ej3
    refine g_iconstv C tb_X10_isDigit_0_ok (i := 8) 0 rfl k_iconstv_0 ?_
    exact g_less (L' := [none]) trivial (J17 (0 : Int32) h)
  obtain ⟨t4, f5⟩ := br_e h
  refine g_icmp_lt C tb_X10_isDigit_0_ok (i := 2) 16 rfl rfl (fun c => ?_) (fun c => ?_)
  · have h := t4 c
    exact g_less (L' := [none]) trivial (J16 () h)
  · have h := f5 c
    refine g_iload_n C tb_X10_isDigit_0_ok (i := 3) rfl rfl ?_
    refine g_bipushv C tb_X10_isDigit_0_ok (i := 4) 57 rfl k_bipushv_57 ?_
    obtain ⟨t6, f7⟩ := br_e h
    refine g_icmp_gt C tb_X10_isDigit_0_ok (i := 5) 16 rfl rfl (fun c => ?_) (fun c => ?_)
    · have h := t6 c
      exact g_less (L' := [none]) trivial (J16 () h)
    · have h := f7 c
      refine g_iconstv C tb_X10_isDigit_0_ok (i := 6) 1 rfl k_iconstv_1 ?_
      refine g_goto C tb_X10_isDigit_0_ok (i := 7) 17 rfl rfl ?_
      exact g_less (L' := [none]) trivial (J17 (1 : Int32) h)
def f_X10_advance (y : Lay) (a0 : Nat) (M : Mem) : Option (Int32 × Mem) := gK y a0 (0, 10) (lt (wI M a0 3 (M.1 a0 4)) fun (M2 : Mem) => fixN (fun _ => none) (fun (s4 : Mem → Option (Int32 × Mem)) (M3 : Mem) => jn (fun (_u : Unit) => lt (wI M3 a0 4 (M3.1 a0 3)) fun (M7 : Mem) => lt (wI M7 a0 5 (0 : Int32)) fun (M8 : Mem) => jn (fun (M9 : Mem) => some (0, M9)) fun j10 => br ((M8.1 a0 3) < (M8.1 a0 1)) (gN (y.2.1 a0 0) (gK y (y.2.1 a0 0) (0, 9) (cp (f_X9_byteAt y (y.2.1 a0 0) (M8.1 a0 3) M8) fun (r15 : Int32) => cp (f_X10_isLetter y r15 M8) fun (r16 : Int32) => br (r16 = 0) (cp (f_X9_byteAt y (y.2.1 a0 0) (M8.1 a0 3) M8) fun (r19 : Int32) => cp (f_X10_isDigit y r19 M8) fun (r20 : Int32) => br (r20 = 0) (cp (f_X9_byteAt y (y.2.1 a0 0) (M8.1 a0 3) M8) fun (r23 : Int32) => lt (wI M8 a0 2 r23) fun (M24 : Mem) => lt (wI M24 a0 4 ((M24.1 a0 4) + (1 : Int32))) fun (M25 : Mem) => j10 M25) (lt (wI M8 a0 2 ((-3) : Int32)) fun (M26 : Mem) => fixN (fun _ => none) (fun (s28 : Mem → Option (Int32 × Mem)) (M27 : Mem) => br ((M27.1 a0 1) ≤ (M27.1 a0 4)) (j10 M27) (cp (f_X9_byteAt y (y.2.1 a0 0) (M27.1 a0 4) M27) fun (r32 : Int32) => cp (f_X10_isDigit y r32 M27) fun (r33 : Int32) => br (r33 = 0) (j10 M27) (jn (fun (M36 : Mem) => lt (wI M36 a0 4 ((M36.1 a0 4) + (1 : Int32))) fun (M38 : Mem) => s28 M38) fun j37 => br ((4 : Int32) ≤ ((M27.1 a0 4) - (M27.1 a0 3))) (j37 M27) (cp (f_X9_byteAt y (y.2.1 a0 0) (M27.1 a0 4) M27) fun (r41 : Int32) => lt (wI M27 a0 5 ((((10 : Int32) * (M27.1 a0 5)) + r41) - (48 : Int32))) fun (M42 : Mem) => j37 M42)))) FUEL M26)) (lt (wI M8 a0 2 ((-2) : Int32)) fun (M43 : Mem) => fixN (fun _ => none) (fun (s45 : Mem → Option (Int32 × Mem)) (M44 : Mem) => br ((M44.1 a0 1) ≤ (M44.1 a0 4)) (j10 M44) (cp (f_X9_byteAt y (y.2.1 a0 0) (M44.1 a0 4) M44) fun (r49 : Int32) => cp (f_X10_isLetter y r49 M44) fun (r50 : Int32) => br (r50 = 0) (j10 M44) (lt (wI M44 a0 4 ((M44.1 a0 4) + (1 : Int32))) fun (M53 : Mem) => s45 M53))) FUEL M43)))) (lt (wI M8 a0 2 ((-1) : Int32)) fun (M54 : Mem) => j10 M54)) fun j6 => br ((M3.1 a0 1) ≤ (M3.1 a0 3)) (j6 ()) (gN (y.2.1 a0 0) (gK y (y.2.1 a0 0) (0, 9) (cp (f_X9_byteAt y (y.2.1 a0 0) (M3.1 a0 3) M3) fun (r59 : Int32) => cp (f_X10_isBlank y r59 M3) fun (r60 : Int32) => br (r60 = 0) (j6 ()) (lt (wI M3 a0 3 ((M3.1 a0 3) + (1 : Int32))) fun (M63 : Mem) => s4 M63))))) FUEL M2)
theorem w_X10_advance {g : GX} {l : Launch} (hG : GF g l) (y : Lay) (a0 : Nat) (M : Mem) : C0 g l yX10_advance cX10_advance 1 none 1 y [.ref a0] M (f_X10_advance y a0 M) := by
  refine C0_of hG (by decide) [some (.ref a0)] rfl rfl (fun out h x Q C R => ?_)
  unfold f_X10_advance at h
  refine g_aload_n C tb_X10_advance_0_ok (i := 0) rfl rfl ?_
  refine g_aload_n C tb_X10_advance_0_ok (i := 1) rfl rfl ?_
  obtain ⟨k1, h⟩ := gK_e h
  refine g_getI C tb_X10_advance_0_ok (i := 2) rfl fl_X10_19 rfl k1 ?_
  refine g_putI C tb_X10_advance_0_ok (i := 3) rfl fl_X10_31 ft_10_3 rfl k1 ?_
  refine g_mem (fun M2 eM2 => ?_)
  have h := lt_e eM2 h
  refine g_less (L' := [some (.ref a0)]) ⟨rfl, trivial⟩ ?_
  refine fix_i (P := fun (f : Mem → Option (Int32 × Mem)) => ∀ (M3 : Mem), f M3 = some out → GG g x 1 Q 0 0 y M3 8 [some (.ref a0)] []) ?_ ?_ _ M2 h
  · intro M3 h; exact (nn_e h).elim
  · intro s4 ih5 M3 h
    refine g_aload_n C tb_X10_advance_0_ok (i := 4) rfl rfl ?_
    refine g_getI C tb_X10_advance_0_ok (i := 5) rfl fl_X10_31 rfl k1 ?_
    refine g_aload_n C tb_X10_advance_0_ok (i := 6) rfl rfl ?_
    refine g_getI C tb_X10_advance_0_ok (i := 7) rfl fl_X10_15 rfl k1 ?_
    obtain ⟨j6, ej6, h⟩ := jn_e h
    have J49 : ∀ (_u : Unit), j6 _u = some out → GG g x 1 Q 0 0 y M3 49 [some (.ref a0)] [] := by
      intro _u h; subst ej6
      refine g_aload_n C tb_X10_advance_0_ok (i := 23) rfl rfl ?_
      refine g_aload_n C tb_X10_advance_0_ok (i := 24) rfl rfl ?_
      refine g_getI C tb_X10_advance_0_ok (i := 25) rfl fl_X10_31 rfl k1 ?_
      refine g_putI C tb_X10_advance_0_ok (i := 26) rfl fl_X10_19 ft_10_4 rfl k1 ?_
      refine g_mem (fun M7 eM7 => ?_)
      have h := lt_e eM7 h
      refine g_aload_n C tb_X10_advance_0_ok (i := 27) rfl rfl ?_
      refine g_iconstv C tb_X10_advance_0_ok (i := 28) 0 rfl k_iconstv_0 ?_
      refine g_putI C tb_X10_advance_0_ok (i := 29) rfl fl_X10_44 ft_10_5 rfl k1 ?_
      refine g_mem (fun M8 eM8 => ?_)
      have h := lt_e eM8 h
      refine g_aload_n C tb_X10_advance_0_ok (i := 30) rfl rfl ?_
      refine g_getI C tb_X10_advance_0_ok (i := 31) rfl fl_X10_31 rfl k1 ?_
      refine g_aload_n C tb_X10_advance_0_ok (i := 32) rfl rfl ?_
      refine g_getI C tb_X10_advance_0_ok (i := 33) rfl fl_X10_15 rfl k1 ?_
      obtain ⟨j10, ej10, h⟩ := jn_e h
      have J273 : ∀ (M9 : Mem), j10 M9 = some out → GG g x 1 Q 0 0 y M9 273 [none] [] := by
        intro M9 h; subst ej10
        cases h
        exact g_vret0 C R tb_X10_advance_3_ok (i := 11) rfl
      obtain ⟨t11, f12⟩ := br_e h
      refine g_icmp_lt C tb_X10_advance_0_ok (i := 34) 81 rfl rfl (fun c => ?_) (fun c => ?_)
      · have h := t11 c
        refine g_aload_n C tb_X10_advance_0_ok (i := 39) rfl rfl ?_
        obtain ⟨n13, h⟩ := gN_e h
        refine g_getR C tb_X10_advance_1_ok (i := 0) rfl fl_X10_9 rfl k1 n13 ?_
        refine g_aload_n C tb_X10_advance_1_ok (i := 1) rfl rfl ?_
        refine g_getI C tb_X10_advance_1_ok (i := 2) rfl fl_X10_31 rfl k1 ?_
        obtain ⟨k14, h⟩ := gK_e h
        obtain ⟨r15, er15, h⟩ := cp_e h
        refine g_callV0 C tb_X10_advance_1_ok (i := 3) [.int (M8.1 a0 3)] rfl mw_X9_byteAt mv_X9_byteAt ml_X10_34 k14 rfl rfl rfl rfl (w_X9_byteAt C.G y (y.2.1 a0 0) (M8.1 a0 3) M8) (pm_s er15) rfl rfl rfl ?_
        obtain ⟨r16, er16, h⟩ := cp_e h
        refine g_callS0 C tb_X10_advance_1_ok (i := 4) [.int r15] rfl mw_X10_isLetter mst_X10_isLetter ml_X10_50 rfl rfl rfl rfl (w_X10_isLetter C.G y r15 M8) (pm_s er16) rfl rfl rfl ?_
        obtain ⟨t17, f18⟩ := br_e h
        refine g_if_eq C tb_X10_advance_1_ok (i := 5) 145 rfl rfl (fun c => ?_) (fun c => ?_)
        · have h := t17 c
          refine g_aload_n C tb_X10_advance_1_ok (i := 28) rfl rfl ?_
          refine g_getR C tb_X10_advance_1_ok (i := 29) rfl fl_X10_9 rfl k1 n13 ?_
          refine g_aload_n C tb_X10_advance_1_ok (i := 30) rfl rfl ?_
          refine g_getI C tb_X10_advance_1_ok (i := 31) rfl fl_X10_31 rfl k1 ?_
          obtain ⟨r19, er19, h⟩ := cp_e h
          refine g_callV0 C tb_X10_advance_1_ok (i := 32) [.int (M8.1 a0 3)] rfl mw_X9_byteAt mv_X9_byteAt ml_X10_34 k14 rfl rfl rfl rfl (w_X9_byteAt C.G y (y.2.1 a0 0) (M8.1 a0 3) M8) (pm_s er19) rfl rfl rfl ?_
          obtain ⟨r20, er20, h⟩ := cp_e h
          refine g_callS0 C tb_X10_advance_1_ok (i := 33) [.int r19] rfl mw_X10_isDigit mst_X10_isDigit ml_X10_53 rfl rfl rfl rfl (w_X10_isDigit C.G y r19 M8) (pm_s er20) rfl rfl rfl ?_
          obtain ⟨t21, f22⟩ := br_e h
          refine g_if_eq C tb_X10_advance_1_ok (i := 34) 248 rfl rfl (fun c => ?_) (fun c => ?_)
          · have h := t21 c
            refine g_aload_n C tb_X10_advance_2_ok (i := 38) rfl rfl ?_
            refine g_aload_n C tb_X10_advance_2_ok (i := 39) rfl rfl ?_
            refine g_getR C tb_X10_advance_3_ok (i := 0) rfl fl_X10_9 rfl k1 n13 ?_
            refine g_aload_n C tb_X10_advance_3_ok (i := 1) rfl rfl ?_
            refine g_getI C tb_X10_advance_3_ok (i := 2) rfl fl_X10_31 rfl k1 ?_
            obtain ⟨r23, er23, h⟩ := cp_e h
            refine g_callV0 C tb_X10_advance_3_ok (i := 3) [.int (M8.1 a0 3)] rfl mw_X9_byteAt mv_X9_byteAt ml_X10_34 k14 rfl rfl rfl rfl (w_X9_byteAt C.G y (y.2.1 a0 0) (M8.1 a0 3) M8) (pm_s er23) rfl rfl rfl ?_
            refine g_putI C tb_X10_advance_3_ok (i := 4) rfl fl_X10_47 ft_10_2 rfl k1 ?_
            refine g_mem (fun M24 eM24 => ?_)
            have h := lt_e eM24 h
            refine g_aload_n C tb_X10_advance_3_ok (i := 5) rfl rfl ?_
            refine g_dup C tb_X10_advance_3_ok (i := 6) rfl rfl ?_
            refine g_getI C tb_X10_advance_3_ok (i := 7) rfl fl_X10_19 rfl k1 ?_
            refine g_iconstv C tb_X10_advance_3_ok (i := 8) 1 rfl k_iconstv_1 ?_
            refine g_iadd C tb_X10_advance_3_ok (i := 9) rfl ?_
            refine g_putI C tb_X10_advance_3_ok (i := 10) rfl fl_X10_19 ft_10_4 rfl k1 ?_
            refine g_mem (fun M25 eM25 => ?_)
            have h := lt_e eM25 h
            exact g_less (L' := [none]) trivial (J273 M25 h)
          · have h := f22 c
            refine g_aload_n C tb_X10_advance_1_ok (i := 35) rfl rfl ?_
            refine g_bipushv C tb_X10_advance_1_ok (i := 36) (-3) rfl k_bipushv_m3 ?_
            refine g_putI C tb_X10_advance_1_ok (i := 37) rfl fl_X10_47 ft_10_2 rfl k1 ?_
            refine g_mem (fun M26 eM26 => ?_)
            have h := lt_e eM26 h
            refine g_less (L' := [some (.ref a0)]) ⟨rfl, trivial⟩ ?_
            refine fix_i (P := fun (f : Mem → Option (Int32 × Mem)) => ∀ (M27 : Mem), f M27 = some out → GG g x 1 Q 0 0 y M27 168 [some (.ref a0)] []) ?_ ?_ _ M26 h
            · intro M27 h; exact (nn_e h).elim
            · intro s28 ih29 M27 h
              refine g_aload_n C tb_X10_advance_1_ok (i := 38) rfl rfl ?_
              refine g_getI C tb_X10_advance_1_ok (i := 39) rfl fl_X10_19 rfl k1 ?_
              refine g_aload_n C tb_X10_advance_2_ok (i := 0) rfl rfl ?_
              refine g_getI C tb_X10_advance_2_ok (i := 1) rfl fl_X10_15 rfl k1 ?_
              obtain ⟨t30, f31⟩ := br_e h
              refine g_icmp_ge C tb_X10_advance_2_ok (i := 2) 273 rfl rfl (fun c => ?_) (fun c => ?_)
              · have h := t30 c
                exact g_less (L' := [none]) trivial (J273 M27 h)
              · have h := f31 c
                refine g_aload_n C tb_X10_advance_2_ok (i := 3) rfl rfl ?_
                refine g_getR C tb_X10_advance_2_ok (i := 4) rfl fl_X10_9 rfl k1 n13 ?_
                refine g_aload_n C tb_X10_advance_2_ok (i := 5) rfl rfl ?_
                refine g_getI C tb_X10_advance_2_ok (i := 6) rfl fl_X10_19 rfl k1 ?_
                obtain ⟨r32, er32, h⟩ := cp_e h
                refine g_callV0 C tb_X10_advance_2_ok (i := 7) [.int (M27.1 a0 4)] rfl mw_X9_byteAt mv_X9_byteAt ml_X10_34 k14 rfl rfl rfl rfl (w_X9_byteAt C.G y (y.2.1 a0 0) (M27.1 a0 4) M27) (pm_s er32) rfl rfl rfl ?_
                obtain ⟨r33, er33, h⟩ := cp_e h
                refine g_callS0 C tb_X10_advance_2_ok (i := 8) [.int r32] rfl mw_X10_isDigit mst_X10_isDigit ml_X10_53 rfl rfl rfl rfl (w_X10_isDigit C.G y r32 M27) (pm_s er33) rfl rfl rfl ?_
                obtain ⟨t34, f35⟩ := br_e h
                refine g_if_eq C tb_X10_advance_2_ok (i := 9) 273 rfl rfl (fun c => ?_) (fun c => ?_)
                · have h := t34 c
                  exact g_less (L' := [none]) trivial (J273 M27 h)
                · have h := f35 c
                  refine g_aload_n C tb_X10_advance_2_ok (i := 10) rfl rfl ?_
                  refine g_getI C tb_X10_advance_2_ok (i := 11) rfl fl_X10_19 rfl k1 ?_
                  refine g_aload_n C tb_X10_advance_2_ok (i := 12) rfl rfl ?_
                  refine g_getI C tb_X10_advance_2_ok (i := 13) rfl fl_X10_31 rfl k1 ?_
                  refine g_isub C tb_X10_advance_2_ok (i := 14) rfl ?_
                  refine g_iconstv C tb_X10_advance_2_ok (i := 15) 4 rfl k_iconstv_4 ?_
                  obtain ⟨j37, ej37, h⟩ := jn_e h
                  have J235 : ∀ (M36 : Mem), j37 M36 = some out → GG g x 1 Q 0 0 y M36 235 [some (.ref a0)] [] := by
                    intro M36 h; subst ej37
                    refine g_aload_n C tb_X10_advance_2_ok (i := 31) rfl rfl ?_
                    refine g_dup C tb_X10_advance_2_ok (i := 32) rfl rfl ?_
                    refine g_getI C tb_X10_advance_2_ok (i := 33) rfl fl_X10_19 rfl k1 ?_
                    refine g_iconstv C tb_X10_advance_2_ok (i := 34) 1 rfl k_iconstv_1 ?_
                    refine g_iadd C tb_X10_advance_2_ok (i := 35) rfl ?_
                    refine g_putI C tb_X10_advance_2_ok (i := 36) rfl fl_X10_19 ft_10_4 rfl k1 ?_
                    refine g_mem (fun M38 eM38 => ?_)
                    have h := lt_e eM38 h
                    refine g_goto C tb_X10_advance_2_ok (i := 37) 168 rfl rfl ?_
                    exact g_less (L' := [some (.ref a0)]) ⟨rfl, trivial⟩ (ih29 M38 h)
                  obtain ⟨t39, f40⟩ := br_e h
                  refine g_icmp_ge C tb_X10_advance_2_ok (i := 16) 235 rfl rfl (fun c => ?_) (fun c => ?_)
                  · have h := t39 c
                    exact g_less (L' := [some (.ref a0)]) ⟨rfl, trivial⟩ (J235 M27 h)
                  · have h := f40 c
                    refine g_aload_n C tb_X10_advance_2_ok (i := 17) rfl rfl ?_
                    refine g_bipushv C tb_X10_advance_2_ok (i := 18) 10 rfl k_bipushv_10 ?_
                    refine g_aload_n C tb_X10_advance_2_ok (i := 19) rfl rfl ?_
                    refine g_getI C tb_X10_advance_2_ok (i := 20) rfl fl_X10_44 rfl k1 ?_
                    refine g_imul C tb_X10_advance_2_ok (i := 21) rfl ?_
                    refine g_aload_n C tb_X10_advance_2_ok (i := 22) rfl rfl ?_
                    refine g_getR C tb_X10_advance_2_ok (i := 23) rfl fl_X10_9 rfl k1 n13 ?_
                    refine g_aload_n C tb_X10_advance_2_ok (i := 24) rfl rfl ?_
                    refine g_getI C tb_X10_advance_2_ok (i := 25) rfl fl_X10_19 rfl k1 ?_
                    obtain ⟨r41, er41, h⟩ := cp_e h
                    refine g_callV0 C tb_X10_advance_2_ok (i := 26) [.int (M27.1 a0 4)] rfl mw_X9_byteAt mv_X9_byteAt ml_X10_34 k14 rfl rfl rfl rfl (w_X9_byteAt C.G y (y.2.1 a0 0) (M27.1 a0 4) M27) (pm_s er41) rfl rfl rfl ?_
                    refine g_iadd C tb_X10_advance_2_ok (i := 27) rfl ?_
                    refine g_bipushv C tb_X10_advance_2_ok (i := 28) 48 rfl k_bipushv_48 ?_
                    refine g_isub C tb_X10_advance_2_ok (i := 29) rfl ?_
                    refine g_putI C tb_X10_advance_2_ok (i := 30) rfl fl_X10_44 ft_10_5 rfl k1 ?_
                    refine g_mem (fun M42 eM42 => ?_)
                    have h := lt_e eM42 h
                    exact g_less (L' := [some (.ref a0)]) ⟨rfl, trivial⟩ (J235 M42 h)
        · have h := f18 c
          refine g_aload_n C tb_X10_advance_1_ok (i := 6) rfl rfl ?_
          refine g_bipushv C tb_X10_advance_1_ok (i := 7) (-2) rfl k_bipushv_m2 ?_
          refine g_putI C tb_X10_advance_1_ok (i := 8) rfl fl_X10_47 ft_10_2 rfl k1 ?_
          refine g_mem (fun M43 eM43 => ?_)
          have h := lt_e eM43 h
          refine g_less (L' := [some (.ref a0)]) ⟨rfl, trivial⟩ ?_
          refine fix_i (P := fun (f : Mem → Option (Int32 × Mem)) => ∀ (M44 : Mem), f M44 = some out → GG g x 1 Q 0 0 y M44 104 [some (.ref a0)] []) ?_ ?_ _ M43 h
          · intro M44 h; exact (nn_e h).elim
          · intro s45 ih46 M44 h
            refine g_aload_n C tb_X10_advance_1_ok (i := 9) rfl rfl ?_
            refine g_getI C tb_X10_advance_1_ok (i := 10) rfl fl_X10_19 rfl k1 ?_
            refine g_aload_n C tb_X10_advance_1_ok (i := 11) rfl rfl ?_
            refine g_getI C tb_X10_advance_1_ok (i := 12) rfl fl_X10_15 rfl k1 ?_
            obtain ⟨t47, f48⟩ := br_e h
            refine g_icmp_ge C tb_X10_advance_1_ok (i := 13) 273 rfl rfl (fun c => ?_) (fun c => ?_)
            · have h := t47 c
              exact g_less (L' := [none]) trivial (J273 M44 h)
            · have h := f48 c
              refine g_aload_n C tb_X10_advance_1_ok (i := 14) rfl rfl ?_
              refine g_getR C tb_X10_advance_1_ok (i := 15) rfl fl_X10_9 rfl k1 n13 ?_
              refine g_aload_n C tb_X10_advance_1_ok (i := 16) rfl rfl ?_
              refine g_getI C tb_X10_advance_1_ok (i := 17) rfl fl_X10_19 rfl k1 ?_
              obtain ⟨r49, er49, h⟩ := cp_e h
              refine g_callV0 C tb_X10_advance_1_ok (i := 18) [.int (M44.1 a0 4)] rfl mw_X9_byteAt mv_X9_byteAt ml_X10_34 k14 rfl rfl rfl rfl (w_X9_byteAt C.G y (y.2.1 a0 0) (M44.1 a0 4) M44) (pm_s er49) rfl rfl rfl ?_
              obtain ⟨r50, er50, h⟩ := cp_e h
              refine g_callS0 C tb_X10_advance_1_ok (i := 19) [.int r49] rfl mw_X10_isLetter mst_X10_isLetter ml_X10_50 rfl rfl rfl rfl (w_X10_isLetter C.G y r49 M44) (pm_s er50) rfl rfl rfl ?_
              obtain ⟨t51, f52⟩ := br_e h
              refine g_if_eq C tb_X10_advance_1_ok (i := 20) 273 rfl rfl (fun c => ?_) (fun c => ?_)
              · have h := t51 c
                exact g_less (L' := [none]) trivial (J273 M44 h)
              · have h := f52 c
                refine g_aload_n C tb_X10_advance_1_ok (i := 21) rfl rfl ?_
                refine g_dup C tb_X10_advance_1_ok (i := 22) rfl rfl ?_
                refine g_getI C tb_X10_advance_1_ok (i := 23) rfl fl_X10_19 rfl k1 ?_
                refine g_iconstv C tb_X10_advance_1_ok (i := 24) 1 rfl k_iconstv_1 ?_
                refine g_iadd C tb_X10_advance_1_ok (i := 25) rfl ?_
                refine g_putI C tb_X10_advance_1_ok (i := 26) rfl fl_X10_19 ft_10_4 rfl k1 ?_
                refine g_mem (fun M53 eM53 => ?_)
                have h := lt_e eM53 h
                refine g_goto C tb_X10_advance_1_ok (i := 27) 104 rfl rfl ?_
                exact g_less (L' := [some (.ref a0)]) ⟨rfl, trivial⟩ (ih46 M53 h)
      · have h := f12 c
        refine g_aload_n C tb_X10_advance_0_ok (i := 35) rfl rfl ?_
        refine g_iconstv C tb_X10_advance_0_ok (i := 36) (-1) rfl k_iconstv_m1 ?_
        refine g_putI C tb_X10_advance_0_ok (i := 37) rfl fl_X10_47 ft_10_2 rfl k1 ?_
        refine g_mem (fun M54 eM54 => ?_)
        have h := lt_e eM54 h
        refine g_goto C tb_X10_advance_0_ok (i := 38) 273 rfl rfl ?_
        exact g_less (L' := [none]) trivial (J273 M54 h)
    obtain ⟨t55, f56⟩ := br_e h
    refine g_icmp_ge C tb_X10_advance_0_ok (i := 8) 49 rfl rfl (fun c => ?_) (fun c => ?_)
    · have h := t55 c
      exact g_less (L' := [some (.ref a0)]) ⟨rfl, trivial⟩ (J49 () h)
    · have h := f56 c
      refine g_aload_n C tb_X10_advance_0_ok (i := 9) rfl rfl ?_
      obtain ⟨n57, h⟩ := gN_e h
      refine g_getR C tb_X10_advance_0_ok (i := 10) rfl fl_X10_9 rfl k1 n57 ?_
      refine g_aload_n C tb_X10_advance_0_ok (i := 11) rfl rfl ?_
      refine g_getI C tb_X10_advance_0_ok (i := 12) rfl fl_X10_31 rfl k1 ?_
      obtain ⟨k58, h⟩ := gK_e h
      obtain ⟨r59, er59, h⟩ := cp_e h
      refine g_callV0 C tb_X10_advance_0_ok (i := 13) [.int (M3.1 a0 3)] rfl mw_X9_byteAt mv_X9_byteAt ml_X10_34 k58 rfl rfl rfl rfl (w_X9_byteAt C.G y (y.2.1 a0 0) (M3.1 a0 3) M3) (pm_s er59) rfl rfl rfl ?_
      obtain ⟨r60, er60, h⟩ := cp_e h
      refine g_callS0 C tb_X10_advance_0_ok (i := 14) [.int r59] rfl mw_X10_isBlank mst_X10_isBlank ml_X10_40 rfl rfl rfl rfl (w_X10_isBlank C.G y r59 M3) (pm_s er60) rfl rfl rfl ?_
      obtain ⟨t61, f62⟩ := br_e h
      refine g_if_eq C tb_X10_advance_0_ok (i := 15) 49 rfl rfl (fun c => ?_) (fun c => ?_)
      · have h := t61 c
        exact g_less (L' := [some (.ref a0)]) ⟨rfl, trivial⟩ (J49 () h)
      · have h := f62 c
        refine g_aload_n C tb_X10_advance_0_ok (i := 16) rfl rfl ?_
        refine g_dup C tb_X10_advance_0_ok (i := 17) rfl rfl ?_
        refine g_getI C tb_X10_advance_0_ok (i := 18) rfl fl_X10_31 rfl k1 ?_
        refine g_iconstv C tb_X10_advance_0_ok (i := 19) 1 rfl k_iconstv_1 ?_
        refine g_iadd C tb_X10_advance_0_ok (i := 20) rfl ?_
        refine g_putI C tb_X10_advance_0_ok (i := 21) rfl fl_X10_31 ft_10_3 rfl k1 ?_
        refine g_mem (fun M63 eM63 => ?_)
        have h := lt_e eM63 h
        refine g_goto C tb_X10_advance_0_ok (i := 22) 8 rfl rfl ?_
        exact g_less (L' := [some (.ref a0)]) ⟨rfl, trivial⟩ (ih5 M63 h)
def f_X10_begin (y : Lay) (a0 : Nat) (a1 : Int32) (M : Mem) : Option (Int32 × Mem) := gK y a0 (0, 10) (lt (wI M a0 1 a1) fun (M2 : Mem) => lt (wI M2 a0 4 (0 : Int32)) fun (M3 : Mem) => lt (wI M3 a0 6 (0 : Int32)) fun (M4 : Mem) => lt (wI M4 a0 7 ((-1) : Int32)) fun (M5 : Mem) => c0 (f_X10_advance y a0 M5) fun (r6 : Int32) (M7 : Mem) => some (0, M7))
theorem w_X10_begin {g : GX} {l : Launch} (hG : GF g l) (y : Lay) (a0 : Nat) (a1 : Int32) (M : Mem) : C0 g l yX10_begin cX10_begin 2 none 2 y [.ref a0, .int a1] M (f_X10_begin y a0 a1 M) := by
  refine C0_of hG (by decide) [some (.ref a0), some (.int a1)] rfl rfl (fun out h x Q C R => ?_)
  unfold f_X10_begin at h
  refine g_aload_n C tb_X10_begin_0_ok (i := 0) rfl rfl ?_
  refine g_iload_n C tb_X10_begin_0_ok (i := 1) rfl rfl ?_
  obtain ⟨k1, h⟩ := gK_e h
  refine g_putI C tb_X10_begin_0_ok (i := 2) rfl fl_X10_15 ft_10_1 rfl k1 ?_
  refine g_mem (fun M2 eM2 => ?_)
  have h := lt_e eM2 h
  refine g_aload_n C tb_X10_begin_0_ok (i := 3) rfl rfl ?_
  refine g_iconstv C tb_X10_begin_0_ok (i := 4) 0 rfl k_iconstv_0 ?_
  refine g_putI C tb_X10_begin_0_ok (i := 5) rfl fl_X10_19 ft_10_4 rfl k1 ?_
  refine g_mem (fun M3 eM3 => ?_)
  have h := lt_e eM3 h
  refine g_aload_n C tb_X10_begin_0_ok (i := 6) rfl rfl ?_
  refine g_iconstv C tb_X10_begin_0_ok (i := 7) 0 rfl k_iconstv_0 ?_
  refine g_putI C tb_X10_begin_0_ok (i := 8) rfl fl_X10_22 ft_10_6 rfl k1 ?_
  refine g_mem (fun M4 eM4 => ?_)
  have h := lt_e eM4 h
  refine g_aload_n C tb_X10_begin_0_ok (i := 9) rfl rfl ?_
  refine g_iconstv C tb_X10_begin_0_ok (i := 10) (-1) rfl k_iconstv_m1 ?_
  refine g_putI C tb_X10_begin_0_ok (i := 11) rfl fl_X10_25 ft_10_7 rfl k1 ?_
  refine g_mem (fun M5 eM5 => ?_)
  have h := lt_e eM5 h
  refine g_aload_n C tb_X10_begin_0_ok (i := 12) rfl rfl ?_
  obtain ⟨r6, M7, er6, h⟩ := c0_e h
  refine g_callV0 C tb_X10_begin_0_ok (i := 13) [] rfl mw_X10_advance mv_X10_advance ml_X10_28 k1 rfl rfl rfl rfl (w_X10_advance C.G y a0 M5) er6 rfl rfl rfl ?_
  cases h
  exact g_vret0 C R tb_X10_begin_0_ok (i := 14) rfl
def f_X10_isWord (y : Lay) (a0 : Nat) (a1 : Nat) (M : Mem) : Option Int32 := gK y a0 (0, 10) (jn (fun (_u : Unit) => some (0 : Int32)) fun j2 => br ((M.1 a0 2) = ((-2) : Int32)) (gd (1000 ≤ a1 ∧ a1 < 1037) (br (((M.1 a0 4) - (M.1 a0 3)) = (Int32.ofNat (strB (a1 - 1000)).length)) (fixN (fun _ => none) (fun (s9 : Int32 → Option Int32) (v8 : Int32) => gd (1000 ≤ a1 ∧ a1 < 1037) (br ((Int32.ofNat (strB (a1 - 1000)).length) ≤ v8) (some (1 : Int32)) (gN (y.2.1 a0 0) (gK y (y.2.1 a0 0) (0, 9) (cp (f_X9_byteAt y (y.2.1 a0 0) ((M.1 a0 3) + v8) M) fun (r16 : Int32) => gd (1000 ≤ a1 ∧ a1 < 1037) (gd (¬ (v8 < 0 ∨ (strB (a1 - 1000)).length ≤ v8.toNatClampNeg)) (br (r16 = ((strB (a1 - 1000)).getD v8.toNatClampNeg 0)) (lt (v8 + (1 : Int32)) fun (v21 : Int32) => s9 v21) (some (0 : Int32))))))))) FUEL (0 : Int32)) (j2 ()))) (j2 ()))
theorem w_X10_isWord {g : GX} {l : Launch} (hG : GF g l) (y : Lay) (a0 : Nat) (a1 : Nat) (M : Mem) : C0 g l yX10_isWord cX10_isWord 3 (some .boolean) 4 y [.ref a0, .ref a1] M (pm M (f_X10_isWord y a0 a1 M)) := by
  refine CP_of hG (by decide) [some (.ref a0), some (.ref a1), none] rfl rfl (fun out h x Q C R => ?_)
  unfold f_X10_isWord at h
  refine g_aload_n C tb_X10_isWord_0_ok (i := 0) rfl rfl ?_
  obtain ⟨k1, h⟩ := gK_e h
  refine g_getI C tb_X10_isWord_0_ok (i := 1) rfl fl_X10_47 rfl k1 ?_
  refine g_bipushv C tb_X10_isWord_0_ok (i := 2) (-2) rfl k_bipushv_m2 ?_
  obtain ⟨j2, ej2, h⟩ := jn_e h
  have J25 : ∀ (_u : Unit), j2 _u = some out → GG g x 3 Q 0 0 y M 25 [none, none, none] [] := by
    intro _u h; subst ej2
    refine g_iconstv C tb_X10_isWord_0_ok (i := 12) 0 rfl k_iconstv_0 ?_
    cases h
    exact g_zret0 C R (by decide) tb_X10_isWord_0_ok (i := 13) rfl
  obtain ⟨t3, f4⟩ := br_e h
  refine g_icmp_ne C tb_X10_isWord_0_ok (i := 3) 25 rfl rfl (fun c => ?_) (fun c => ?_)
  · have h := f4 c
    exact g_less (L' := [none, none, none]) trivial (J25 () h)
  · have h := t3 c
    refine g_aload_n C tb_X10_isWord_0_ok (i := 4) rfl rfl ?_
    refine g_getI C tb_X10_isWord_0_ok (i := 5) rfl fl_X10_19 rfl k1 ?_
    refine g_aload_n C tb_X10_isWord_0_ok (i := 6) rfl rfl ?_
    refine g_getI C tb_X10_isWord_0_ok (i := 7) rfl fl_X10_31 rfl k1 ?_
    refine g_isub C tb_X10_isWord_0_ok (i := 8) rfl ?_
    refine g_aload_n C tb_X10_isWord_0_ok (i := 9) rfl rfl ?_
    obtain ⟨g5, h⟩ := gd_e h
    refine g_strLen C tb_X10_isWord_0_ok (i := 10) rfl sl_X10_56 rfl rfl rfl rfl g5 ?_
    obtain ⟨t6, f7⟩ := br_e h
    refine g_icmp_eq C tb_X10_isWord_0_ok (i := 11) 27 rfl rfl (fun c => ?_) (fun c => ?_)
    · have h := t6 c
      refine g_iconstv C tb_X10_isWord_0_ok (i := 14) 0 rfl k_iconstv_0 ?_
      refine g_istore_n C tb_X10_isWord_0_ok (i := 15) rfl rfl rfl ?_
      refine g_less (L' := [some (.ref a0), some (.ref a1), some (.int (0 : Int32))]) ⟨rfl, ⟨rfl, ⟨rfl, trivial⟩⟩⟩ ?_
      refine fix_i (P := fun (f : Int32 → Option Int32) => ∀ (v8 : Int32), f v8 = some out → GG g x 3 Q 0 0 y M 29 [some (.ref a0), some (.ref a1), some (.int v8)] []) ?_ ?_ _ (0 : Int32) h
      · intro v8 h; exact (nn_e h).elim
      · intro s9 ih10 v8 h
        refine g_iload_n C tb_X10_isWord_0_ok (i := 16) rfl rfl ?_
        refine g_aload_n C tb_X10_isWord_0_ok (i := 17) rfl rfl ?_
        obtain ⟨g11, h⟩ := gd_e h
        refine g_strLen C tb_X10_isWord_0_ok (i := 18) rfl sl_X10_56 rfl rfl rfl rfl g11 ?_
        obtain ⟨t12, f13⟩ := br_e h
        refine g_icmp_ge C tb_X10_isWord_0_ok (i := 19) 66 rfl rfl (fun c => ?_) (fun c => ?_)
        · have h := t12 c
          refine g_iconstv C tb_X10_isWord_0_ok (i := 35) 1 rfl k_iconstv_1 ?_
          cases h
          exact g_zret0 C R (by decide) tb_X10_isWord_0_ok (i := 36) rfl
        · have h := f13 c
          refine g_aload_n C tb_X10_isWord_0_ok (i := 20) rfl rfl ?_
          obtain ⟨n14, h⟩ := gN_e h
          refine g_getR C tb_X10_isWord_0_ok (i := 21) rfl fl_X10_9 rfl k1 n14 ?_
          refine g_aload_n C tb_X10_isWord_0_ok (i := 22) rfl rfl ?_
          refine g_getI C tb_X10_isWord_0_ok (i := 23) rfl fl_X10_31 rfl k1 ?_
          refine g_iload_n C tb_X10_isWord_0_ok (i := 24) rfl rfl ?_
          refine g_iadd C tb_X10_isWord_0_ok (i := 25) rfl ?_
          obtain ⟨k15, h⟩ := gK_e h
          obtain ⟨r16, er16, h⟩ := cp_e h
          refine g_callV0 C tb_X10_isWord_0_ok (i := 26) [.int ((M.1 a0 3) + v8)] rfl mw_X9_byteAt mv_X9_byteAt ml_X10_34 k15 rfl rfl rfl rfl (w_X9_byteAt C.G y (y.2.1 a0 0) ((M.1 a0 3) + v8) M) (pm_s er16) rfl rfl rfl ?_
          refine g_aload_n C tb_X10_isWord_0_ok (i := 27) rfl rfl ?_
          refine g_iload_n C tb_X10_isWord_0_ok (i := 28) rfl rfl ?_
          obtain ⟨g17, h⟩ := gd_e h
          obtain ⟨g18, h⟩ := gd_e h
          refine g_strCh C tb_X10_isWord_0_ok (i := 29) rfl sl_X10_62 rfl rfl rfl rfl g17 g18 ?_
          obtain ⟨t19, f20⟩ := br_e h
          refine g_icmp_eq C tb_X10_isWord_0_ok (i := 30) 60 rfl rfl (fun c => ?_) (fun c => ?_)
          · have h := t19 c
            obtain ⟨v21, ev21⟩ : ∃ w : Int32, w = v8 + (1 : Int32) := ⟨_, rfl⟩
            have h := lt_e ev21 h
            refine g_iincv C tb_X10_isWord_0_ok (i := 33) (1 : Int32) ev21 rfl rfl k_iconstv_1 rfl rfl ?_
            refine g_goto C tb_X10_isWord_0_ok (i := 34) 29 rfl rfl ?_
            exact g_less (L' := [some (.ref a0), some (.ref a1), some (.int v21)]) ⟨rfl, ⟨rfl, ⟨rfl, trivial⟩⟩⟩ (ih10 v21 h)
          · have h := f20 c
            refine g_iconstv C tb_X10_isWord_0_ok (i := 31) 0 rfl k_iconstv_0 ?_
            cases h
            exact g_zret0 C R (by decide) tb_X10_isWord_0_ok (i := 32) rfl
    · have h := f7 c
      exact g_less (L' := [none, none, none]) trivial (J25 () h)
def f_X10_refuse (y : Lay) (a0 : Nat) (a1 : Int32) (M : Mem) : Option (Int32 × Mem) := gK y a0 (0, 10) (jn (fun (M2 : Mem) => some ((0 : Int32), M2)) fun j3 => br ((M.1 a0 6) = 0) (lt (wI M a0 6 a1) fun (M6 : Mem) => lt (wI M6 a0 7 (M6.1 a0 3)) fun (M7 : Mem) => j3 M7) (j3 M))
theorem w_X10_refuse {g : GX} {l : Launch} (hG : GF g l) (y : Lay) (a0 : Nat) (a1 : Int32) (M : Mem) : C0 g l yX10_refuse cX10_refuse 2 (some .boolean) 0 y [.ref a0, .int a1] M (f_X10_refuse y a0 a1 M) := by
  refine C0_of hG (by decide) [some (.ref a0), some (.int a1)] rfl rfl (fun out h x Q C R => ?_)
  unfold f_X10_refuse at h
  refine g_aload_n C tb_X10_refuse_0_ok (i := 0) rfl rfl ?_
  obtain ⟨k1, h⟩ := gK_e h
  refine g_getI C tb_X10_refuse_0_ok (i := 1) rfl fl_X10_22 rfl k1 ?_
  obtain ⟨j3, ej3, h⟩ := jn_e h
  have J20 : ∀ (M2 : Mem), j3 M2 = some out → GG g x 2 Q 0 0 y M2 20 [none, none] [] := by
    intro M2 h; subst ej3
    refine g_iconstv C tb_X10_refuse_0_ok (i := 10) 0 rfl k_iconstv_0 ?_
    cases h
    exact g_zret0 C R (by decide) tb_X10_refuse_0_ok (i := 11) rfl
  obtain ⟨t4, f5⟩ := br_e h
  refine g_if_ne C tb_X10_refuse_0_ok (i := 2) 20 rfl rfl (fun c => ?_) (fun c => ?_)
  · have h := f5 c
    exact g_less (L' := [none, none]) trivial (J20 M h)
  · have h := t4 c
    refine g_aload_n C tb_X10_refuse_0_ok (i := 3) rfl rfl ?_
    refine g_iload_n C tb_X10_refuse_0_ok (i := 4) rfl rfl ?_
    refine g_putI C tb_X10_refuse_0_ok (i := 5) rfl fl_X10_22 ft_10_6 rfl k1 ?_
    refine g_mem (fun M6 eM6 => ?_)
    have h := lt_e eM6 h
    refine g_aload_n C tb_X10_refuse_0_ok (i := 6) rfl rfl ?_
    refine g_aload_n C tb_X10_refuse_0_ok (i := 7) rfl rfl ?_
    refine g_getI C tb_X10_refuse_0_ok (i := 8) rfl fl_X10_31 rfl k1 ?_
    refine g_putI C tb_X10_refuse_0_ok (i := 9) rfl fl_X10_25 ft_10_7 rfl k1 ?_
    refine g_mem (fun M7 eM7 => ?_)
    have h := lt_e eM7 h
    exact g_less (L' := [none, none]) trivial (J20 M7 h)
def f_X2_passesOnce (y : Lay) (a0 : Nat) (a1 : Int32) (M : Mem) : Option (Int32 × Mem) := gK y a0 (0, 2) (br (((M.1 a0 4) &&& a1) = 0) (lt (wI M a0 4 ((M.1 a0 4) ||| a1)) fun (M4 : Mem) => gN (y.2.1 a0 0) (gK y (y.2.1 a0 0) (0, 10) (c0 (f_X10_advance y (y.2.1 a0 0) M4) fun (r7 : Int32) (M8 : Mem) => some ((1 : Int32), M8)))) (gN (y.2.1 a0 0) (gK y (y.2.1 a0 0) (0, 10) (c0 (f_X10_refuse y (y.2.1 a0 0) (5 : Int32) M) fun (r11 : Int32) (M12 : Mem) => gd (r11 = 0 ∨ r11 = 1) (some (r11, M12))))))
theorem w_X2_passesOnce {g : GX} {l : Launch} (hG : GF g l) (y : Lay) (a0 : Nat) (a1 : Int32) (M : Mem) : C0 g l yX2_passesOnce cX2_passesOnce 2 (some .boolean) 2 y [.ref a0, .int a1] M (f_X2_passesOnce y a0 a1 M) := by
  refine C0_of hG (by decide) [some (.ref a0), some (.int a1)] rfl rfl (fun out h x Q C R => ?_)
  unfold f_X2_passesOnce at h
  refine g_aload_n C tb_X2_passesOnce_0_ok (i := 0) rfl rfl ?_
  obtain ⟨k1, h⟩ := gK_e h
  refine g_getI C tb_X2_passesOnce_0_ok (i := 1) rfl fl_X2_53 rfl k1 ?_
  refine g_iload_n C tb_X2_passesOnce_0_ok (i := 2) rfl rfl ?_
  refine g_iand C tb_X2_passesOnce_0_ok (i := 3) rfl ?_
  obtain ⟨t2, f3⟩ := br_e h
  refine g_if_eq C tb_X2_passesOnce_0_ok (i := 4) 18 rfl rfl (fun c => ?_) (fun c => ?_)
  · have h := t2 c
    refine g_aload_n C tb_X2_passesOnce_0_ok (i := 10) rfl rfl ?_
    refine g_dup C tb_X2_passesOnce_0_ok (i := 11) rfl rfl ?_
    refine g_getI C tb_X2_passesOnce_0_ok (i := 12) rfl fl_X2_53 rfl k1 ?_
    refine g_iload_n C tb_X2_passesOnce_0_ok (i := 13) rfl rfl ?_
    refine g_ior C tb_X2_passesOnce_0_ok (i := 14) rfl ?_
    refine g_putI C tb_X2_passesOnce_0_ok (i := 15) rfl fl_X2_53 ft_2_4 rfl k1 ?_
    refine g_mem (fun M4 eM4 => ?_)
    have h := lt_e eM4 h
    refine g_aload_n C tb_X2_passesOnce_0_ok (i := 16) rfl rfl ?_
    obtain ⟨n5, h⟩ := gN_e h
    refine g_getR C tb_X2_passesOnce_0_ok (i := 17) rfl fl_X2_32 rfl k1 n5 ?_
    obtain ⟨k6, h⟩ := gK_e h
    obtain ⟨r7, M8, er7, h⟩ := c0_e h
    refine g_callV0 C tb_X2_passesOnce_0_ok (i := 18) [] rfl mw_X10_advance mv_X10_advance ml_X2_149 k6 rfl rfl rfl rfl (w_X10_advance C.G y (y.2.1 a0 0) M4) er7 rfl rfl rfl ?_
    refine g_iconstv C tb_X2_passesOnce_0_ok (i := 19) 1 rfl k_iconstv_1 ?_
    cases h
    exact g_zret0 C R (by decide) tb_X2_passesOnce_0_ok (i := 20) rfl
  · have h := f3 c
    refine g_aload_n C tb_X2_passesOnce_0_ok (i := 5) rfl rfl ?_
    obtain ⟨n9, h⟩ := gN_e h
    refine g_getR C tb_X2_passesOnce_0_ok (i := 6) rfl fl_X2_32 rfl k1 n9 ?_
    refine g_iconstv C tb_X2_passesOnce_0_ok (i := 7) 5 rfl k_iconstv_5 ?_
    obtain ⟨k10, h⟩ := gK_e h
    obtain ⟨r11, M12, er11, h⟩ := c0_e h
    refine g_callV0 C tb_X2_passesOnce_0_ok (i := 8) [.int (5 : Int32)] rfl mw_X10_refuse mv_X10_refuse ml_X2_131 k10 rfl rfl rfl rfl (w_X10_refuse C.G y (y.2.1 a0 0) (5 : Int32) M) er11 rfl rfl rfl ?_
    obtain ⟨hz, h⟩ := gd_e h
    cases h
    exact g_zret0 C R hz tb_X2_passesOnce_0_ok (i := 9) rfl
