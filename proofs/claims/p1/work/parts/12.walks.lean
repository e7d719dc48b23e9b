def f_X1_cells (y : Lay) (a0 : Nat) (M : Mem) : Option Int32 := gK y a0 (0, 1) (some ((M.1 a0 0) * (M.1 a0 1)))
theorem w_X1_cells {g : GX} {l : Launch} (hG : GF g l) (y : Lay) (a0 : Nat) (M : Mem) : C0 g l yX1_cells cX1_cells 1 (some .int) 0 y [.ref a0] M (pm M (f_X1_cells y a0 M)) := by
  refine CP_of hG (by decide) [some (.ref a0)] rfl rfl (fun out h x Q C R => ?_)
  unfold f_X1_cells at h
  refine g_aload_n C tb_X1_cells_0_ok (i := 0) rfl rfl ?_
  obtain ⟨k1, h⟩ := gK_e h
  refine g_getI C tb_X1_cells_0_ok (i := 1) rfl fl_X1_48 rfl k1 ?_
  refine g_aload_n C tb_X1_cells_0_ok (i := 2) rfl rfl ?_
  refine g_getI C tb_X1_cells_0_ok (i := 3) rfl fl_X1_51 rfl k1 ?_
  refine g_imul C tb_X1_cells_0_ok (i := 4) rfl ?_
  cases h
  exact g_iret0 C R tb_X1_cells_0_ok (i := 5) rfl
def f_X1_columnOf (y : Lay) (a0 : Nat) (a1 : Int32) (M : Mem) : Option Int32 := gK y a0 (0, 1) (jn (fun (v2 : Int32) => some v2) fun j3 => br ((M.1 a0 0) ≤ 0) (j3 (0 : Int32)) (gd (¬ (M.1 a0 0) = 0) (j3 (a1 - a1 / (M.1 a0 0) * (M.1 a0 0)))))
theorem w_X1_columnOf {g : GX} {l : Launch} (hG : GF g l) (y : Lay) (a0 : Nat) (a1 : Int32) (M : Mem) : C0 g l yX1_columnOf cX1_columnOf 2 (some .int) 0 y [.ref a0, .int a1] M (pm M (f_X1_columnOf y a0 a1 M)) := by
  refine CP_of hG (by decide) [some (.ref a0), some (.int a1)] rfl rfl (fun out h x Q C R => ?_)
  unfold f_X1_columnOf at h
  refine g_aload_n C tb_X1_columnOf_0_ok (i := 0) rfl rfl ?_
  obtain ⟨k1, h⟩ := gK_e h
  refine g_getI C tb_X1_columnOf_0_ok (i := 1) rfl fl_X1_48 rfl k1 ?_
  obtain ⟨j3, ej3, h⟩ := jn_e h
  have J17 : ∀ (v2 : Int32), j3 v2 = some out → GG g x 2 Q 0 0 y M 17 [none, none] [.int v2] := by
    intro v2 h; subst ej3
    cases h
    exact g_iret0 C R tb_X1_columnOf_0_ok (i := 9) rfl
  obtain ⟨t4, f5⟩ := br_e h
  refine g_if_le C tb_X1_columnOf_0_ok (i := 2) 16 rfl rfl (fun c => ?_) (fun c => ?_)
  · have h := t4 c
    refine g_iconstv C tb_X1_columnOf_0_ok (i := 8) 0 rfl k_iconstv_0 ?_
    exact g_less (L' := [none, none]) trivial (J17 (0 : Int32) h)
  · have h := f5 c
    refine g_iload_n C tb_X1_columnOf_0_ok (i := 3) rfl rfl ?_
    refine g_aload_n C tb_X1_columnOf_0_ok (i := 4) rfl rfl ?_
    refine g_getI C tb_X1_columnOf_0_ok (i := 5) rfl fl_X1_48 rfl k1 ?_
    obtain ⟨n6, h⟩ := gd_e h
    refine g_irem C tb_X1_columnOf_0_ok (i := 6) rfl n6 ?_
    refine g_goto C tb_X1_columnOf_0_ok (i := 7) 17 rfl rfl ?_
    exact g_less (L' := [none, none]) trivial (J17 (a1 - a1 / (M.1 a0 0) * (M.1 a0 0)) h)
def f_X1_bitsBeside (y : Lay) (a0 : Nat) (a1 : Int32) (M : Mem) : Option Int32 := gK y a0 (0, 1) (jn (fun (v2 : Int32) => cp (f_X1_cells y a0 M) fun (r4 : Int32) => jn (fun (v5 : Int32) => cp (f_X1_columnOf y a0 a1 M) fun (r7 : Int32) => jn (fun (v8 : Int32) => cp (f_X1_columnOf y a0 a1 M) fun (r10 : Int32) => jn (fun (v11 : Int32) => some v11) fun j12 => br (((M.1 a0 0) - (1 : Int32)) ≤ r10) (j12 v8) (lt (v8 ||| ((1 : Int32) <<< ((a1 + (1 : Int32)) &&& 31))) fun (v15 : Int32) => j12 v15)) fun j9 => br (r7 ≤ 0) (j9 v5) (lt (v5 ||| ((1 : Int32) <<< ((a1 - (1 : Int32)) &&& 31))) fun (v18 : Int32) => j9 v18)) fun j6 => br (r4 ≤ (a1 + (M.1 a0 0))) (j6 v2) (lt (v2 ||| ((1 : Int32) <<< ((a1 + (M.1 a0 0)) &&& 31))) fun (v21 : Int32) => j6 v21)) fun j3 => br (a1 < (M.1 a0 0)) (j3 (0 : Int32)) (lt ((0 : Int32) ||| ((1 : Int32) <<< ((a1 - (M.1 a0 0)) &&& 31))) fun (v24 : Int32) => j3 v24))
theorem w_X1_bitsBeside {g : GX} {l : Launch} (hG : GF g l) (y : Lay) (a0 : Nat) (a1 : Int32) (M : Mem) : C0 g l yX1_bitsBeside cX1_bitsBeside 3 (some .int) 1 y [.ref a0, .int a1] M (pm M (f_X1_bitsBeside y a0 a1 M)) := by
  refine CP_of hG (by decide) [some (.ref a0), some (.int a1), none] rfl rfl (fun out h x Q C R => ?_)
  unfold f_X1_bitsBeside at h
  refine g_iconstv C tb_X1_bitsBeside_0_ok (i := 0) 0 rfl k_iconstv_0 ?_
  refine g_istore_n C tb_X1_bitsBeside_0_ok (i := 1) rfl rfl rfl ?_
  refine g_iload_n C tb_X1_bitsBeside_0_ok (i := 2) rfl rfl ?_
  refine g_aload_n C tb_X1_bitsBeside_0_ok (i := 3) rfl rfl ?_
  obtain ⟨k1, h⟩ := gK_e h
  refine g_getI C tb_X1_bitsBeside_0_ok (i := 4) rfl fl_X1_48 rfl k1 ?_
  obtain ⟨j3, ej3, h⟩ := jn_e h
  have J21 : ∀ (v2 : Int32), j3 v2 = some out → GG g x 3 Q 0 0 y M 21 [some (.ref a0), some (.int a1), some (.int v2)] [] := by
    intro v2 h; subst ej3
    refine g_iload_n C tb_X1_bitsBeside_0_ok (i := 15) rfl rfl ?_
    refine g_aload_n C tb_X1_bitsBeside_0_ok (i := 16) rfl rfl ?_
    refine g_getI C tb_X1_bitsBeside_0_ok (i := 17) rfl fl_X1_48 rfl k1 ?_
    refine g_iadd C tb_X1_bitsBeside_0_ok (i := 18) rfl ?_
    refine g_aload_n C tb_X1_bitsBeside_0_ok (i := 19) rfl rfl ?_
    obtain ⟨r4, er4, h⟩ := cp_e h
    refine g_callV0 C tb_X1_bitsBeside_0_ok (i := 20) [] rfl mw_X1_cells mv_X1_cells ml_X1_54 k1 rfl rfl rfl rfl (w_X1_cells C.G y a0 M) (pm_s er4) rfl rfl rfl ?_
    obtain ⟨j6, ej6, h⟩ := jn_e h
    have J45 : ∀ (v5 : Int32), j6 v5 = some out → GG g x 3 Q 0 0 y M 45 [some (.ref a0), some (.int a1), some (.int v5)] [] := by
      intro v5 h; subst ej6
      refine g_aload_n C tb_X1_bitsBeside_0_ok (i := 31) rfl rfl ?_
      refine g_iload_n C tb_X1_bitsBeside_0_ok (i := 32) rfl rfl ?_
      obtain ⟨r7, er7, h⟩ := cp_e h
      refine g_callV0 C tb_X1_bitsBeside_0_ok (i := 33) [.int a1] rfl mw_X1_columnOf mv_X1_columnOf ml_X1_62 k1 rfl rfl rfl rfl (w_X1_columnOf C.G y a0 a1 M) (pm_s er7) rfl rfl rfl ?_
      obtain ⟨j9, ej9, h⟩ := jn_e h
      have J61 : ∀ (v8 : Int32), j9 v8 = some out → GG g x 3 Q 0 0 y M 61 [some (.ref a0), some (.int a1), some (.int v8)] [] := by
        intro v8 h; subst ej9
        refine g_aload_n C tb_X1_bitsBeside_1_ok (i := 3) rfl rfl ?_
        refine g_iload_n C tb_X1_bitsBeside_1_ok (i := 4) rfl rfl ?_
        obtain ⟨r10, er10, h⟩ := cp_e h
        refine g_callV0 C tb_X1_bitsBeside_1_ok (i := 5) [.int a1] rfl mw_X1_columnOf mv_X1_columnOf ml_X1_62 k1 rfl rfl rfl rfl (w_X1_columnOf C.G y a0 a1 M) (pm_s er10) rfl rfl rfl ?_
        refine g_aload_n C tb_X1_bitsBeside_1_ok (i := 6) rfl rfl ?_
        refine g_getI C tb_X1_bitsBeside_1_ok (i := 7) rfl fl_X1_48 rfl k1 ?_
        refine g_iconstv C tb_X1_bitsBeside_1_ok (i := 8) 1 rfl k_iconstv_1 ?_
        refine g_isub C tb_X1_bitsBeside_1_ok (i := 9) rfl ?_
        obtain ⟨j12, ej12, h⟩ := jn_e h
        have J83 : ∀ (v11 : Int32), j12 v11 = some out → GG g x 3 Q 0 0 y M 83 [none, none, some (.int v11)] [] := by
          intro v11 h; subst ej12
          refine g_iload_n C tb_X1_bitsBeside_1_ok (i := 19) rfl rfl ?_
          cases h
          exact g_iret0 C R tb_X1_bitsBeside_1_ok (i := 20) rfl
        obtain ⟨t13, f14⟩ := br_e h
        refine g_icmp_ge C tb_X1_bitsBeside_1_ok (i := 10) 83 rfl rfl (fun c => ?_) (fun c => ?_)
        · have h := t13 c
          exact g_less (L' := [none, none, some (.int v8)]) ⟨rfl, trivial⟩ (J83 v8 h)
        · have h := f14 c
          refine g_iload_n C tb_X1_bitsBeside_1_ok (i := 11) rfl rfl ?_
          refine g_iconstv C tb_X1_bitsBeside_1_ok (i := 12) 1 rfl k_iconstv_1 ?_
          refine g_iload_n C tb_X1_bitsBeside_1_ok (i := 13) rfl rfl ?_
          refine g_iconstv C tb_X1_bitsBeside_1_ok (i := 14) 1 rfl k_iconstv_1 ?_
          refine g_iadd C tb_X1_bitsBeside_1_ok (i := 15) rfl ?_
          refine g_ishl C tb_X1_bitsBeside_1_ok (i := 16) rfl ?_
          refine g_ior C tb_X1_bitsBeside_1_ok (i := 17) rfl ?_
          refine g_topi (fun v15 ev15 => ?_)
          have h := lt_e ev15 h
          refine g_istore_n C tb_X1_bitsBeside_1_ok (i := 18) rfl rfl rfl ?_
          exact g_less (L' := [none, none, some (.int v15)]) ⟨rfl, trivial⟩ (J83 v15 h)
      obtain ⟨t16, f17⟩ := br_e h
      refine g_if_le C tb_X1_bitsBeside_0_ok (i := 34) 61 rfl rfl (fun c => ?_) (fun c => ?_)
      · have h := t16 c
        exact g_less (L' := [some (.ref a0), some (.int a1), some (.int v5)]) ⟨rfl, ⟨rfl, ⟨rfl, trivial⟩⟩⟩ (J61 v5 h)
      · have h := f17 c
        refine g_iload_n C tb_X1_bitsBeside_0_ok (i := 35) rfl rfl ?_
        refine g_iconstv C tb_X1_bitsBeside_0_ok (i := 36) 1 rfl k_iconstv_1 ?_
        refine g_iload_n C tb_X1_bitsBeside_0_ok (i := 37) rfl rfl ?_
        refine g_iconstv C tb_X1_bitsBeside_0_ok (i := 38) 1 rfl k_iconstv_1 ?_
        refine g_isub C tb_X1_bitsBeside_0_ok (i := 39) rfl ?_
        refine g_ishl C tb_X1_bitsBeside_1_ok (i := 0) rfl ?_
        refine g_ior C tb_X1_bitsBeside_1_ok (i := 1) rfl ?_
        refine g_topi (fun v18 ev18 => ?_)
        have h := lt_e ev18 h
        refine g_istore_n C tb_X1_bitsBeside_1_ok (i := 2) rfl rfl rfl ?_
        exact g_less (L' := [some (.ref a0), some (.int a1), some (.int v18)]) ⟨rfl, ⟨rfl, ⟨rfl, trivial⟩⟩⟩ (J61 v18 h)
    obtain ⟨t19, f20⟩ := br_e h
    refine g_icmp_ge C tb_X1_bitsBeside_0_ok (i := 21) 45 rfl rfl (fun c => ?_) (fun c => ?_)
    · have h := t19 c
      exact g_less (L' := [some (.ref a0), some (.int a1), some (.int v2)]) ⟨rfl, ⟨rfl, ⟨rfl, trivial⟩⟩⟩ (J45 v2 h)
    · have h := f20 c
      refine g_iload_n C tb_X1_bitsBeside_0_ok (i := 22) rfl rfl ?_
      refine g_iconstv C tb_X1_bitsBeside_0_ok (i := 23) 1 rfl k_iconstv_1 ?_
      refine g_iload_n C tb_X1_bitsBeside_0_ok (i := 24) rfl rfl ?_
      refine g_aload_n C tb_X1_bitsBeside_0_ok (i := 25) rfl rfl ?_
      refine g_getI C tb_X1_bitsBeside_0_ok (i := 26) rfl fl_X1_48 rfl k1 ?_
      refine g_iadd C tb_X1_bitsBeside_0_ok (i := 27) rfl ?_
      refine g_ishl C tb_X1_bitsBeside_0_ok (i := 28) rfl ?_
      refine g_ior C tb_X1_bitsBeside_0_ok (i := 29) rfl ?_
      refine g_topi (fun v21 ev21 => ?_)
      have h := lt_e ev21 h
      refine g_istore_n C tb_X1_bitsBeside_0_ok (i := 30) rfl rfl rfl ?_
      exact g_less (L' := [some (.ref a0), some (.int a1), some (.int v21)]) ⟨rfl, ⟨rfl, ⟨rfl, trivial⟩⟩⟩ (J45 v21 h)
  obtain ⟨t22, f23⟩ := br_e h
  refine g_icmp_lt C tb_X1_bitsBeside_0_ok (i := 5) 21 rfl rfl (fun c => ?_) (fun c => ?_)
  · have h := t22 c
    exact g_less (L' := [some (.ref a0), some (.int a1), some (.int (0 : Int32))]) ⟨rfl, ⟨rfl, ⟨rfl, trivial⟩⟩⟩ (J21 (0 : Int32) h)
  · have h := f23 c
    refine g_iload_n C tb_X1_bitsBeside_0_ok (i := 6) rfl rfl ?_
    refine g_iconstv C tb_X1_bitsBeside_0_ok (i := 7) 1 rfl k_iconstv_1 ?_
    refine g_iload_n C tb_X1_bitsBeside_0_ok (i := 8) rfl rfl ?_
    refine g_aload_n C tb_X1_bitsBeside_0_ok (i := 9) rfl rfl ?_
    refine g_getI C tb_X1_bitsBeside_0_ok (i := 10) rfl fl_X1_48 rfl k1 ?_
    refine g_isub C tb_X1_bitsBeside_0_ok (i := 11) rfl ?_
    refine g_ishl C tb_X1_bitsBeside_0_ok (i := 12) rfl ?_
    refine g_ior C tb_X1_bitsBeside_0_ok (i := 13) rfl ?_
    refine g_topi (fun v24 ev24 => ?_)
    have h := lt_e ev24 h
    refine g_istore_n C tb_X1_bitsBeside_0_ok (i := 14) rfl rfl rfl ?_
    exact g_less (L' := [some (.ref a0), some (.int a1), some (.int v24)]) ⟨rfl, ⟨rfl, ⟨rfl, trivial⟩⟩⟩ (J21 v24 h)
def f_X1_shape (y : Lay) (a0 : Nat) (a1 : Int32) (a2 : Int32) (M : Mem) : Option (Int32 × Mem) := gK y a0 (0, 1) (lt (wI M a0 0 a1) fun (M2 : Mem) => lt (wI M2 a0 1 a2) fun (M3 : Mem) => fixN (fun _ _ => none) (fun (s6 : Int32 → Mem → Option (Int32 × Mem)) (v4 : Int32) (M5 : Mem) => br ((30 : Int32) ≤ v4) (some (0, M5)) (gN (y.2.1 a0 6) (cp (f_X1_cells y a0 M5) fun (r11 : Int32) => jn (fun (v12 : Int32) => gA y (y.2.1 a0 6) 1 v4 (lt (wI M5 (y.2.1 a0 6) v4.toNatClampNeg v12) fun (M15 : Mem) => lt (v4 + (1 : Int32)) fun (v16 : Int32) => s6 v16 M15)) fun j13 => br (r11 ≤ v4) (j13 (0 : Int32)) (cp (f_X1_bitsBeside y a0 v4 M5) fun (r19 : Int32) => j13 r19)))) FUEL (0 : Int32) M3)
theorem w_X1_shape {g : GX} {l : Launch} (hG : GF g l) (y : Lay) (a0 : Nat) (a1 : Int32) (a2 : Int32) (M : Mem) : C0 g l yX1_shape cX1_shape 4 none 2 y [.ref a0, .int a1, .int a2] M (f_X1_shape y a0 a1 a2 M) := by
  refine C0_of hG (by decide) [some (.ref a0), some (.int a1), some (.int a2), none] rfl rfl (fun out h x Q C R => ?_)
  unfold f_X1_shape at h
  refine g_aload_n C tb_X1_shape_0_ok (i := 0) rfl rfl ?_
  refine g_iload_n C tb_X1_shape_0_ok (i := 1) rfl rfl ?_
  obtain ⟨k1, h⟩ := gK_e h
  refine g_putI C tb_X1_shape_0_ok (i := 2) rfl fl_X1_48 ft_1_0 rfl k1 ?_
  refine g_mem (fun M2 eM2 => ?_)
  have h := lt_e eM2 h
  refine g_aload_n C tb_X1_shape_0_ok (i := 3) rfl rfl ?_
  refine g_iload_n C tb_X1_shape_0_ok (i := 4) rfl rfl ?_
  refine g_putI C tb_X1_shape_0_ok (i := 5) rfl fl_X1_51 ft_1_1 rfl k1 ?_
  refine g_mem (fun M3 eM3 => ?_)
  have h := lt_e eM3 h
  refine g_iconstv C tb_X1_shape_0_ok (i := 6) 0 rfl k_iconstv_0 ?_
  refine g_istore_n C tb_X1_shape_0_ok (i := 7) rfl rfl rfl ?_
  refine g_less (L' := [some (.ref a0), none, none, some (.int (0 : Int32))]) ⟨rfl, ⟨rfl, trivial⟩⟩ ?_
  refine fix_i (P := fun (f : Int32 → Mem → Option (Int32 × Mem)) => ∀ (v4 : Int32) (M5 : Mem), f v4 M5 = some out → GG g x 4 Q 0 0 y M5 12 [some (.ref a0), none, none, some (.int v4)] []) ?_ ?_ _ (0 : Int32) M3 h
  · intro v4 M5 h; exact (nn_e h).elim
  · intro s6 ih7 v4 M5 h
    refine g_iload_n C tb_X1_shape_0_ok (i := 8) rfl rfl ?_
    refine g_bipushv C tb_X1_shape_0_ok (i := 9) 30 rfl k_bipushv_30 ?_
    obtain ⟨t8, f9⟩ := br_e h
    refine g_icmp_ge C tb_X1_shape_0_ok (i := 10) 47 rfl rfl (fun c => ?_) (fun c => ?_)
    · have h := t8 c
      cases h
      exact g_vret0 C R tb_X1_shape_0_ok (i := 26) rfl
    · have h := f9 c
      refine g_aload_n C tb_X1_shape_0_ok (i := 11) rfl rfl ?_
      obtain ⟨n10, h⟩ := gN_e h
      refine g_getR C tb_X1_shape_0_ok (i := 12) rfl fl_X1_9 rfl k1 n10 ?_
      refine g_iload_n C tb_X1_shape_0_ok (i := 13) rfl rfl ?_
      refine g_iload_n C tb_X1_shape_0_ok (i := 14) rfl rfl ?_
      refine g_aload_n C tb_X1_shape_0_ok (i := 15) rfl rfl ?_
      obtain ⟨r11, er11, h⟩ := cp_e h
      refine g_callV0 C tb_X1_shape_0_ok (i := 16) [] rfl mw_X1_cells mv_X1_cells ml_X1_54 k1 rfl rfl rfl rfl (w_X1_cells C.G y a0 M5) (pm_s er11) rfl rfl rfl ?_
      obtain ⟨j13, ej13, h⟩ := jn_e h
      have J40 : ∀ (v12 : Int32), j13 v12 = some out → GG g x 4 Q 0 0 y M5 40 [some (.ref a0), none, none, some (.int v4)] [.int v12, .int v4, .ref (y.2.1 a0 6)] := by
        intro v12 h; subst ej13
        obtain ⟨b14, h⟩ := gA_e h
        refine g_iast C tb_X1_shape_0_ok (i := 23) rfl b14 ?_
        refine g_mem (fun M15 eM15 => ?_)
        have h := lt_e eM15 h
        obtain ⟨v16, ev16⟩ : ∃ w : Int32, w = v4 + (1 : Int32) := ⟨_, rfl⟩
        have h := lt_e ev16 h
        refine g_iincv C tb_X1_shape_0_ok (i := 24) (1 : Int32) ev16 rfl rfl k_iconstv_1 rfl rfl ?_
        refine g_goto C tb_X1_shape_0_ok (i := 25) 12 rfl rfl ?_
        exact g_less (L' := [some (.ref a0), none, none, some (.int v16)]) ⟨rfl, ⟨rfl, trivial⟩⟩ (ih7 v16 M15 h)
      obtain ⟨t17, f18⟩ := br_e h
      refine g_icmp_ge C tb_X1_shape_0_ok (i := 17) 39 rfl rfl (fun c => ?_) (fun c => ?_)
      · have h := t17 c
        refine g_iconstv C tb_X1_shape_0_ok (i := 22) 0 rfl k_iconstv_0 ?_
        exact g_less (L' := [some (.ref a0), none, none, some (.int v4)]) ⟨rfl, ⟨rfl, trivial⟩⟩ (J40 (0 : Int32) h)
      · have h := f18 c
        refine g_aload_n C tb_X1_shape_0_ok (i := 18) rfl rfl ?_
        refine g_iload_n C tb_X1_shape_0_ok (i := 19) rfl rfl ?_
        obtain ⟨r19, er19, h⟩ := cp_e h
        refine g_callV0 C tb_X1_shape_0_ok (i := 20) [.int v4] rfl mw_X1_bitsBeside mv_X1_bitsBeside ml_X1_58 k1 rfl rfl rfl rfl (w_X1_bitsBeside C.G y a0 v4 M5) (pm_s er19) rfl rfl rfl ?_
        refine g_goto C tb_X1_shape_0_ok (i := 21) 40 rfl rfl ?_
        exact g_less (L' := [some (.ref a0), none, none, some (.int v4)]) ⟨rfl, ⟨rfl, trivial⟩⟩ (J40 r19 h)
def f_X8_isPegged (y : Lay) (a0 : Nat) (a1 : Int32) (M : Mem) : Option Int32 := gK y a0 (0, 8) (jn (fun (v2 : Int32) => gd (v2 = 0 ∨ v2 = 1) (some v2)) fun j3 => br ((((M.1 a0 7) >>> (a1 &&& 31)) &&& (1 : Int32)) = 0) (j3 (0 : Int32)) (j3 (1 : Int32)))
theorem w_X8_isPegged {g : GX} {l : Launch} (hG : GF g l) (y : Lay) (a0 : Nat) (a1 : Int32) (M : Mem) : C0 g l yX8_isPegged cX8_isPegged 2 (some .boolean) 0 y [.ref a0, .int a1] M (pm M (f_X8_isPegged y a0 a1 M)) := by
  refine CP_of hG (by decide) [some (.ref a0), some (.int a1)] rfl rfl (fun out h x Q C R => ?_)
  unfold f_X8_isPegged at h
  refine g_aload_n C tb_X8_isPegged_0_ok (i := 0) rfl rfl ?_
  obtain ⟨k1, h⟩ := gK_e h
  refine g_getI C tb_X8_isPegged_0_ok (i := 1) rfl fl_X8_39 rfl k1 ?_
  refine g_iload_n C tb_X8_isPegged_0_ok (i := 2) rfl rfl ?_
  refine g_ishr C tb_X8_isPegged_0_ok (i := 3) rfl ?_
  refine g_iconstv C tb_X8_isPegged_0_ok (i := 4) 1 rfl k_iconstv_1 ?_
  refine g_iand C tb_X8_isPegged_0_ok (i := 5) rfl ?_
  obtain ⟨j3, ej3, h⟩ := jn_e h
  have J16 : ∀ (v2 : Int32), j3 v2 = some out → GG g x 2 Q 0 0 y M 16 [none, none] [.int v2] := by
    intro v2 h; subst ej3
    obtain ⟨hz, h⟩ := gd_e h
    cases h
    exact g_zret0 C R hz tb_X8_isPegged_0_ok (i := 10) rfl
  obtain ⟨t4, f5⟩ := br_e h
  refine g_if_eq C tb_X8_isPegged_0_ok (i := 6) 15 rfl rfl (fun c => ?_) (fun c => ?_)
  · have h := t4 c
    refine g_iconstv C tb_X8_isPegged_0_ok (i := 9) 0 rfl k_iconstv_0 ?_
    exact g_less (L' := [none, none]) trivial (J16 (0 : Int32) h)
  · have h := f5 c
    refine g_iconstv C tb_X8_isPegged_0_ok (i := 7) 1 rfl k_iconstv_1 ?_
    refine g_goto C tb_X8_isPegged_0_ok (i := 8) 16 rfl rfl ?_
    exact g_less (L' := [none, none]) trivial (J16 (1 : Int32) h)
def f_X8_addBlue (y : Lay) (a0 : Nat) (a1 : Int32) (a2 : Int32) (M : Mem) : Option (Int32 × Mem) := jn (fun (M1 : Mem) => some (0, M1)) fun j2 => br (a1 < 0) (j2 M) (br ((30 : Int32) ≤ a1) (j2 M) (gK y a0 (0, 8) (cp (f_X8_isPegged y a0 a1 M) fun (r8 : Int32) => br (r8 = 0) (gN (y.2.1 a0 1) (gA y (y.2.1 a0 1) 1 a1 (gA y (y.2.1 a0 1) 1 a1 (lt (wI M (y.2.1 a0 1) a1.toNatClampNeg (jmin (99 : Int32) ((M.1 (y.2.1 a0 1) a1.toNatClampNeg) + a2))) fun (M14 : Mem) => j2 M14)))) (j2 M))))
theorem w_X8_addBlue {g : GX} {l : Launch} (hG : GF g l) (y : Lay) (a0 : Nat) (a1 : Int32) (a2 : Int32) (M : Mem) : C0 g l yX8_addBlue cX8_addBlue 3 none 1 y [.ref a0, .int a1, .int a2] M (f_X8_addBlue y a0 a1 a2 M) := by
  refine C0_of hG (by decide) [some (.ref a0), some (.int a1), some (.int a2)] rfl rfl (fun out h x Q C R => ?_)
  unfold f_X8_addBlue at h
  refine g_iload_n C tb_X8_addBlue_0_ok (i := 0) rfl rfl ?_
  obtain ⟨j2, ej2, h⟩ := jn_e h
  have J37 : ∀ (M1 : Mem), j2 M1 = some out → GG g x 3 Q 0 0 y M1 37 [none, none, none] [] := by
    intro M1 h; subst ej2
    cases h
    exact g_vret0 C R tb_X8_addBlue_0_ok (i := 21) rfl
  obtain ⟨t3, f4⟩ := br_e h
  refine g_if_lt C tb_X8_addBlue_0_ok (i := 1) 37 rfl rfl (fun c => ?_) (fun c => ?_)
  · have h := t3 c
    exact g_less (L' := [none, none, none]) trivial (J37 M h)
  · have h := f4 c
    refine g_iload_n C tb_X8_addBlue_0_ok (i := 2) rfl rfl ?_
    refine g_bipushv C tb_X8_addBlue_0_ok (i := 3) 30 rfl k_bipushv_30 ?_
    obtain ⟨t5, f6⟩ := br_e h
    refine g_icmp_ge C tb_X8_addBlue_0_ok (i := 4) 37 rfl rfl (fun c => ?_) (fun c => ?_)
    · have h := t5 c
      exact g_less (L' := [none, none, none]) trivial (J37 M h)
    · have h := f6 c
      refine g_aload_n C tb_X8_addBlue_0_ok (i := 5) rfl rfl ?_
      refine g_iload_n C tb_X8_addBlue_0_ok (i := 6) rfl rfl ?_
      obtain ⟨k7, h⟩ := gK_e h
      obtain ⟨r8, er8, h⟩ := cp_e h
      refine g_callV0 C tb_X8_addBlue_0_ok (i := 7) [.int a1] rfl mw_X8_isPegged mv_X8_isPegged ml_X8_70 k7 rfl rfl rfl rfl (w_X8_isPegged C.G y a0 a1 M) (pm_s er8) rfl rfl rfl ?_
      obtain ⟨t9, f10⟩ := br_e h
      refine g_if_ne C tb_X8_addBlue_0_ok (i := 8) 37 rfl rfl (fun c => ?_) (fun c => ?_)
      · have h := f10 c
        exact g_less (L' := [none, none, none]) trivial (J37 M h)
      · have h := t9 c
        refine g_aload_n C tb_X8_addBlue_0_ok (i := 9) rfl rfl ?_
        obtain ⟨n11, h⟩ := gN_e h
        refine g_getR C tb_X8_addBlue_0_ok (i := 10) rfl fl_X8_9 rfl k7 n11 ?_
        refine g_iload_n C tb_X8_addBlue_0_ok (i := 11) rfl rfl ?_
        refine g_bipushv C tb_X8_addBlue_0_ok (i := 12) 99 rfl k_bipushv_99 ?_
        refine g_aload_n C tb_X8_addBlue_0_ok (i := 13) rfl rfl ?_
        refine g_getR C tb_X8_addBlue_0_ok (i := 14) rfl fl_X8_9 rfl k7 n11 ?_
        refine g_iload_n C tb_X8_addBlue_0_ok (i := 15) rfl rfl ?_
        obtain ⟨b12, h⟩ := gA_e h
        refine g_iald C tb_X8_addBlue_0_ok (i := 16) rfl b12 ?_
        refine g_iload_n C tb_X8_addBlue_0_ok (i := 17) rfl rfl ?_
        refine g_iadd C tb_X8_addBlue_0_ok (i := 18) rfl ?_
        refine g_min C tb_X8_addBlue_0_ok (i := 19) rfl mt_X8_64 rfl rfl rfl ?_
        obtain ⟨b13, h⟩ := gA_e h
        refine g_iast C tb_X8_addBlue_0_ok (i := 20) rfl b13 ?_
        refine g_mem (fun M14 eM14 => ?_)
        have h := lt_e eM14 h
        exact g_less (L' := [none, none, none]) trivial (J37 M14 h)
def f_X8_allBlue (y : Lay) (a0 : Nat) (M : Mem) : Option Int32 := fixN (fun _ _ => none) (fun (s3 : Int32 → Int32 → Option Int32) (v1 : Int32) (v2 : Int32) => br ((30 : Int32) ≤ v2) (some v1) (gK y a0 (0, 8) (gN (y.2.1 a0 1) (gA y (y.2.1 a0 1) 1 v2 (lt (v1 + (M.1 (y.2.1 a0 1) v2.toNatClampNeg)) fun (v10 : Int32) => lt (v2 + (1 : Int32)) fun (v11 : Int32) => s3 v10 v11))))) FUEL (0 : Int32) (0 : Int32)
theorem w_X8_allBlue {g : GX} {l : Launch} (hG : GF g l) (y : Lay) (a0 : Nat) (M : Mem) : C0 g l yX8_allBlue cX8_allBlue 3 (some .int) 0 y [.ref a0] M (pm M (f_X8_allBlue y a0 M)) := by
  refine CP_of hG (by decide) [some (.ref a0), none, none] rfl rfl (fun out h x Q C R => ?_)
  unfold f_X8_allBlue at h
  refine g_iconstv C tb_X8_allBlue_0_ok (i := 0) 0 rfl k_iconstv_0 ?_
  refine g_istore_n C tb_X8_allBlue_0_ok (i := 1) rfl rfl rfl ?_
  refine g_iconstv C tb_X8_allBlue_0_ok (i := 2) 0 rfl k_iconstv_0 ?_
  refine g_istore_n C tb_X8_allBlue_0_ok (i := 3) rfl rfl rfl ?_
  refine g_less (L' := [some (.ref a0), some (.int (0 : Int32)), some (.int (0 : Int32))]) ⟨rfl, ⟨rfl, ⟨rfl, trivial⟩⟩⟩ ?_
  refine fix_i (P := fun (f : Int32 → Int32 → Option Int32) => ∀ (v1 : Int32) (v2 : Int32), f v1 v2 = some out → GG g x 3 Q 0 0 y M 4 [some (.ref a0), some (.int v1), some (.int v2)] []) ?_ ?_ _ (0 : Int32) (0 : Int32) h
  · intro v1 v2 h; exact (nn_e h).elim
  · intro s3 ih4 v1 v2 h
    refine g_iload_n C tb_X8_allBlue_0_ok (i := 4) rfl rfl ?_
    refine g_bipushv C tb_X8_allBlue_0_ok (i := 5) 30 rfl k_bipushv_30 ?_
    obtain ⟨t5, f6⟩ := br_e h
    refine g_icmp_ge C tb_X8_allBlue_0_ok (i := 6) 25 rfl rfl (fun c => ?_) (fun c => ?_)
    · have h := t5 c
      refine g_iload_n C tb_X8_allBlue_0_ok (i := 16) rfl rfl ?_
      cases h
      exact g_iret0 C R tb_X8_allBlue_0_ok (i := 17) rfl
    · have h := f6 c
      refine g_iload_n C tb_X8_allBlue_0_ok (i := 7) rfl rfl ?_
      refine g_aload_n C tb_X8_allBlue_0_ok (i := 8) rfl rfl ?_
      obtain ⟨k7, h⟩ := gK_e h
      obtain ⟨n8, h⟩ := gN_e h
      refine g_getR C tb_X8_allBlue_0_ok (i := 9) rfl fl_X8_9 rfl k7 n8 ?_
      refine g_iload_n C tb_X8_allBlue_0_ok (i := 10) rfl rfl ?_
      obtain ⟨b9, h⟩ := gA_e h
      refine g_iald C tb_X8_allBlue_0_ok (i := 11) rfl b9 ?_
      refine g_iadd C tb_X8_allBlue_0_ok (i := 12) rfl ?_
      refine g_topi (fun v10 ev10 => ?_)
      have h := lt_e ev10 h
      refine g_istore_n C tb_X8_allBlue_0_ok (i := 13) rfl rfl rfl ?_
      obtain ⟨v11, ev11⟩ : ∃ w : Int32, w = v2 + (1 : Int32) := ⟨_, rfl⟩
      have h := lt_e ev11 h
      refine g_iincv C tb_X8_allBlue_0_ok (i := 14) (1 : Int32) ev11 rfl rfl k_iconstv_1 rfl rfl ?_
      refine g_goto C tb_X8_allBlue_0_ok (i := 15) 4 rfl rfl ?_
      exact g_less (L' := [some (.ref a0), some (.int v10), some (.int v11)]) ⟨rfl, ⟨rfl, ⟨rfl, trivial⟩⟩⟩ (ih4 v10 v11 h)
def f_X4_refused (y : Lay) (a0 : Nat) (a1 : Int32) (M : Mem) : Option Int32 := jn (fun (v1 : Int32) => some v1) fun j2 => jn (fun (_u : Unit) => j2 (0 : Int32)) fun j3 => br (a1 < 0) (j3 ()) (br ((3 : Int32) ≤ a1) (j3 ()) (gK y a0 (0, 4) (gN (y.2.1 a0 5) (gA y (y.2.1 a0 5) 1 a1 (j2 (M.1 (y.2.1 a0 5) a1.toNatClampNeg))))))
theorem w_X4_refused {g : GX} {l : Launch} (hG : GF g l) (y : Lay) (a0 : Nat) (a1 : Int32) (M : Mem) : C0 g l yX4_refused cX4_refused 2 (some .int) 0 y [.ref a0, .int a1] M (pm M (f_X4_refused y a0 a1 M)) := by
  refine CP_of hG (by decide) [some (.ref a0), some (.int a1)] rfl rfl (fun out h x Q C R => ?_)
  unfold f_X4_refused at h
  refine g_iload_n C tb_X4_refused_0_ok (i := 0) rfl rfl ?_
  obtain ⟨j2, ej2, h⟩ := jn_e h
  have J19 : ∀ (v1 : Int32), j2 v1 = some out → GG g x 2 Q 0 0 y M 19 [none, none] [.int v1] := by
    intro v1 h; subst ej2
    cases h
    exact g_iret0 C R tb_X4_refused_0_ok (i := 11) rfl
  obtain ⟨j3, ej3, h⟩ := jn_e h
  have J18 : ∀ (_u : Unit), j3 _u = some out → GG g x 2 Q 0 0 y M 18 [none, none] [] := by
    intro _u h; subst ej3
    refine g_iconstv C tb_X4_refused_0_ok (i := 10) 0 rfl k_iconstv_0 ?_
    exact g_less (L' := [none, none]) trivial (J19 (0 : Int32) h)
  obtain ⟨t4, f5⟩ := br_e h
  refine g_if_lt C tb_X4_refused_0_ok (i := 1) 18 rfl rfl (fun c => ?_) (fun c => ?_)
  · have h := t4 c
    exact g_less (L' := [none, none]) trivial (J18 () h)
  · have h := f5 c
    refine g_iload_n C tb_X4_refused_0_ok (i := 2) rfl rfl ?_
    refine g_iconstv C tb_X4_refused_0_ok (i := 3) 3 rfl k_iconstv_3 ?_
    obtain ⟨t6, f7⟩ := br_e h
    refine g_icmp_ge C tb_X4_refused_0_ok (i := 4) 18 rfl rfl (fun c => ?_) (fun c => ?_)
    · have h := t6 c
      exact g_less (L' := [none, none]) trivial (J18 () h)
    · have h := f7 c
      refine g_aload_n C tb_X4_refused_0_ok (i := 5) rfl rfl ?_
      obtain ⟨k8, h⟩ := gK_e h
      obtain ⟨n9, h⟩ := gN_e h
      refine g_getR C tb_X4_refused_0_ok (i := 6) rfl fl_X4_28 rfl k8 n9 ?_
      refine g_iload_n C tb_X4_refused_0_ok (i := 7) rfl rfl ?_
      obtain ⟨b10, h⟩ := gA_e h
      refine g_iald C tb_X4_refused_0_ok (i := 8) rfl b10 ?_
      refine g_goto C tb_X4_refused_0_ok (i := 9) 19 rfl rfl ?_
      exact g_less (L' := [none, none]) trivial (J19 (M.1 (y.2.1 a0 5) a1.toNatClampNeg) h)
def f_X11_count (y : Lay) (a0 : Nat) (a1 : Int32) (M : Mem) : Option (Nat × Int32 × Mem) := br (a1 < (0 : Int32) ∨ (16 : Int32) < a1) (some (1, 0, M)) (br (a1 = (0 : Int32)) (gK y a0 (0, 11) (gN (y.2.1 a0 1) (gK y (y.2.1 a0 1) (0, 1) (cp (f_X1_cells y (y.2.1 a0 1) M) fun (r6 : Int32) => some (0, r6, M))))) (br (a1 = (1 : Int32)) (gK y a0 (0, 11) (gN (y.2.1 a0 1) (gK y (y.2.1 a0 1) (0, 1) (some (0, (M.1 (y.2.1 a0 1) 0), M))))) (br (a1 = (2 : Int32)) (gK y a0 (0, 11) (gN (y.2.1 a0 1) (gK y (y.2.1 a0 1) (0, 1) (some (0, (M.1 (y.2.1 a0 1) 4), M))))) (br (a1 = (3 : Int32)) (gK y a0 (0, 11) (gN (y.2.1 a0 3) (gK y (y.2.1 a0 3) (0, 4) (gN (y.2.1 (y.2.1 a0 3) 0) (gK y (y.2.1 (y.2.1 a0 3) 0) (0, 8) (some (0, (M.1 (y.2.1 (y.2.1 a0 3) 0) 11), M))))))) (br (a1 = (4 : Int32)) (gK y a0 (0, 11) (gN (y.2.1 a0 3) (gK y (y.2.1 a0 3) (0, 4) (gN (y.2.1 (y.2.1 a0 3) 0) (gK y (y.2.1 (y.2.1 a0 3) 0) (0, 8) (some (0, (M.1 (y.2.1 (y.2.1 a0 3) 0) 9), M))))))) (br (a1 = (5 : Int32)) (gK y a0 (0, 11) (gN (y.2.1 a0 1) (gK y (y.2.1 a0 1) (0, 1) (some (0, (M.1 (y.2.1 a0 1) 2), M))))) (br (a1 = (6 : Int32)) (gK y a0 (0, 11) (gN (y.2.1 a0 1) (gK y (y.2.1 a0 1) (0, 1) (some (0, (M.1 (y.2.1 a0 1) 3), M))))) (br (a1 = (7 : Int32)) (gK y a0 (0, 11) (gN (y.2.1 a0 3) (gK y (y.2.1 a0 3) (0, 4) (gN (y.2.1 (y.2.1 a0 3) 0) (gK y (y.2.1 (y.2.1 a0 3) 0) (0, 8) (some (0, (M.1 (y.2.1 (y.2.1 a0 3) 0) 10), M))))))) (br (a1 = (8 : Int32)) (gK y a0 (0, 11) (gN (y.2.1 a0 3) (gK y (y.2.1 a0 3) (0, 4) (gN (y.2.1 (y.2.1 a0 3) 0) (gK y (y.2.1 (y.2.1 a0 3) 0) (0, 8) (some (0, (M.1 (y.2.1 (y.2.1 a0 3) 0) 7), M))))))) (br (a1 = (9 : Int32)) (gK y a0 (0, 11) (gN (y.2.1 a0 3) (gK y (y.2.1 a0 3) (0, 4) (gN (y.2.1 (y.2.1 a0 3) 0) (gK y (y.2.1 (y.2.1 a0 3) 0) (0, 8) (some (0, (M.1 (y.2.1 (y.2.1 a0 3) 0) 8), M))))))) (br (a1 = (10 : Int32)) (gK y a0 (0, 11) (gN (y.2.1 a0 3) (gK y (y.2.1 a0 3) (0, 4) (gN (y.2.1 (y.2.1 a0 3) 0) (gK y (y.2.1 (y.2.1 a0 3) 0) (0, 8) (cp (f_X8_allBlue y (y.2.1 (y.2.1 a0 3) 0) M) fun (r69 : Int32) => some (0, r69, M))))))) (br (a1 = (11 : Int32)) (gK y a0 (0, 11) (gN (y.2.1 a0 3) (gK y (y.2.1 a0 3) (0, 4) (gN (y.2.1 (y.2.1 a0 3) 1) (gK y (y.2.1 (y.2.1 a0 3) 1) (0, 0) (some (0, (M.1 (y.2.1 (y.2.1 a0 3) 1) 1), M))))))) (br (a1 = (12 : Int32)) (gK y a0 (0, 11) (gN (y.2.1 a0 3) (gK y (y.2.1 a0 3) (0, 4) (some (0, (M.1 (y.2.1 a0 3) 6), M))))) (br (a1 = (13 : Int32)) (gK y a0 (0, 11) (gN (y.2.1 a0 0) (gK y (y.2.1 a0 0) (0, 9) (some (0, (M.1 (y.2.1 a0 0) 1), M))))) (br (a1 = (14 : Int32)) (gK y a0 (0, 11) (gN (y.2.1 a0 3) (gK y (y.2.1 a0 3) (0, 4) (cp (f_X4_refused y (y.2.1 a0 3) (0 : Int32) M) fun (r92 : Int32) => some (0, r92, M))))) (br (a1 = (15 : Int32)) (gK y a0 (0, 11) (gN (y.2.1 a0 3) (gK y (y.2.1 a0 3) (0, 4) (cp (f_X4_refused y (y.2.1 a0 3) (1 : Int32) M) fun (r98 : Int32) => some (0, r98, M))))) (gK y a0 (0, 11) (gN (y.2.1 a0 3) (gK y (y.2.1 a0 3) (0, 4) (cp (f_X4_refused y (y.2.1 a0 3) (2 : Int32) M) fun (r104 : Int32) => some (0, r104, M)))))))))))))))))))))
theorem w_X11_count {g : GX} {l : Launch} (hG : GF g l) (y : Lay) (a0 : Nat) (a1 : Int32) (M : Mem) : C1 g l yX11_count cX11_count 2 (some .int) 1 1 6 y [.ref a0, .int a1] M (f_X11_count y a0 a1 M) := by
  refine C1_of hG (by decide) [some (.ref a0), some (.int a1)] rfl rfl (fun out h x Q C R => ?_)
  unfold f_X11_count at h
  refine g_iload_n C tb_X11_count_0_ok (i := 0) rfl rfl ?_
  obtain ⟨t1, f2⟩ := br_e h
  by_cases hsw : a1 < (0 : Int32) ∨ (16 : Int32) < a1
  · have h := t1 hsw
    refine g_tableOut C tb_X11_count_0_ok (i := 1) 0 16 244 rfl hsw (by decide) rfl ?_
    cases h
    exact g_throw (T2 := []) C tb_X11_count_2_ok (i0 := 0) (i1 := 1) (i2 := 2) (i3 := 3) (e := 0) R tw_X11_176_178 rfl rfl rfl rfl rfl rfl rfl
  have h := f2 hsw
  obtain ⟨t7, f8⟩ := br_e h
  by_cases hs1000 : a1 = (0 : Int32)
  · have h := t7 hs1000
    refine g_tableIn C tb_X11_count_0_ok (i := 1) 0 84 83 rfl hs1000 (by decide) rfl ?_
    refine g_aload_n C tb_X11_count_0_ok (i := 2) rfl rfl ?_
    obtain ⟨k3, h⟩ := gK_e h
    obtain ⟨n4, h⟩ := gN_e h
    refine g_getR C tb_X11_count_0_ok (i := 3) rfl fl_X11_19 rfl k3 n4 ?_
    obtain ⟨k5, h⟩ := gK_e h
    obtain ⟨r6, er6, h⟩ := cp_e h
    refine g_callV0 C tb_X11_count_0_ok (i := 4) [] rfl mw_X1_cells mv_X1_cells ml_X11_128 k5 rfl rfl rfl rfl (w_X1_cells C.G y (y.2.1 a0 1) M) (pm_s er6) rfl rfl rfl ?_
    cases h
    exact g_iret1 C R rfl rfl tb_X11_count_0_ok (i := 5) rfl
  have h := f8 hs1000
  obtain ⟨t12, f13⟩ := br_e h
  by_cases hs1001 : a1 = (1 : Int32)
  · have h := t12 hs1001
    refine g_tableIn C tb_X11_count_0_ok (i := 1) 1 92 91 rfl hs1001 (by decide) rfl ?_
    refine g_aload_n C tb_X11_count_0_ok (i := 6) rfl rfl ?_
    obtain ⟨k9, h⟩ := gK_e h
    obtain ⟨n10, h⟩ := gN_e h
    refine g_getR C tb_X11_count_0_ok (i := 7) rfl fl_X11_19 rfl k9 n10 ?_
    obtain ⟨k11, h⟩ := gK_e h
    refine g_getI C tb_X11_count_0_ok (i := 8) rfl fl_X11_131 rfl k11 ?_
    cases h
    exact g_iret1 C R rfl rfl tb_X11_count_0_ok (i := 9) rfl
  have h := f13 hs1001
  obtain ⟨t17, f18⟩ := br_e h
  by_cases hs1002 : a1 = (2 : Int32)
  · have h := t17 hs1002
    refine g_tableIn C tb_X11_count_0_ok (i := 1) 2 100 99 rfl hs1002 (by decide) rfl ?_
    refine g_aload_n C tb_X11_count_0_ok (i := 10) rfl rfl ?_
    obtain ⟨k14, h⟩ := gK_e h
    obtain ⟨n15, h⟩ := gN_e h
    refine g_getR C tb_X11_count_0_ok (i := 11) rfl fl_X11_19 rfl k14 n15 ?_
    obtain ⟨k16, h⟩ := gK_e h
    refine g_getI C tb_X11_count_0_ok (i := 12) rfl fl_X11_134 rfl k16 ?_
    cases h
    exact g_iret1 C R rfl rfl tb_X11_count_0_ok (i := 13) rfl
  have h := f18 hs1002
  obtain ⟨t24, f25⟩ := br_e h
  by_cases hs1003 : a1 = (3 : Int32)
  · have h := t24 hs1003
    refine g_tableIn C tb_X11_count_0_ok (i := 1) 3 108 107 rfl hs1003 (by decide) rfl ?_
    refine g_aload_n C tb_X11_count_0_ok (i := 14) rfl rfl ?_
    obtain ⟨k19, h⟩ := gK_e h
    obtain ⟨n20, h⟩ := gN_e h
    refine g_getR C tb_X11_count_0_ok (i := 15) rfl fl_X11_37 rfl k19 n20 ?_
    obtain ⟨k21, h⟩ := gK_e h
    obtain ⟨n22, h⟩ := gN_e h
    refine g_getR C tb_X11_count_0_ok (i := 16) rfl fl_X11_53 rfl k21 n22 ?_
    obtain ⟨k23, h⟩ := gK_e h
    refine g_getI C tb_X11_count_0_ok (i := 17) rfl fl_X11_137 rfl k23 ?_
    cases h
    exact g_iret1 C R rfl rfl tb_X11_count_0_ok (i := 18) rfl
  have h := f25 hs1003
  obtain ⟨t31, f32⟩ := br_e h
  by_cases hs1004 : a1 = (4 : Int32)
  · have h := t31 hs1004
    refine g_tableIn C tb_X11_count_0_ok (i := 1) 4 119 118 rfl hs1004 (by decide) rfl ?_
    refine g_aload_n C tb_X11_count_0_ok (i := 19) rfl rfl ?_
    obtain ⟨k26, h⟩ := gK_e h
    obtain ⟨n27, h⟩ := gN_e h
    refine g_getR C tb_X11_count_0_ok (i := 20) rfl fl_X11_37 rfl k26 n27 ?_
    obtain ⟨k28, h⟩ := gK_e h
    obtain ⟨n29, h⟩ := gN_e h
    refine g_getR C tb_X11_count_0_ok (i := 21) rfl fl_X11_53 rfl k28 n29 ?_
    obtain ⟨k30, h⟩ := gK_e h
    refine g_getI C tb_X11_count_0_ok (i := 22) rfl fl_X11_140 rfl k30 ?_
    cases h
    exact g_iret1 C R rfl rfl tb_X11_count_0_ok (i := 23) rfl
  have h := f32 hs1004
  obtain ⟨t36, f37⟩ := br_e h
  by_cases hs1005 : a1 = (5 : Int32)
  · have h := t36 hs1005
    refine g_tableIn C tb_X11_count_0_ok (i := 1) 5 130 129 rfl hs1005 (by decide) rfl ?_
    refine g_aload_n C tb_X11_count_0_ok (i := 24) rfl rfl ?_
    obtain ⟨k33, h⟩ := gK_e h
    obtain ⟨n34, h⟩ := gN_e h
    refine g_getR C tb_X11_count_0_ok (i := 25) rfl fl_X11_19 rfl k33 n34 ?_
    obtain ⟨k35, h⟩ := gK_e h
    refine g_getI C tb_X11_count_0_ok (i := 26) rfl fl_X11_143 rfl k35 ?_
    cases h
    exact g_iret1 C R rfl rfl tb_X11_count_0_ok (i := 27) rfl
  have h := f37 hs1005
  obtain ⟨t41, f42⟩ := br_e h
  by_cases hs1006 : a1 = (6 : Int32)
  · have h := t41 hs1006
    refine g_tableIn C tb_X11_count_0_ok (i := 1) 6 138 137 rfl hs1006 (by decide) rfl ?_
    refine g_aload_n C tb_X11_count_0_ok (i := 28) rfl rfl ?_
    obtain ⟨k38, h⟩ := gK_e h
    obtain ⟨n39, h⟩ := gN_e h
    refine g_getR C tb_X11_count_0_ok (i := 29) rfl fl_X11_19 rfl k38 n39 ?_
    obtain ⟨k40, h⟩ := gK_e h
    refine g_getI C tb_X11_count_0_ok (i := 30) rfl fl_X11_146 rfl k40 ?_
    cases h
    exact g_iret1 C R rfl rfl tb_X11_count_0_ok (i := 31) rfl
  have h := f42 hs1006
  obtain ⟨t48, f49⟩ := br_e h
  by_cases hs1007 : a1 = (7 : Int32)
  · have h := t48 hs1007
    refine g_tableIn C tb_X11_count_0_ok (i := 1) 7 146 145 rfl hs1007 (by decide) rfl ?_
    refine g_aload_n C tb_X11_count_0_ok (i := 32) rfl rfl ?_
    obtain ⟨k43, h⟩ := gK_e h
    obtain ⟨n44, h⟩ := gN_e h
    refine g_getR C tb_X11_count_0_ok (i := 33) rfl fl_X11_37 rfl k43 n44 ?_
    obtain ⟨k45, h⟩ := gK_e h
    obtain ⟨n46, h⟩ := gN_e h
    refine g_getR C tb_X11_count_0_ok (i := 34) rfl fl_X11_53 rfl k45 n46 ?_
    obtain ⟨k47, h⟩ := gK_e h
    refine g_getI C tb_X11_count_0_ok (i := 35) rfl fl_X11_149 rfl k47 ?_
    cases h
    exact g_iret1 C R rfl rfl tb_X11_count_0_ok (i := 36) rfl
  have h := f49 hs1007
  obtain ⟨t55, f56⟩ := br_e h
  by_cases hs1008 : a1 = (8 : Int32)
  · have h := t55 hs1008
    refine g_tableIn C tb_X11_count_0_ok (i := 1) 8 157 156 rfl hs1008 (by decide) rfl ?_
    refine g_aload_n C tb_X11_count_0_ok (i := 37) rfl rfl ?_
    obtain ⟨k50, h⟩ := gK_e h
    obtain ⟨n51, h⟩ := gN_e h
    refine g_getR C tb_X11_count_0_ok (i := 38) rfl fl_X11_37 rfl k50 n51 ?_
    obtain ⟨k52, h⟩ := gK_e h
    obtain ⟨n53, h⟩ := gN_e h
    refine g_getR C tb_X11_count_0_ok (i := 39) rfl fl_X11_53 rfl k52 n53 ?_
    obtain ⟨k54, h⟩ := gK_e h
    refine g_getI C tb_X11_count_1_ok (i := 0) rfl fl_X11_152 rfl k54 ?_
    cases h
    exact g_iret1 C R rfl rfl tb_X11_count_1_ok (i := 1) rfl
  have h := f56 hs1008
  obtain ⟨t62, f63⟩ := br_e h
  by_cases hs1009 : a1 = (9 : Int32)
  · have h := t62 hs1009
    refine g_tableIn C tb_X11_count_0_ok (i := 1) 9 168 167 rfl hs1009 (by decide) rfl ?_
    refine g_aload_n C tb_X11_count_1_ok (i := 2) rfl rfl ?_
    obtain ⟨k57, h⟩ := gK_e h
    obtain ⟨n58, h⟩ := gN_e h
    refine g_getR C tb_X11_count_1_ok (i := 3) rfl fl_X11_37 rfl k57 n58 ?_
    obtain ⟨k59, h⟩ := gK_e h
    obtain ⟨n60, h⟩ := gN_e h
    refine g_getR C tb_X11_count_1_ok (i := 4) rfl fl_X11_53 rfl k59 n60 ?_
    obtain ⟨k61, h⟩ := gK_e h
    refine g_getI C tb_X11_count_1_ok (i := 5) rfl fl_X11_155 rfl k61 ?_
    cases h
    exact g_iret1 C R rfl rfl tb_X11_count_1_ok (i := 6) rfl
  have h := f63 hs1009
  obtain ⟨t70, f71⟩ := br_e h
  by_cases hs1010 : a1 = (10 : Int32)
  · have h := t70 hs1010
    refine g_tableIn C tb_X11_count_0_ok (i := 1) 10 179 178 rfl hs1010 (by decide) rfl ?_
    refine g_aload_n C tb_X11_count_1_ok (i := 7) rfl rfl ?_
    obtain ⟨k64, h⟩ := gK_e h
    obtain ⟨n65, h⟩ := gN_e h
    refine g_getR C tb_X11_count_1_ok (i := 8) rfl fl_X11_37 rfl k64 n65 ?_
    obtain ⟨k66, h⟩ := gK_e h
    obtain ⟨n67, h⟩ := gN_e h
    refine g_getR C tb_X11_count_1_ok (i := 9) rfl fl_X11_53 rfl k66 n67 ?_
    obtain ⟨k68, h⟩ := gK_e h
    obtain ⟨r69, er69, h⟩ := cp_e h
    refine g_callV0 C tb_X11_count_1_ok (i := 10) [] rfl mw_X8_allBlue mv_X8_allBlue ml_X11_158 k68 rfl rfl rfl rfl (w_X8_allBlue C.G y (y.2.1 (y.2.1 a0 3) 0) M) (pm_s er69) rfl rfl rfl ?_
    cases h
    exact g_iret1 C R rfl rfl tb_X11_count_1_ok (i := 11) rfl
  have h := f71 hs1010
  obtain ⟨t77, f78⟩ := br_e h
  by_cases hs1011 : a1 = (11 : Int32)
  · have h := t77 hs1011
    refine g_tableIn C tb_X11_count_0_ok (i := 1) 11 190 189 rfl hs1011 (by decide) rfl ?_
    refine g_aload_n C tb_X11_count_1_ok (i := 12) rfl rfl ?_
    obtain ⟨k72, h⟩ := gK_e h
    obtain ⟨n73, h⟩ := gN_e h
    refine g_getR C tb_X11_count_1_ok (i := 13) rfl fl_X11_37 rfl k72 n73 ?_
    obtain ⟨k74, h⟩ := gK_e h
    obtain ⟨n75, h⟩ := gN_e h
    refine g_getR C tb_X11_count_1_ok (i := 14) rfl fl_X11_161 rfl k74 n75 ?_
    obtain ⟨k76, h⟩ := gK_e h
    refine g_getI C tb_X11_count_1_ok (i := 15) rfl fl_X11_165 rfl k76 ?_
    cases h
    exact g_iret1 C R rfl rfl tb_X11_count_1_ok (i := 16) rfl
  have h := f78 hs1011
  obtain ⟨t82, f83⟩ := br_e h
  by_cases hs1012 : a1 = (12 : Int32)
  · have h := t82 hs1012
    refine g_tableIn C tb_X11_count_0_ok (i := 1) 12 201 200 rfl hs1012 (by decide) rfl ?_
    refine g_aload_n C tb_X11_count_1_ok (i := 17) rfl rfl ?_
    obtain ⟨k79, h⟩ := gK_e h
    obtain ⟨n80, h⟩ := gN_e h
    refine g_getR C tb_X11_count_1_ok (i := 18) rfl fl_X11_37 rfl k79 n80 ?_
    obtain ⟨k81, h⟩ := gK_e h
    refine g_getI C tb_X11_count_1_ok (i := 19) rfl fl_X11_170 rfl k81 ?_
    cases h
    exact g_iret1 C R rfl rfl tb_X11_count_1_ok (i := 20) rfl
  have h := f83 hs1012
  obtain ⟨t87, f88⟩ := br_e h
  by_cases hs1013 : a1 = (13 : Int32)
  · have h := t87 hs1013
    refine g_tableIn C tb_X11_count_0_ok (i := 1) 13 209 208 rfl hs1013 (by decide) rfl ?_
    refine g_aload_n C tb_X11_count_1_ok (i := 21) rfl rfl ?_
    obtain ⟨k84, h⟩ := gK_e h
    obtain ⟨n85, h⟩ := gN_e h
    refine g_getR C tb_X11_count_1_ok (i := 22) rfl fl_X11_10 rfl k84 n85 ?_
    obtain ⟨k86, h⟩ := gK_e h
    refine g_getI C tb_X11_count_1_ok (i := 23) rfl fl_X11_93 rfl k86 ?_
    cases h
    exact g_iret1 C R rfl rfl tb_X11_count_1_ok (i := 24) rfl
  have h := f88 hs1013
  obtain ⟨t93, f94⟩ := br_e h
  by_cases hs1014 : a1 = (14 : Int32)
  · have h := t93 hs1014
    refine g_tableIn C tb_X11_count_0_ok (i := 1) 14 217 216 rfl hs1014 (by decide) rfl ?_
    refine g_aload_n C tb_X11_count_1_ok (i := 25) rfl rfl ?_
    obtain ⟨k89, h⟩ := gK_e h
    obtain ⟨n90, h⟩ := gN_e h
    refine g_getR C tb_X11_count_1_ok (i := 26) rfl fl_X11_37 rfl k89 n90 ?_
    refine g_iconstv C tb_X11_count_1_ok (i := 27) 0 rfl k_iconstv_0 ?_
    obtain ⟨k91, h⟩ := gK_e h
    obtain ⟨r92, er92, h⟩ := cp_e h
    refine g_callV0 C tb_X11_count_1_ok (i := 28) [.int (0 : Int32)] rfl mw_X4_refused mv_X4_refused ml_X11_173 k91 rfl rfl rfl rfl (w_X4_refused C.G y (y.2.1 a0 3) (0 : Int32) M) (pm_s er92) rfl rfl rfl ?_
    cases h
    exact g_iret1 C R rfl rfl tb_X11_count_1_ok (i := 29) rfl
  have h := f94 hs1014
  obtain ⟨t99, f100⟩ := br_e h
  by_cases hs1015 : a1 = (15 : Int32)
  · have h := t99 hs1015
    refine g_tableIn C tb_X11_count_0_ok (i := 1) 15 226 225 rfl hs1015 (by decide) rfl ?_
    refine g_aload_n C tb_X11_count_1_ok (i := 30) rfl rfl ?_
    obtain ⟨k95, h⟩ := gK_e h
    obtain ⟨n96, h⟩ := gN_e h
    refine g_getR C tb_X11_count_1_ok (i := 31) rfl fl_X11_37 rfl k95 n96 ?_
    refine g_iconstv C tb_X11_count_1_ok (i := 32) 1 rfl k_iconstv_1 ?_
    obtain ⟨k97, h⟩ := gK_e h
    obtain ⟨r98, er98, h⟩ := cp_e h
    refine g_callV0 C tb_X11_count_1_ok (i := 33) [.int (1 : Int32)] rfl mw_X4_refused mv_X4_refused ml_X11_173 k97 rfl rfl rfl rfl (w_X4_refused C.G y (y.2.1 a0 3) (1 : Int32) M) (pm_s er98) rfl rfl rfl ?_
    cases h
    exact g_iret1 C R rfl rfl tb_X11_count_1_ok (i := 34) rfl
  have h := f100 hs1015
  have hlast : a1 = (16 : Int32) := i32_sw (l := [(0 : Int32), (1 : Int32), (2 : Int32), (3 : Int32), (4 : Int32), (5 : Int32), (6 : Int32), (7 : Int32), (8 : Int32), (9 : Int32), (10 : Int32), (11 : Int32), (12 : Int32), (13 : Int32), (14 : Int32), (15 : Int32)]) (n := 16) hsw (by decide +kernel) (i32_ne [(0 : Int32), (1 : Int32), (2 : Int32), (3 : Int32), (4 : Int32), (5 : Int32), (6 : Int32), (7 : Int32), (8 : Int32), (9 : Int32), (10 : Int32), (11 : Int32), (12 : Int32), (13 : Int32), (14 : Int32), (15 : Int32)] rfl (by intro c hc; simp only [List.mem_cons, List.not_mem_nil, or_false] at hc; rcases hc with rfl | rfl | rfl | rfl | rfl | rfl | rfl | rfl | rfl | rfl | rfl | rfl | rfl | rfl | rfl | rfl <;> assumption))
  refine g_tableIn C tb_X11_count_0_ok (i := 1) 16 235 234 rfl hlast (by decide) rfl ?_
  refine g_aload_n C tb_X11_count_1_ok (i := 35) rfl rfl ?_
  obtain ⟨k101, h⟩ := gK_e h
  obtain ⟨n102, h⟩ := gN_e h
  refine g_getR C tb_X11_count_1_ok (i := 36) rfl fl_X11_37 rfl k101 n102 ?_
  refine g_iconstv C tb_X11_count_1_ok (i := 37) 2 rfl k_iconstv_2 ?_
  obtain ⟨k103, h⟩ := gK_e h
  obtain ⟨r104, er104, h⟩ := cp_e h
  refine g_callV0 C tb_X11_count_1_ok (i := 38) [.int (2 : Int32)] rfl mw_X4_refused mv_X4_refused ml_X11_173 k103 rfl rfl rfl rfl (w_X4_refused C.G y (y.2.1 a0 3) (2 : Int32) M) (pm_s er104) rfl rfl rfl ?_
  cases h
  exact g_iret1 C R rfl rfl tb_X11_count_1_ok (i := 39) rfl
def f_X11_needCell (y : Lay) (a0 : Nat) (a1 : Int32) (M : Mem) : Option (Nat × Int32 × Mem) := jn (fun (_u : Unit) => some (1, 0, M)) fun j1 => br (a1 < 0) (j1 ()) (gK y a0 (0, 11) (gN (y.2.1 a0 1) (gK y (y.2.1 a0 1) (0, 1) (cp (f_X1_cells y (y.2.1 a0 1) M) fun (r7 : Int32) => br (a1 < r7) (some (0, 0, M)) (j1 ())))))
theorem w_X11_needCell {g : GX} {l : Launch} (hG : GF g l) (y : Lay) (a0 : Nat) (a1 : Int32) (M : Mem) : C1 g l yX11_needCell cX11_needCell 2 none 1 1 6 y [.ref a0, .int a1] M (f_X11_needCell y a0 a1 M) := by
  refine C1_of hG (by decide) [some (.ref a0), some (.int a1)] rfl rfl (fun out h x Q C R => ?_)
  unfold f_X11_needCell at h
  refine g_iload_n C tb_X11_needCell_0_ok (i := 0) rfl rfl ?_
  obtain ⟨j1, ej1, h⟩ := jn_e h
  have J15 : ∀ (_u : Unit), j1 _u = some out → GG g x 2 Q 0 0 y M 15 [none, none] [] := by
    intro _u h; subst ej1
    cases h
    exact g_throw (T2 := []) C tb_X11_needCell_0_ok (i0 := 7) (i1 := 8) (i2 := 9) (i3 := 10) (e := 0) R tw_X11_176_178 rfl rfl rfl rfl rfl rfl rfl
  obtain ⟨t2, f3⟩ := br_e h
  refine g_if_lt C tb_X11_needCell_0_ok (i := 1) 15 rfl rfl (fun c => ?_) (fun c => ?_)
  · have h := t2 c
    exact g_less (L' := [none, none]) trivial (J15 () h)
  · have h := f3 c
    refine g_iload_n C tb_X11_needCell_0_ok (i := 2) rfl rfl ?_
    refine g_aload_n C tb_X11_needCell_0_ok (i := 3) rfl rfl ?_
    obtain ⟨k4, h⟩ := gK_e h
    obtain ⟨n5, h⟩ := gN_e h
    refine g_getR C tb_X11_needCell_0_ok (i := 4) rfl fl_X11_19 rfl k4 n5 ?_
    obtain ⟨k6, h⟩ := gK_e h
    obtain ⟨r7, er7, h⟩ := cp_e h
    refine g_callV0 C tb_X11_needCell_0_ok (i := 5) [] rfl mw_X1_cells mv_X1_cells ml_X11_128 k6 rfl rfl rfl rfl (w_X1_cells C.G y (y.2.1 a0 1) M) (pm_s er7) rfl rfl rfl ?_
    obtain ⟨t8, f9⟩ := br_e h
    refine g_icmp_lt C tb_X11_needCell_0_ok (i := 6) 23 rfl rfl (fun c => ?_) (fun c => ?_)
    · have h := t8 c
      cases h
      exact g_vret1 C R rfl rfl tb_X11_needCell_0_ok (i := 11) rfl
    · have h := f9 c
      exact g_less (L' := [none, none]) trivial (J15 () h)
