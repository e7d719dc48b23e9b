theorem i1_ok : i1.isSome = true := by decide +kernel
theorem i2_ok : i2.isSome = true := by decide +kernel
theorem yS_ly : LY yS := by
  show LYb yS = true
  decide +kernel
theorem yS_n : (o1.1.2.2 = 72 ∧ o2.1.2.2 = 109) ∧ yS.2.2 = 110 := by decide +kernel
/-- the first n places of a row -/
def rwQ (M : Mem) (p : Nat) (l : List Int32) : Bool := (List.range l.length).all (fun k => decide (M.1 p k = l.getD k 0))
theorem rwQ_get {M : Mem} {p : Nat} {l : List Int32} (h : rwQ M p l = true) {k : Nat} (hk : k < l.length) : M.1 p k = l.getD k 0 := by
  unfold rwQ at h
  exact of_decide_eq_true (List.all_eq_true.mp h k (List.mem_range.mpr hk))
def z30 : List Int32 := [0, 0, 0, 0, 0, 0, 0, 0, 0, 0, 0, 0, 0, 0, 0, 0, 0, 0, 0, 0, 0, 0, 0, 0, 0, 0, 0, 0, 0, 0]
def z6 : List Int32 := [0, 0, 0, 0, 0, 0]
def be33 : List Int32 := [10, 21, 34, 81, 170, 276, 136, 336, 160, 0, 0, 0, 0, 0, 0, 0, 0, 0, 0, 0, 0, 0, 0, 0, 0, 0, 0, 0, 0, 0]
theorem e_38 : rwQ MZ 38 z30 = true := by decide +kernel
theorem e_41 : rwQ MZ 41 z6 = true := by decide +kernel
theorem e_42 : rwQ MZ 42 z6 = true := by decide +kernel
theorem e_52 : rwQ MZ 52 z30 = true := by decide +kernel
theorem e_55 : rwQ MZ 55 z6 = true := by decide +kernel
theorem e_56 : rwQ MZ 56 z6 = true := by decide +kernel
theorem e_59 : rwQ MZ 59 z30 = true := by decide +kernel
theorem e_62 : rwQ MZ 62 z6 = true := by decide +kernel
theorem e_63 : rwQ MZ 63 z6 = true := by decide +kernel
theorem e_37 : rwQ MZ 37 [0, 0, 0, 0, 0, 0, 0, 0, 0, 20, 0, 0, 0] = true := by decide +kernel
theorem e_4 : rwQ MZ 4 [3, 3, 2, 60, 0, 0] = true := by decide +kernel
theorem e_5 : rwQ MZ 5 be33 = true := by decide +kernel
theorem e_6 : rwQ MZ 6 [0, 0, 0] = true := by decide +kernel
theorem e_9 : rwQ MZ 9 [0, 0, 0] = true := by decide +kernel
theorem e_2 : rwQ MZ 2 [0, 0] = true := by decide +kernel
theorem e_1 : rwQ MZ 1 [0, 0, 0, 0, 0, 0, 0, 0, 0, 0, 0, 0, -1] = true := by decide +kernel
theorem e_30 : rwQ MZ 30 [0, 0, 0, 0, 0, 0, 0] = true := by decide +kernel
theorem e_31 : rwQ MZ 31 [0, 0] = true := by decide +kernel
theorem e_36 : rwQ MZ 36 [0, 0, 0] = true := by decide +kernel
theorem e_77 : rwQ MZ 77 [3, 3, 0, 20, 2, 60, 0, 0, 0, 0, 0, 0, 0, 0, 0, 0, 0, 0] = true := by decide +kernel
theorem e_84 : rwQ MZ 84 [0, 0, 0] = true := by decide +kernel
theorem e_85 : rwQ MZ 85 z6 = true := by decide +kernel
theorem e_87 : rwQ MZ 87 z30 = true := by decide +kernel
theorem e_88 : rwQ MZ 88 z6 = true := by decide +kernel
theorem e_73 : rwQ MZ 73 [0, 0, 0, 0, 0, 0, 0, 0, 0, 0, 0, 0, 0, 0, 0, 0, 0, 0, 0, 0, 0, 0, 0, 0, -1, 0, 0, 0, 0, 0, 0, 0, 20, 0, 0, 0, 0, 0, 0, 0, 0, 0, 0, 0, 0, 0, 0, 0, 0, 0, 0, 0, 0, 0, 0, 0, 0, 0] = true := by decide +kernel
/-- what the constructors leave past the arrays' ends -/
theorem ZZ_0 : ZZ y_0 M_0 := fun _ _ _ _ => rfl
theorem opt_get {α : Type} {x : Option α} {d : α} (h : x.isSome = true) : x = some (x.getD d) := by
  cases x with
  | none => cases h
  | some a => rfl
theorem i1_eq : i1 = some o1 := opt_get i1_ok
theorem i2_eq : i2 = some o2 := opt_get i2_ok
theorem ZZ_S : ZZ yS MZ := by
  have h1 : ZZ o1.1 o1.2 := z_X11_init (ZZ_psh (0, 11) ZZ_0) o1 i1_eq
  have h1' : ZZ (psh o1.1 (0, 12)) (zM o1.2 (o1.1.2.2 + 1)) := ZZ_psh (0, 12) h1
  rw [yS_n.1.1] at h1'
  have h2 : ZZ o2.1 o2.2 := z_X12_init h1' o2 i2_eq
  have h2' : ZZ (psh o2.1 (3, 1)) (zM o2.2 (o2.1.2.2 + 1)) := ZZ_psh (3, 1) h2
  rw [yS_n.1.2] at h2'
  exact h2'
theorem rw_0 {p n : Nat} {l : List Int32} (hk : kd yS p = (1, n)) (hp : Nat.ble p 110 = true) (h : rwQ MZ p l = true) (hl : l.length = n) (h0 : l.all (fun v => decide (v = 0)) = true) : MZ.1 p = fun _ => 0 := by
  funext k
  by_cases q : k < n
  · rw [rwQ_get h (by omega)]
    have := List.all_eq_true.mp h0 (l.getD k 0) (by rw [List.getD_eq_getElem?_getD, List.getElem?_eq_getElem (by omega)]; exact List.getElem_mem _)
    exact of_decide_eq_true this
  · refine ZZ_S p k ?_ ?_
    · rw [yS_n.2]; exact Nat.le_of_ble_eq_true hp
    · unfold capy
      rw [← kd_1 (show (kd yS p).1 = 1 by rw [hk]) (by decide), hk]
      show (if (1 : Nat) = 0 then 64 else n) ≤ k
      rw [if_neg (by decide)]
      omega
theorem m_38 : MZ.1 38 = fun _ => 0 := rw_0 (k_38 yS_ly) (by decide) e_38 rfl (by decide)
theorem m_41 : MZ.1 41 = fun _ => 0 := rw_0 (k_41 yS_ly) (by decide) e_41 rfl (by decide)
theorem m_42 : MZ.1 42 = fun _ => 0 := rw_0 (k_42 yS_ly) (by decide) e_42 rfl (by decide)
theorem m_52 : MZ.1 52 = fun _ => 0 := rw_0 (k_52 yS_ly) (by decide) e_52 rfl (by decide)
theorem m_55 : MZ.1 55 = fun _ => 0 := rw_0 (k_55 yS_ly) (by decide) e_55 rfl (by decide)
theorem m_56 : MZ.1 56 = fun _ => 0 := rw_0 (k_56 yS_ly) (by decide) e_56 rfl (by decide)
theorem m_59 : MZ.1 59 = fun _ => 0 := rw_0 (k_59 yS_ly) (by decide) e_59 rfl (by decide)
theorem m_62 : MZ.1 62 = fun _ => 0 := rw_0 (k_62 yS_ly) (by decide) e_62 rfl (by decide)
theorem m_63 : MZ.1 63 = fun _ => 0 := rw_0 (k_63 yS_ly) (by decide) e_63 rfl (by decide)
theorem m_85 : MZ.1 85 = fun _ => 0 := rw_0 (k_85 yS_ly) (by decide) e_85 rfl (by decide)
theorem m_87 : MZ.1 87 = fun _ => 0 := rw_0 (k_87 yS_ly) (by decide) e_87 rfl (by decide)
theorem m_88 : MZ.1 88 = fun _ => 0 := rw_0 (k_88 yS_ly) (by decide) e_88 rfl (by decide)
theorem m_36 : MZ.1 36 = fun _ => 0 := rw_0 (k_36 yS_ly) (by decide) e_36 rfl (by decide)
theorem m_84 : MZ.1 84 = fun _ => 0 := rw_0 (k_84 yS_ly) (by decide) e_84 rfl (by decide)
