/-! ===== what the calls ask first ===== -/
def inN (n : Nat) (c : Int32) : Prop := 0 ≤ c.toInt ∧ c.toInt < n
theorem inN_n {n : Nat} {c : Int32} (h : inN n c) : c = n2 c.toInt.toNat ∧ c.toInt.toNat < n := by
  obtain ⟨h1, h2⟩ := h
  exact ⟨n2_of h1, by omega⟩
theorem lt0 {c : Int32} : c < 0 ↔ c.toInt < 0 := i_lt
theorem needCell_s {y : Lay} (hy : LY y) {M : Mem} {w h : Nat} (g : GEO w h (M.1 4 0) (M.1 4 1)) (c : Int32) : (inN (w * h) c ∧ f_X11_needCell y 1 c M = some (0, 0, M)) ∨ (¬ inN (w * h) c ∧ f_X11_needCell y 1 c M = some (1, 0, M)) := by
  have h30 := g.n30
  unfold f_X11_needCell
  simp only [lT_s, jn_s, c0_s, cp_s, cx_s, cx_t, gK_t (k_1 hy), gN_t (r := 1) (by decide), r_1_0 hy, r_1_1 hy, r_1_2 hy, r_1_3 hy, r_1_4 hy, r_1_5 hy, r_1_6 hy, r_1_7 hy, r_1_8 hy, r_1_9 hy, r_1_10 hy, gK_t (k_4 hy), gN_t (r := 4) (by decide), r_4_6 hy, r_4_7 hy, r_4_8 hy, cells_4 hy g]
  by_cases h1 : c < 0
  · refine Or.inr ⟨fun e => ?_, bR_t h1⟩
    have := lt0.mp h1
    exact absurd e.1 (by omega)
  · rw [bR_f h1]
    have h1' : ¬ c.toInt < 0 := fun e => h1 (lt0.mpr e)
    by_cases h2 : c < n2 (w * h)
    · have := i_lt.mp h2
      rw [n2_int (by omega)] at this
      exact Or.inl ⟨⟨by omega, by omega⟩, bR_t h2⟩
    · refine Or.inr ⟨fun e => h2 (i_lt.mpr ?_), bR_f h2⟩
      rw [n2_int (by omega)]
      exact e.2
theorem needGirl_0 {y : Lay} (hy : LY y) {M : Mem} (hg : M.1 4 4 = 0) (c : Int32) : f_X11_needGirl y 1 c M = some (1, 0, M) := by
  unfold f_X11_needGirl
  simp only [lT_s, jn_s, c0_s, cp_s, cx_s, cx_t, gK_t (k_1 hy), gN_t (r := 1) (by decide), r_1_0 hy, r_1_1 hy, r_1_2 hy, r_1_3 hy, r_1_4 hy, r_1_5 hy, r_1_6 hy, r_1_7 hy, r_1_8 hy, r_1_9 hy, r_1_10 hy, gK_t (k_4 hy), gN_t (r := 4) (by decide), r_4_6 hy, r_4_7 hy, r_4_8 hy, hg]
  by_cases h1 : c < 0
  · exact bR_t h1
  · rw [bR_f h1]; exact bR_f h1
theorem needWhat_s {y : Lay} {M : Mem} {m : Nat} (hm : m < 1000) (c : Int32) : (inN (m + 1) c ∧ f_X11_needWhat y 1 c (n2 m) M = some (0, 0, M)) ∨ (¬ inN (m + 1) c ∧ f_X11_needWhat y 1 c (n2 m) M = some (1, 0, M)) := by
  unfold f_X11_needWhat
  simp only [lT_s, jn_s, c0_s, cp_s, cx_s, cx_t]
  by_cases h1 : c < 0
  · refine Or.inr ⟨fun e => ?_, bR_t h1⟩
    have := lt0.mp h1
    exact absurd e.1 (by omega)
  · rw [bR_f h1]
    have h1' : ¬ c.toInt < 0 := fun e => h1 (lt0.mpr e)
    by_cases h2 : c ≤ n2 m
    · have := i_le.mp h2
      rw [n2_int (by omega)] at this
      exact Or.inl ⟨⟨by omega, by omega⟩, bR_t h2⟩
    · refine Or.inr ⟨fun e => h2 (i_le.mpr ?_), bR_f h2⟩
      rw [n2_int (by omega)]
      have := e.2
      omega
def inR (a b : Nat) (c : Int32) : Prop := (a : Int) ≤ c.toInt ∧ c.toInt ≤ b
theorem inR_n {a b : Nat} {c : Int32} (h : inR a b c) : c = n2 c.toInt.toNat ∧ a ≤ c.toInt.toNat ∧ c.toInt.toNat ≤ b := by
  obtain ⟨h1, h2⟩ := h
  exact ⟨n2_of (by omega), by omega, by omega⟩
theorem needWithin_s {y : Lay} {M : Mem} {a b : Nat} (ha : a < 1000) (hb : b < 1000) (c : Int32) : (inR a b c ∧ f_X11_needWithin y 1 c (n2 a) (n2 b) M = some (0, 0, M)) ∨ (¬ inR a b c ∧ f_X11_needWithin y 1 c (n2 a) (n2 b) M = some (2, 0, M)) := by
  unfold f_X11_needWithin
  simp only [lT_s, jn_s, c0_s, cp_s, cx_s, cx_t]
  by_cases h1 : c < n2 a
  · refine Or.inr ⟨fun e => ?_, bR_t h1⟩
    have := i_lt.mp h1
    rw [n2_int (by omega)] at this
    exact absurd e.1 (by omega)
  · rw [bR_f h1]
    have h1' : ¬ c.toInt < a := fun e => h1 (i_lt.mpr (by rw [n2_int (by omega)]; exact e))
    by_cases h2 : c ≤ n2 b
    · have := i_le.mp h2
      rw [n2_int (by omega)] at this
      exact Or.inl ⟨⟨by omega, by omega⟩, bR_t h2⟩
    · refine Or.inr ⟨fun e => h2 (i_le.mpr ?_), bR_f h2⟩
      rw [n2_int (by omega)]
      exact e.2
/-! the model asks -/
theorem cmp_lt {a b : Int64} : lg_cmp a b < 0 ↔ a.toInt < b.toInt := by
  unfold lg_cmp
  have e := @Int64.lt_iff_toInt_lt b a
  have e2 := @Int64.toInt_inj a b
  by_cases h1 : a > b
  · rw [if_pos h1]
    have := e.mp h1
    constructor
    · intro q; exact absurd q (by decide)
    · intro q; omega
  · rw [if_neg h1]
    have h1' : ¬ b.toInt < a.toInt := fun q => h1 (e.mpr q)
    by_cases h2 : a = b
    · rw [if_pos h2]
      constructor
      · intro q; exact absurd q (by decide)
      · intro q; rw [h2] at q; omega
    · rw [if_neg h2]
      have h2' : ¬ a.toInt = b.toInt := fun q => h2 (e2.mp q)
      constructor
      · intro _; omega
      · intro _; decide
theorem cmp_gt {a b : Int64} : 0 < lg_cmp a b ↔ b.toInt < a.toInt := by
  unfold lg_cmp
  have e := @Int64.lt_iff_toInt_lt b a
  by_cases h1 : a > b
  · rw [if_pos h1]
    exact ⟨fun _ => e.mp h1, fun _ => by decide⟩
  · rw [if_neg h1]
    have h1' : ¬ b.toInt < a.toInt := fun q => h1 (e.mpr q)
    by_cases h2 : a = b
    · rw [if_pos h2]
      exact ⟨fun q => absurd q (by decide), fun q => absurd q h1'⟩
    · rw [if_neg h2]
      exact ⟨fun q => absurd q (by decide), fun q => absurd q h1'⟩
theorem cmp_eq {a : Int64} : lg_cmp a a = 0 := by
  unfold lg_cmp
  have e := @Int64.lt_iff_toInt_lt a a
  rw [if_neg (fun q => by have := e.mp q; omega), if_pos rfl]
theorem isIn_s {y : Lay} {M : Mem} (a b c : Int64) : ((b.toInt ≤ a.toInt ∧ a.toInt ≤ c.toInt) ∧ f_X12_isIn y a b c M = some 1) ∨ (¬ (b.toInt ≤ a.toInt ∧ a.toInt ≤ c.toInt) ∧ f_X12_isIn y a b c M = some 0) := by
  unfold f_X12_isIn
  simp only [lT_s, jn_s, c0_s, cp_s, cx_s, cx_t]
  by_cases h1 : lg_cmp a b < 0
  · refine Or.inr ⟨fun e => ?_, (bR_t h1).trans (gd_t (by decide))⟩
    have := cmp_lt.mp h1
    omega
  · rw [bR_f h1]
    have h1' : ¬ a.toInt < b.toInt := fun e => h1 (cmp_lt.mpr e)
    by_cases h2 : 0 < lg_cmp a c
    · refine Or.inr ⟨fun e => ?_, (bR_t h2).trans (gd_t (by decide))⟩
      have := cmp_gt.mp h2
      omega
    · have h2' : ¬ c.toInt < a.toInt := fun e => h2 (cmp_gt.mpr e)
      exact Or.inl ⟨⟨by omega, by omega⟩, (bR_f h2).trans (gd_t (by decide))⟩
theorem isCell_s {y : Lay} (hy : LY y) {M : Mem} {w h : Nat} (g : GEO w h (M.1 77 0) (M.1 77 1)) (c : Int32) : (inN (w * h) c ∧ f_X12_isCell y 73 c M = some 1) ∨ (¬ inN (w * h) c ∧ f_X12_isCell y 73 c M = some 0) := by
  have h30 := g.n30
  have h1 := g.n1
  unfold f_X12_isCell
  simp only [lT_s, jn_s, c0_s, cp_s, cx_s, cx_t, gK_t (k_73 hy), gN_t (r := 73) (by decide), r_73_0 hy, r_73_1 hy, r_73_2 hy, r_73_5 hy, r_73_6 hy, r_73_7 hy, r_73_8 hy, r_73_9 hy, r_73_10 hy, r_73_11 hy, r_73_12 hy, r_73_13 hy, r_73_14 hy, r_73_28 hy, r_73_29 hy, r_73_30 hy, r_73_38 hy, r_73_39 hy, r_73_40 hy, r_73_42 hy, r_73_43 hy, r_73_44 hy, r_73_45 hy, r_73_46 hy, r_73_47 hy, r_73_48 hy, r_73_49 hy, r_73_50 hy, r_73_51 hy, r_73_53 hy, r_73_58 hy, r_73_59 hy, r_73_60 hy, r_73_61 hy, r_73_62 hy, r_73_63 hy, cellsG hy g]
  have e1 : n2 (w * h) - 1 = n2 (w * h - 1) := n2_sub (b := 1) h1
  rw [e1]
  have q := isIn_s (y := y) (M := M) c.toInt64 0 (n2 (w * h - 1)).toInt64
  rw [Int32.toInt_toInt64, Int32.toInt_toInt64, n2_int (by omega)] at q
  have z : (0 : Int64).toInt = 0 := rfl
  rw [z] at q
  rcases q with ⟨q1, q2⟩ | ⟨q1, q2⟩
  · rw [q2]
    exact Or.inl ⟨⟨q1.1, by omega⟩, gd_t (by decide)⟩
  · rw [q2]
    exact Or.inr ⟨fun e => q1 ⟨e.1, by have := e.2; omega⟩, gd_t (by decide)⟩
theorem isIn_r {y : Lay} {M : Mem} {a b : Nat} {la lb : Int64} (ha : la.toInt = a) (hb : lb.toInt = b) (c : Int32) : (inR a b c ∧ f_X12_isIn y c.toInt64 la lb M = some 1) ∨ (¬ inR a b c ∧ f_X12_isIn y c.toInt64 la lb M = some 0) := by
  have q := isIn_s (y := y) (M := M) c.toInt64 la lb
  rw [Int32.toInt_toInt64, ha, hb] at q
  exact q
theorem isGirl_0 {y : Lay} (hy : LY y) {M : Mem} (hg : M.1 77 2 = 0) (c : Int32) : f_X12_isGirl y 73 c M = some 0 := by
  unfold f_X12_isGirl
  have z2 : (2 : Int32).toNatClampNeg = 2 := rfl
  simp only [lT_s, jn_s, c0_s, cp_s, cx_s, cx_t, gK_t (k_73 hy), gN_t (r := 73) (by decide), r_73_0 hy, r_73_1 hy, r_73_2 hy, r_73_5 hy, r_73_6 hy, r_73_7 hy, r_73_8 hy, r_73_9 hy, r_73_10 hy, r_73_11 hy, r_73_12 hy, r_73_13 hy, r_73_14 hy, r_73_28 hy, r_73_29 hy, r_73_30 hy, r_73_38 hy, r_73_39 hy, r_73_40 hy, r_73_42 hy, r_73_43 hy, r_73_44 hy, r_73_45 hy, r_73_46 hy, r_73_47 hy, r_73_48 hy, r_73_49 hy, r_73_50 hy, r_73_51 hy, r_73_53 hy, r_73_58 hy, r_73_59 hy, r_73_60 hy, r_73_61 hy, r_73_62 hy, r_73_63 hy, gN_t (r := 77) (by decide), z2, hg]
  rw [gA_t (k_77 hy) (by decide)]
  have q := isIn_s (y := y) (M := M) c.toInt64 0 ((0 : Int32) - 1).toInt64
  rw [Int32.toInt_toInt64, Int32.toInt_toInt64] at q
  have z : (0 : Int64).toInt = 0 := rfl
  have z1 : ((0 : Int32) - 1).toInt = -1 := by decide
  rw [z, z1] at q
  rcases q with ⟨q1, q2⟩ | ⟨q1, q2⟩
  · omega
  · rw [q2]; exact gd_t (by decide)
theorem fail_s {y : Lay} (hy : LY y) {M : Mem} (k : Int32) : f_X12_fail y 73 k M = some (0, sr M 73 (up (M.1 73) 4 k)) := by
  unfold f_X12_fail
  simp only [lT_s, jn_s, c0_s, cp_s, cx_s, cx_t, gK_t (k_73 hy), gN_t (r := 73) (by decide), r_73_0 hy, r_73_1 hy, r_73_2 hy, r_73_5 hy, r_73_6 hy, r_73_7 hy, r_73_8 hy, r_73_9 hy, r_73_10 hy, r_73_11 hy, r_73_12 hy, r_73_13 hy, r_73_14 hy, r_73_28 hy, r_73_29 hy, r_73_30 hy, r_73_38 hy, r_73_39 hy, r_73_40 hy, r_73_42 hy, r_73_43 hy, r_73_44 hy, r_73_45 hy, r_73_46 hy, r_73_47 hy, r_73_48 hy, r_73_49 hy, r_73_50 hy, r_73_51 hy, r_73_53 hy, r_73_58 hy, r_73_59 hy, r_73_60 hy, r_73_61 hy, r_73_62 hy, r_73_63 hy, wI_sr]
/-! what class and model say of a call -/
/-- the class: it throws e, or answers r -/
def SPC (P : Nat × Int32) (o : Nat × Int32 × Mem) : Prop := o.1 = P.1 ∧ (P.1 = 0 → o.2.1 = P.2)
/-- the model: its code, its answer -/
def SPM (P : Nat × Int32) (o : Int32 × Mem) : Prop := o.2.1 73 4 = n2 P.1 ∧ (P.1 = 0 → o.1 = P.2)
/-- the class's own rows -/
def CROWS : List Nat := [1, 2, 3, 4, 5, 6, 7, 8, 9, 10, 11, 12, 13, 14, 15, 16, 17, 18, 19, 20, 21, 22, 23, 24, 25, 26, 27, 28, 29, 30, 31, 32, 33, 34, 35, 36, 37, 38, 39, 40, 41, 42, 43, 44, 45, 46, 47, 48, 49, 50, 51, 52, 53, 54, 55, 56, 57, 58, 59, 60, 61, 62, 63, 64, 65, 66, 67, 68, 69, 70, 71, 72]
