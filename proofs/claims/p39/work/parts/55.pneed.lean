/-! ===== what the calls ask first ===== -/
abbrev inN (n : Nat) (c : Int32) : Prop := 0 ≤ c.toInt ∧ c.toInt < n
theorem inN_n {n : Nat} {c : Int32} (h : inN n c) : c = n2 c.toInt.toNat ∧ c.toInt.toNat < n := by
  obtain ⟨h1, h2⟩ := h
  exact ⟨n2_of h1, by omega⟩
theorem lt0 {c : Int32} : c < 0 ↔ c.toInt < 0 := i_lt
theorem needCell_s {y : Lay} (hy : LY y) {M : Mem} {w h : Nat} (g : GEO w h (M.1 4 0) (M.1 4 1)) (c : Int32) : (inN (w * h) c ∧ f_X11_needCell y 1 c M = some (0, 0, M)) ∨ (¬ inN (w * h) c ∧ f_X11_needCell y 1 c M = some (1, 0, M)) := by
  have h30 := g.n30
  unfold f_X11_needCell
  simp only [lT_s, jn_s, c0_s, cp_s, cx_s, cx_t, gK_t (k_1 hy), gN_t (r := 1) (by decide), r_1_0 hy, r_1_1 hy, r_1_2 hy, r_1_3 hy, r_1_4 hy, r_1_5 hy, r_1_6 hy, r_1_7 hy, r_1_8 hy, r_1_9 hy, r_1_10 hy, gK_t (k_4 hy), gN_t (r := 4) (by decide), r_4_6 hy, r_4_7 hy, r_4_8 hy, cells_4 hy g]
  by_cases h1 : c < 0
  · refine Or.inr ⟨fun e => ?_, bR_t h1⟩
    have := lt0.mp h1
    exact absurd e.1 (by omega)
  · rw [bR_f h1]
    have h1' : ¬ c.toInt < 0 := fun e => h1 (lt0.mpr e)
    by_cases h2 : c < n2 (w * h)
    · have := i_lt.mp h2
      rw [n2_int (by omega)] at this
      exact Or.inl ⟨⟨by omega, by omega⟩, bR_t h2⟩
    · refine Or.inr ⟨fun e => h2 (i_lt.mpr ?_), bR_f h2⟩
      rw [n2_int (by omega)]
      exact e.2
theorem needWhat_s {y : Lay} {M : Mem} {m : Nat} (hm : m < 1000) (c : Int32) : (inN (m + 1) c ∧ f_X11_needWhat y 1 c (n2 m) M = some (0, 0, M)) ∨ (¬ inN (m + 1) c ∧ f_X11_needWhat y 1 c (n2 m) M = some (1, 0, M)) := by
  unfold f_X11_needWhat
  simp only [lT_s, jn_s, c0_s, cp_s, cx_s, cx_t]
  by_cases h1 : c < 0
  · refine Or.inr ⟨fun e => ?_, bR_t h1⟩
    have := lt0.mp h1
    exact absurd e.1 (by omega)
  · rw [bR_f h1]
    have h1' : ¬ c.toInt < 0 := fun e => h1 (lt0.mpr e)
    by_cases h2 : c ≤ n2 m
    · have := i_le.mp h2
      rw [n2_int (by omega)] at this
      exact Or.inl ⟨⟨by omega, by omega⟩, bR_t h2⟩
    · refine Or.inr ⟨fun e => h2 (i_le.mpr ?_), bR_f h2⟩
      rw [n2_int (by omega)]
      have := e.2
      omega
abbrev inR (a b : Nat) (c : Int32) : Prop := (a : Int) ≤ c.toInt ∧ c.toInt ≤ b
theorem inR_n {a b : Nat} {c : Int32} (h : inR a b c) : c = n2 c.toInt.toNat ∧ a ≤ c.toInt.toNat ∧ c.toInt.toNat ≤ b := by
  obtain ⟨h1, h2⟩ := h
  exact ⟨n2_of (by omega), by omega, by omega⟩
theorem needWithin_s {y : Lay} {M : Mem} {a b : Nat} (ha : a < 1000) (hb : b < 1000) (c : Int32) : (inR a b c ∧ f_X11_needWithin y 1 c (n2 a) (n2 b) M = some (0, 0, M)) ∨ (¬ inR a b c ∧ f_X11_needWithin y 1 c (n2 a) (n2 b) M = some (2, 0, M)) := by
  unfold f_X11_needWithin
  simp only [lT_s, jn_s, c0_s, cp_s, cx_s, cx_t]
  by_cases h1 : c < n2 a
  · refine Or.inr ⟨fun e => ?_, bR_t h1⟩
    have := i_lt.mp h1
    rw [n2_int (by omega)] at this
    exact absurd e.1 (by omega)
  · rw [bR_f h1]
    have h1' : ¬ c.toInt < a := fun e => h1 (i_lt.mpr (by rw [n2_int (by omega)]; exact e))
    by_cases h2 : c ≤ n2 b
    · have := i_le.mp h2
      rw [n2_int (by omega)] at this
      exact Or.inl ⟨⟨by omega, by omega⟩, bR_t h2⟩
    · refine Or.inr ⟨fun e => h2 (i_le.mpr ?_), bR_f h2⟩
      rw [n2_int (by omega)]
      exact e.2
/-! the model asks -/
theorem cmp_lt {a b : Int64} : lg_cmp a b < 0 ↔ a.toInt < b.toInt := by
  unfold lg_cmp
  have e := @Int64.lt_iff_toInt_lt b a
  have e2 := @Int64.toInt_inj a b
  by_cases h1 : a > b
  · rw [if_pos h1]
    have := e.mp h1
    constructor
    · intro q; exact absurd q (by decide)
    · intro q; omega
  · rw [if_neg h1]
    have h1' : ¬ b.toInt < a.toInt := fun q => h1 (e.mpr q)
    by_cases h2 : a = b
    · rw [if_pos h2]
      constructor
      · intro q; exact absurd q (by decide)
      · intro q; rw [h2] at q; omega
    · rw [if_neg h2]
      have h2' : ¬ a.toInt = b.toInt := fun q => h2 (e2.mp q)
      constructor
      · intro _; omega
      · intro _; decide
theorem cmp_gt {a b : Int64} : 0 < lg_cmp a b ↔ b.toInt < a.toInt := by
  unfold lg_cmp
  have e := @Int64.lt_iff_toInt_lt b a
  by_cases h1 : a > b
  · rw [if_pos h1]
    exact ⟨fun _ => e.mp h1, fun _ => by decide⟩
  · rw [if_neg h1]
    have h1' : ¬ b.toInt < a.toInt := fun q => h1 (e.mpr q)
    by_cases h2 : a = b
    · rw [if_pos h2]
      exact ⟨fun q => absurd q (by decide), fun q => absurd q h1'⟩
    · rw [if_neg h2]
      exact ⟨fun q => absurd q (by decide), fun q => absurd q h1'⟩
theorem cmp_eq {a : Int64} : lg_cmp a a = 0 := by
  unfold lg_cmp
  have e := @Int64.lt_iff_toInt_lt a a
  rw [if_neg (fun q => by have := e.mp q; omega), if_pos rfl]
theorem isIn_s {y : Lay} {M : Mem} (a b c : Int64) : ((b.toInt ≤ a.toInt ∧ a.toInt ≤ c.toInt) ∧ f_X12_isIn y a b c M = some 1) ∨ (¬ (b.toInt ≤ a.toInt ∧ a.toInt ≤ c.toInt) ∧ f_X12_isIn y a b c M = some 0) := by
  unfold f_X12_isIn
  simp only [lT_s, jn_s, c0_s, cp_s, cx_s, cx_t]
  by_cases h1 : lg_cmp a b < 0
  · refine Or.inr ⟨fun e => ?_, (bR_t h1).trans (gd_t (by decide))⟩
    have := cmp_lt.mp h1
    omega
  · rw [bR_f h1]
    have h1' : ¬ a.toInt < b.toInt := fun e => h1 (cmp_lt.mpr e)
    by_cases h2 : 0 < lg_cmp a c
    · refine Or.inr ⟨fun e => ?_, (bR_t h2).trans (gd_t (by decide))⟩
      have := cmp_gt.mp h2
      omega
    · have h2' : ¬ c.toInt < a.toInt := fun e => h2 (cmp_gt.mpr e)
      exact Or.inl ⟨⟨by omega, by omega⟩, (bR_f h2).trans (gd_t (by decide))⟩
theorem isCell_s {y : Lay} (hy : LY y) {M : Mem} {w h : Nat} (g : GEO w h (M.1 77 0) (M.1 77 1)) (c : Int32) : (inN (w * h) c ∧ f_X12_isCell y 73 c M = some 1) ∨ (¬ inN (w * h) c ∧ f_X12_isCell y 73 c M = some 0) := by
  have h30 := g.n30
  have h1 := g.n1
  unfold f_X12_isCell
  simp only [lT_s, jn_s, c0_s, cp_s, cx_s, cx_t, gK_t (k_73 hy), gN_t (r := 73) (by decide), r_73_0 hy, r_73_1 hy, r_73_2 hy, r_73_5 hy, r_73_6 hy, r_73_7 hy, r_73_8 hy, r_73_9 hy, r_73_10 hy, r_73_11 hy, r_73_12 hy, r_73_13 hy, r_73_14 hy, r_73_28 hy, r_73_29 hy, r_73_30 hy, r_73_38 hy, r_73_39 hy, r_73_40 hy, r_73_42 hy, r_73_43 hy, r_73_44 hy, r_73_45 hy, r_73_46 hy, r_73_47 hy, r_73_48 hy, r_73_49 hy, r_73_50 hy, r_73_51 hy, r_73_53 hy, r_73_58 hy, r_73_59 hy, r_73_60 hy, r_73_61 hy, r_73_62 hy, r_73_63 hy, cellsG hy g]
  have e1 : n2 (w * h) - 1 = n2 (w * h - 1) := n2_sub (b := 1) h1
  rw [e1]
  have q := isIn_s (y := y) (M := M) c.toInt64 0 (n2 (w * h - 1)).toInt64
  rw [Int32.toInt_toInt64, Int32.toInt_toInt64, n2_int (by omega)] at q
  have z : (0 : Int64).toInt = 0 := rfl
  rw [z] at q
  rcases q with ⟨q1, q2⟩ | ⟨q1, q2⟩
  · rw [q2]
    exact Or.inl ⟨⟨q1.1, by omega⟩, gd_t (by decide)⟩
  · rw [q2]
    exact Or.inr ⟨fun e => q1 ⟨e.1, by have := e.2; omega⟩, gd_t (by decide)⟩
theorem isIn_r {y : Lay} {M : Mem} {a b : Nat} {la lb : Int64} (ha : la.toInt = a) (hb : lb.toInt = b) (c : Int32) : (inR a b c ∧ f_X12_isIn y c.toInt64 la lb M = some 1) ∨ (¬ inR a b c ∧ f_X12_isIn y c.toInt64 la lb M = some 0) := by
  have q := isIn_s (y := y) (M := M) c.toInt64 la lb
  rw [Int32.toInt_toInt64, ha, hb] at q
  exact q
theorem fail_s {y : Lay} (hy : LY y) {M : Mem} (k : Int32) : f_X12_fail y 73 k M = some (0, sr M 73 (up (M.1 73) 4 k)) := by
  unfold f_X12_fail
  simp only [lT_s, jn_s, c0_s, cp_s, cx_s, cx_t, gK_t (k_73 hy), gN_t (r := 73) (by decide), r_73_0 hy, r_73_1 hy, r_73_2 hy, r_73_5 hy, r_73_6 hy, r_73_7 hy, r_73_8 hy, r_73_9 hy, r_73_10 hy, r_73_11 hy, r_73_12 hy, r_73_13 hy, r_73_14 hy, r_73_28 hy, r_73_29 hy, r_73_30 hy, r_73_38 hy, r_73_39 hy, r_73_40 hy, r_73_42 hy, r_73_43 hy, r_73_44 hy, r_73_45 hy, r_73_46 hy, r_73_47 hy, r_73_48 hy, r_73_49 hy, r_73_50 hy, r_73_51 hy, r_73_53 hy, r_73_58 hy, r_73_59 hy, r_73_60 hy, r_73_61 hy, r_73_62 hy, r_73_63 hy, wI_sr]
theorem needGirl_s {y : Lay} (hy : LY y) {M : Mem} {g : Nat} (hg : M.1 4 4 = n2 g) (hg6 : g ≤ 6) (c : Int32) : (inN g c ∧ f_X11_needGirl y 1 c M = some (0, 0, M)) ∨ (¬ inN g c ∧ f_X11_needGirl y 1 c M = some (1, 0, M)) := by
  unfold f_X11_needGirl
  simp only [lT_s, jn_s, c0_s, cp_s, cx_s, cx_t, gK_t (k_1 hy), gN_t (r := 1) (by decide), r_1_0 hy, r_1_1 hy, r_1_2 hy, r_1_3 hy, r_1_4 hy, r_1_5 hy, r_1_6 hy, r_1_7 hy, r_1_8 hy, r_1_9 hy, r_1_10 hy, gK_t (k_4 hy), gN_t (r := 4) (by decide), r_4_6 hy, r_4_7 hy, r_4_8 hy, hg]
  by_cases h1 : c < 0
  · refine Or.inr ⟨fun e => ?_, bR_t h1⟩
    have := lt0.mp h1
    exact absurd e.1 (by omega)
  · rw [bR_f h1]
    have h1' : ¬ c.toInt < 0 := fun e => h1 (lt0.mpr e)
    by_cases h2 : c < n2 g
    · have := i_lt.mp h2
      rw [n2_int (by omega)] at this
      exact Or.inl ⟨⟨by omega, by omega⟩, bR_t h2⟩
    · refine Or.inr ⟨fun e => h2 (i_lt.mpr ?_), bR_f h2⟩
      rw [n2_int (by omega)]
      exact e.2
theorem g_1 : ∀ g : Fin 7, (n2 g.val - 1).toInt = (g.val : Int) - 1 := by decide +kernel
theorem isGirl_s {y : Lay} (hy : LY y) {M : Mem} {g : Nat} (hg : M.1 77 2 = n2 g) (hg6 : g ≤ 6) (c : Int32) : (inN g c ∧ f_X12_isGirl y 73 c M = some 1) ∨ (¬ inN g c ∧ f_X12_isGirl y 73 c M = some 0) := by
  unfold f_X12_isGirl
  have z2 : (2 : Int32).toNatClampNeg = 2 := rfl
  simp only [lT_s, jn_s, c0_s, cp_s, cx_s, cx_t, gK_t (k_73 hy), gN_t (r := 73) (by decide), r_73_0 hy, r_73_1 hy, r_73_2 hy, r_73_5 hy, r_73_6 hy, r_73_7 hy, r_73_8 hy, r_73_9 hy, r_73_10 hy, r_73_11 hy, r_73_12 hy, r_73_13 hy, r_73_14 hy, r_73_28 hy, r_73_29 hy, r_73_30 hy, r_73_38 hy, r_73_39 hy, r_73_40 hy, r_73_42 hy, r_73_43 hy, r_73_44 hy, r_73_45 hy, r_73_46 hy, r_73_47 hy, r_73_48 hy, r_73_49 hy, r_73_50 hy, r_73_51 hy, r_73_53 hy, r_73_58 hy, r_73_59 hy, r_73_60 hy, r_73_61 hy, r_73_62 hy, r_73_63 hy, gN_t (r := 77) (by decide), z2, hg]
  rw [gA_t (k_77 hy) (by decide)]
  have q := isIn_s (y := y) (M := M) c.toInt64 0 (n2 g - 1).toInt64
  have h1 := g_1 ⟨g, by omega⟩
  dsimp only at h1
  rw [Int32.toInt_toInt64, Int32.toInt_toInt64, h1] at q
  have z : (0 : Int64).toInt = 0 := rfl
  rw [z] at q
  rcases q with ⟨q1, q2⟩ | ⟨q1, q2⟩
  · rw [q2]
    exact Or.inl ⟨⟨q1.1, by omega⟩, gd_t (by decide)⟩
  · rw [q2]
    exact Or.inr ⟨fun e => q1 ⟨e.1, by have := e.2; omega⟩, gd_t (by decide)⟩
/-! what a call is: class and model -/
/-- the class: it throws P.1, or answers P.2, and holds A -/
def OC (A : St) (P : Nat × Int32) (M : Mem) (o : Nat × Int32 × Mem) : Prop := o.1 = P.1 ∧ (P.1 = 0 → o.2.1 = P.2) ∧ CR A o.2.2 ∧ kM M o.2.2
/-- the class, a call that throws nothing -/
def OD (A : St) (R : Int32) (M : Mem) (o : Int32 × Mem) : Prop := o.1 = R ∧ CR A o.2 ∧ kM M o.2
/-- the model: its code, its answer -/
def OM (A : St) (P : Nat × Int32) (M : Mem) (o : Int32 × Mem) : Prop := o.2.1 73 4 = n2 P.1 ∧ (P.1 = 0 → o.1 = P.2) ∧ MR A o.2 ∧ kC M o.2
theorem OC.thr {A : St} {M : Mem} {e : Nat} {r : Int32} (h : CR A M) (he : e ≠ 0) : wp (some (e, (0 : Int32), M)) (OC A (e, r) M) := wp_some ⟨rfl, fun q => absurd q he, h, kM.refl M⟩
theorem OC.ret {A : St} {M N : Mem} {r : Int32} (h : CR A N) (k : kM M N) : wp (some (0, r, N)) (OC A (0, r) M) := wp_some ⟨rfl, fun _ => rfl, h, k⟩
theorem kC_sr {M N : Mem} {p : Nat} {f : Row} (h : kC M N) (hp : 73 ≤ p) : kC M (sr N p f) := ⟨h.1, fun q hq => by rw [sr_ne (by omega)]; exact h.2 q hq⟩
theorem kM_sr {M N : Mem} {p : Nat} {f : Row} (h : kM M N) (hp : p < 73) : kM M (sr N p f) := fun q hq => by rw [sr_ne (by omega)]; exact h q hq
/-- rows of the model's own that hold nothing of it -/
theorem MR.upd {A : St} {M N : Mem} (h : MR A M) (e : Eqx [73, 84, 87, 88, 89, 90, 91, 92, 93, 94, 95, 96, 97, 98, 99, 100, 101, 102, 103] M N) (e73 : N.1 73 15 = M.1 73 15 ∧ N.1 73 24 = M.1 73 24 ∧ N.1 73 55 = M.1 73 55 ∧ N.1 73 56 = M.1 73 56 ∧ N.1 73 57 = M.1 73 57) {m : Mm} (hm : MPR N m) : MR (aK A, m, aI A, aT A, aF A) N := by
  obtain ⟨h1, h2, h3, h4, h5⟩ := h
  obtain ⟨a1, a2, a3, a4, a5⟩ := e73
  refine ⟨h1.eqx e (by decide), hm, ?_, ?_, ?_⟩
  · unfold MPI at h3 ⊢
    rw [a3, a4, a5, e.2 104 (by decide), e.2 105 (by decide), e.2 106 (by decide), e.2 107 (by decide), e.2 108 (by decide), e.2 109 (by decide)]
    exact h3
  · rw [a1, e.2 86 (by decide)]
    exact h4
  · rw [a2]; exact h5
theorem CR.upd {A : St} {M N : Mem} (h : CR A M) (e : Eqx [8, 11, 30, 31, 32, 33, 34, 35, 36, 37, 38, 39, 40, 41, 42, 43] M N) {m : Mm} (hm : CPR N m) : CR (aK A, m, aI A, aT A, aF A) N := by
  obtain ⟨h1, h2, h3, h4, h5, h6⟩ := h
  have k : ∀ p, [1, 2, 3, 52, 55, 56, 59, 62, 63, 44, 51, 45, 46, 47, 48, 49, 50].contains p = true → N.1 p = M.1 p := fun p hp => e.2 p (fun hq => by
    simp only [List.mem_cons, List.not_mem_nil, or_false] at hq
    rcases hq with rfl | rfl | rfl | rfl | rfl | rfl | rfl | rfl | rfl | rfl | rfl | rfl | rfl | rfl | rfl | rfl <;> cases hp)
  refine ⟨h1.eqx e (by decide), hm, ?_, ?_, ?_, ?_⟩
  · unfold ZR at h3 ⊢
    rw [k 52 (by decide), k 55 (by decide), k 56 (by decide), k 59 (by decide), k 62 (by decide), k 63 (by decide)]
    exact h3
  · rw [k 1 (by decide)]
    refine ⟨h4.1, fun q => CMM.frame (h4.2 q) (fun p hp => k p ?_)⟩
    simp only [List.mem_cons, List.not_mem_nil, or_false] at hp
    rcases hp with rfl | rfl | rfl | rfl | rfl | rfl | rfl | rfl | rfl | rfl | rfl <;> rfl
  · unfold CTP at h5 ⊢
    rw [k 2 (by decide), k 3 (by decide)]
    exact h5
  · rw [k 1 (by decide)]; exact h6
/-- the model's code is none of what it holds -/
theorem MR.code {A : St} {M : Mem} (h : MR A M) (k : Int32) : MR A (sr M 73 (up (M.1 73) 4 k)) := by
  refine MR.upd h ((Eqx.refl _ _).sr (by decide)) ⟨?_, ?_, ?_, ?_, ?_⟩ ?_
  · rw [sr_ap]; rfl
  · rw [sr_ap]; rfl
  · rw [sr_ap]; rfl
  · rw [sr_ap]; rfl
  · rw [sr_ap]; rfl
  · exact h.2.1
theorem OM.fail {y : Lay} (hy : LY y) {A : St} {M N : Mem} {e : Nat} {k r : Int32} (hk : k = n2 e) (he : e ≠ 0) (h : MR A N) (g : kC M N) : wp (c0 (f_X12_fail y 73 k N) fun (r : Int32) (M' : Mem) => some (r, M')) (OM A (e, r) M) := by
  rw [fail_s hy, c0_s]
  refine wp_some ⟨?_, fun q => absurd q he, h.code k, kC_sr g (by decide)⟩
  rw [sr_ap, up_eq, hk]
theorem OM.ret {A : St} {M N : Mem} {r : Int32} (h : MR A N) (g : kC M N) (hc : N.1 73 4 = 0) : wp (some (r, N)) (OM A (0, r) M) := wp_some ⟨hc, fun _ => rfl, h, g⟩
/-- the class's views -/
theorem CR.v {A : St} {M : Mem} (h : CR A M) : (M.1 38 = sB (aS A) ∧ M.1 41 = sSp (aS A) ∧ M.1 42 = sSk (aS A)) ∧ M.1 37 7 = sPg (aS A) ∧ M.1 37 8 = sRs (aS A) ∧ M.1 37 9 = sKn (aS A) ∧ M.1 37 10 = sMa (aS A) ∧ M.1 37 11 = sDy (aS A) := by
  have e : vo (skV M 37 38 41 42) = vo (aS A) := h.2.1.1
  exact ⟨⟨congrArg sB e, congrArg sSp e, congrArg sSk e⟩, congrArg sPg e, congrArg sRs e, congrArg sKn e, congrArg sMa e, congrArg sDy e⟩
theorem MR.v {A : St} {M : Mem} (h : MR A M) : (M.1 87 = sB (aS A) ∧ M.1 88 = sSp (aS A) ∧ M.1 85 = sSk (aS A)) ∧ M.1 73 34 = sPg (aS A) ∧ M.1 73 35 = sRs (aS A) ∧ M.1 73 32 = sKn (aS A) ∧ M.1 73 33 = sMa (aS A) ∧ M.1 73 31 = sDy (aS A) := by
  have e : vo (moV M) = vo (aS A) := h.2.1.1
  exact ⟨⟨congrArg sB e, congrArg sSp e, congrArg sSk e⟩, congrArg sPg e, congrArg sRs e, congrArg sKn e, congrArg sMa e, congrArg sDy e⟩
theorem MR.sok {A : St} {M : Mem} (h : MR A M) (v : VAL A) : SOK (aK A) (moV M) := SOK.eqo v.2.1.1.1 h.2.1.1.symm
theorem pDays_eqo {K : KG} {S T : Sk} (h : vo S = vo T) (d : Nat) : vo (pDays K S d) = vo (pDays K T d) := by
  rw [← pDays_vo K S, h, pDays_vo]
