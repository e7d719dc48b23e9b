/-! ===== a new object ===== -/
def K0 : KK := (3, 3, 2, 60)
def zr : Row := fun _ => 0
def SD (d : Int32) : Sk := (zr, zr, zr, 0, 0, 20, 0, d, 0)
theorem g_4 {k : Nat} (hk : k < 6) : MS.1 4 k = [3, 3, 2, 60, 0, 0].getD k 0 := rwB_get e_4 hk
theorem g_9 : MS.1 9 2 = 0 := rwB_get e_9 (k := 2) (by decide)
theorem g_37 {k : Nat} (hk : k < 13) : MS.1 37 k = [0, 0, 0, 0, 0, 0, 0, 0, 0, 20, 0, 0, 0].getD k 0 := rwB_get e_37 hk
theorem g_77 {k : Nat} (hk : k < 18) : MS.1 77 k = [3, 3, 0, 20, 2, 60, 0, 0, 0, 0, 0, 0, 0, 0, 0, 0, 0, 0].getD k 0 := rwB_get e_77 hk
theorem g_73 {k : Nat} (hk : k < 58) : MS.1 73 k = [0, 0, 0, 0, 0, 0, 0, 0, 0, 0, 0, 0, 0, 0, 0, 0, 0, 0, 0, 0, 0, 0, 0, 0, -1, 0, 0, 0, 0, 0, 0, 0, 20, 0, 0, 0, 0, 0, 0, 0, 0, 0, 0, 0, 0, 0, 0, 0, 0, 0, 0, 0, 0, 0, 0, 0, 0, 0].getD k 0 := rwB_get e_73 hk
theorem coa_S : COA K0 MS := by
  refine ⟨⟨⟨⟨by decide, by decide⟩, ⟨by decide, by decide⟩, ?_, ?_⟩, ⟨?_, by decide⟩, ⟨?_, by decide⟩⟩, ?_, g_9⟩
  · rw [g_4 (by decide)]; rfl
  · rw [g_4 (by decide)]; rfl
  · rw [g_4 (by decide)]; rfl
  · rw [g_4 (by decide)]; rfl
  · rw [g_4 (by decide)]; rfl
theorem skv_S : skV MS 37 38 41 42 = SD 0 := by
  unfold skV
  rw [m_38, m_41, m_42, g_37 (by decide), g_37 (by decide), g_37 (by decide), g_37 (by decide), g_37 (by decide), g_37 (by decide)]
  rfl
theorem bok_z (n : Nat) : BOK n zr := ⟨fun _ => ⟨0, by decide, rfl⟩, fun _ _ => rfl⟩
theorem sok_d (d : Int32) : SOK K0 (SD d) := ⟨bok_z _, fun _ _ => rfl, fun _ _ => rfl⟩
theorem zt_S : ZT MS := by
  refine ⟨fun k _ => ?_, fun k _ => ?_, fun k _ => ?_⟩
  · rw [m_59]
  · rw [m_62]
  · rw [m_63]
/-- the model's rows are as they were -/
def MEQ (N : Mem) : Prop := ∀ p, p ∉ CROWS → N.1 p = MS.1 p
theorem com_S {N : Mem} (h : MEQ N) : COM K0 N := by
  have e := h 77 (by decide)
  refine ⟨⟨⟨⟨by decide, by decide⟩, ⟨by decide, by decide⟩, ?_, ?_⟩, ⟨?_, by decide⟩, ⟨?_, by decide⟩⟩, ?_, ?_⟩
  · rw [e, g_77 (by decide)]; rfl
  · rw [e, g_77 (by decide)]; rfl
  · rw [e, g_77 (by decide)]; rfl
  · rw [e, g_77 (by decide)]; rfl
  · rw [e, g_77 (by decide)]; rfl
  · rw [e, g_77 (by decide)]; rfl
theorem mov_S {N : Mem} (h : MEQ N) : moV N = SD 0 := by
  unfold moV
  rw [h 87 (by decide), h 88 (by decide), h 85 (by decide), h 73 (by decide), m_87, m_88, m_85, g_73 (by decide), g_73 (by decide), g_73 (by decide), g_73 (by decide), g_73 (by decide), g_73 (by decide)]
  rfl
theorem nB_z : nB (n2 2) zr = zr := by
  have e1 : nB1 (n2 2) zr = zr := by
    funext k
    unfold nB1 rowTo zr
    by_cases h : k < 30
    · rw [if_pos h]; rfl
    · rw [if_neg h]
  unfold nB
  rw [e1]
  funext k
  unfold rowTo zr
  by_cases h : k < 30
  · rw [if_pos h]; rfl
  · rw [if_neg h]
theorem ov_z : ovB (n2 60) zr = 0 := by decide +kernel
theorem bc_z : bcJ 0 = 0 := by decide +kernel
theorem pd_z (d : Int32) : pDay K0 (SD d) = SD (d + 1) := by
  unfold pDay SD K0
  dsimp only
  rw [nB_z, ov_z, bc_z]
  rfl
theorem pds_z (d : Nat) : it (fun _ => pDay K0) (SD 0) d = SD (n2 d) := by
  induction d with
  | zero => rfl
  | succ d ih => rw [it_s, ih, pd_z, n2_s]
theorem skv_l {M : Mem} {s b sp sk : Nat} {d : Int32} (h : skV M s b sp sk = SD d) : M.1 b = zr ∧ M.1 s 7 = 0 ∧ M.1 s 9 = 20 ∧ M.1 s 10 = 0 ∧ M.1 s 11 = d ∧ M.1 s 12 = 0 := by
  unfold skV SD at h
  simp only [Prod.mk.injEq] at h
  obtain ⟨h1, h2, h3, h4, h5, h6, h7, h8, h9⟩ := h
  exact ⟨h1, h4, h6, h7, h8, h9⟩
theorem mov_l {M : Mem} {d : Int32} (h : moV M = SD d) : M.1 87 = zr ∧ M.1 88 = zr ∧ M.1 73 34 = 0 ∧ M.1 73 32 = 20 ∧ M.1 73 33 = 0 ∧ M.1 73 31 = d ∧ M.1 73 41 = 0 := by
  unfold moV SD at h
  simp only [Prod.mk.injEq] at h
  obtain ⟨h1, h2, h3, h4, h5, h6, h7, h8, h9⟩ := h
  exact ⟨h1, h2, h4, h6, h7, h8, h9⟩
/-! the law's two calls -/
theorem thrown_s {y : Lay} (hy : LY y) {M : Mem} : f_X12_thrown y 73 M = some (M.1 73 4) := by
  unfold f_X12_thrown
  simp only [gK_t (k_73 hy), gN_t (r := 73) (by decide), r_73_0 hy, r_73_1 hy, r_73_2 hy, r_73_5 hy, r_73_6 hy, r_73_7 hy, r_73_8 hy, r_73_9 hy, r_73_10 hy, r_73_11 hy, r_73_12 hy, r_73_13 hy, r_73_14 hy, r_73_28 hy, r_73_29 hy, r_73_30 hy, r_73_38 hy, r_73_39 hy, r_73_40 hy, r_73_42 hy, r_73_43 hy, r_73_44 hy, r_73_45 hy, r_73_46 hy, r_73_47 hy, r_73_48 hy, r_73_49 hy, r_73_50 hy, r_73_51 hy, r_73_53 hy, r_73_58 hy, r_73_59 hy, r_73_60 hy, r_73_61 hy, r_73_62 hy, r_73_63 hy]
theorem chain2 {y : Lay} (hy : LY y) {x : Option (Nat × Int32 × Mem)} {m : Mem → Option (Int32 × Mem)} {P : Nat × Int32} {Q : Int32 → Prop} {J : Mem → Option Int32} {FR : Mem → Prop}
    (hx : wp x (fun o => SPC P o ∧ FR o.2.2)) (hfr : ∀ N r, FR N → FR (wL N 110 0 r)) (hm : ∀ N, FR N → wp (m N) (fun o => SPM P o ∧ o.2.2 = N.2)) (hP : P.1 ≤ 2) (hJ : ∀ N, wp (J N) Q) :
    wp (c0 (gK y 1 (0, 11) (ct x (fun (M4 : Mem) => some ((1 : Int32), M4)) (fun (M5 : Mem) => some ((2 : Int32), M5)) fun (r2 : Int32) (M3 : Mem) => gA y 110 3 (0 : Int32) (lt (wL M3 110 (0 : Int32).toNatClampNeg (r2.toInt64)) fun (M7 : Mem) => some ((0 : Int32), M7)))) (fun (r : Int32) (M1 : Mem) => gK y 73 (0, 12) (c0 (m M1) fun (b : Int32) (M2 : Mem) => cp (f_X12_thrown y 73 M2) fun (t : Int32) => br (t = r) (jn (fun (_u : Unit) => J M2) fun j => br (r = 0) (gA y 110 3 (0 : Int32) (br ((lg_cmp (M2.2.1 110 (0 : Int32).toNatClampNeg) (b.toInt64)) = 0) (j ()) (some (0 : Int32)))) (j ())) (some (0 : Int32))))) Q := by
  obtain ⟨⟨e, r, M1⟩, rfl, ⟨h1, h2⟩, h3⟩ := hx
  have h1 : e = P.1 := h1
  have h2 : P.1 = 0 → r = P.2 := h2
  have h3 : FR M1 := h3
  subst h1
  obtain ⟨p1, p2⟩ := P
  dsimp only at h2 hP ⊢
  have hgo : ∀ (r : Int32) (N : Mem), FR N → (p1 = 0 → N.2.1 110 0 = r.toInt64 ∧ r = p2) → ∀ t, t = n2 p1 → wp (gK y 73 (0, 12) (c0 (m N) fun (b : Int32) (M2 : Mem) => cp (f_X12_thrown y 73 M2) fun (q : Int32) => br (q = t) (jn (fun (_u : Unit) => J M2) fun j => br (t = 0) (gA y 110 3 (0 : Int32) (br ((lg_cmp (M2.2.1 110 (0 : Int32).toNatClampNeg) (b.toInt64)) = 0) (j ()) (some (0 : Int32)))) (j ())) (some (0 : Int32)))) Q := by
    intro r N hN hr t ht
    subst ht
    rw [gK_t (k_73 hy)]
    refine wp_c0 _ (hm N hN) (fun b M2 h => ?_)
    obtain ⟨⟨q1, q2⟩, q3⟩ := h
    have q1 : M2.1 73 4 = n2 p1 := q1
    have q2 : p1 = 0 → b = p2 := q2
    have q3 : M2.2 = N.2 := q3
    rw [thrown_s hy, q1]
    simp only [cp_s, jn_s]
    refine wp_brt trivial ?_
    by_cases hp : p1 = 0
    · subst hp
      refine wp_brt rfl ?_
      rw [gA_t (k_110 hy) (by decide)]
      have e0 : (0 : Int32).toNatClampNeg = 0 := rfl
      rw [q3, e0, (hr rfl).1, (hr rfl).2, q2 rfl]
      exact wp_brt cmp_eq (hJ _)
    · exact wp_brf (fun e => hp ((n2_inj (j := 0) (by omega) (by decide)).mp e)) (hJ _)
  rw [gK_t (k_1 hy)]
  match p1, hP with
  | 0, _ =>
    show wp (c0 (gA y 110 3 (0 : Int32) (lt (wL M1 110 (0 : Int32).toNatClampNeg (r.toInt64)) fun (M7 : Mem) => some ((0 : Int32), M7))) _) Q
    rw [gA_t (k_110 hy) (by decide)]
    exact hgo r _ (hfr M1 r.toInt64 h3) (fun _ => ⟨rfl, h2 rfl⟩) 0 rfl
  | 1, _ => exact hgo r M1 h3 (fun h => absurd h (by decide)) 1 rfl
  | 2, _ => exact hgo r M1 h3 (fun h => absurd h (by decide)) 2 rfl
  | k + 3, h => omega
/-- with one kind of throw -/
theorem ct_none {x : Option (Nat × Int32 × Mem)} {a : Mem → Option (Int32 × Mem)} {b : Mem → Option (Int32 × Mem)} {k : Int32 → Mem → Option (Int32 × Mem)} {R : Nat × Int32 × Mem → Prop} (hx : wp x R) (h : ∀ o, R o → o.1 ≤ 1) : ct x a (fun _ => none) k = ct x a b k := by
  obtain ⟨⟨e, r, M⟩, rfl, hR⟩ := hx
  have := h _ hR
  match e, this with
  | 0, _ => rfl
  | 1, _ => rfl
  | e + 2, h => exact absurd h (by simp)
