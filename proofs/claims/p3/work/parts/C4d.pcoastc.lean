/-! ===== coast, compared ===== -/
theorem c_coast {y : Lay} (hy : LY y) {A : St} {M : Mem} (h : HR A M) (n : Int32) {Q : Int32 → Prop} {J : Mem → Option Int32} (hJ : ∀ N, HX N → wp (J N) Q) :
    wp (c0 (f_L_coast y 1 n 110 M) (fun (r : Int32) (M1 : Mem) => gK y 73 (0, 12) (c0 (f_X12_coast y 73 n M1) fun (b : Int32) (M2 : Mem) => cp (f_X12_thrown y 73 M2) fun (t : Int32) => br (t = r) (jn (fun (_u : Unit) => J M2) fun j => br (r = 0) (gA y 110 3 (0 : Int32) (br ((lg_cmp (M2.2.1 110 (0 : Int32).toNatClampNeg) (b.toInt64)) = 0) (j ()) (some (0 : Int32)))) (j ())) (some (0 : Int32))))) Q := by
  unfold f_L_coast
  obtain ⟨v, hc, hm⟩ := h
  obtain ⟨u, w0, eu, -, A0, P0, P0', -, hu, -, hP0⟩ := coast_J hy hc hm v n
  have hl : ∀ (A' : St) (P : Nat × Int32) (c : Nat), OC A' P M u → ((P.1 = 0 ∧ c = 0) ∨ (P.1 = 2 ∧ c = 1)) → wp (gK y 1 (0, 11) (ct (f_X11_coast y 1 n M) (fun (_ : Mem) => none) (fun (M5 : Mem) => some ((1 : Int32), M5)) fun (r2 : Int32) (M3 : Mem) => gA y 110 3 (0 : Int32) (lt (wL M3 110 (0 : Int32).toNatClampNeg (r2.toInt64)) fun (M7 : Mem) => some ((0 : Int32), M7)))) (OL A' c P.2 M) := fun A' P c q e => lop2 hy (c := c) (⟨u, eu, q⟩ : wp _ (OC A' P M)) e
  have cz : ∀ {P P' : Nat × Int32}, ((P.1 = 0 ∧ P' = P) ∨ (P = (2, 0) ∧ P' = (1, 0))) → ((P.1 = 0 ∧ P'.1 = 0) ∨ (P.1 = 2 ∧ P'.1 = 1)) ∧ (P'.1 = 0 → P'.2 = P.2) ∧ P'.1 ≤ 1 := fun e => by
    rcases e with ⟨e1, e2⟩ | ⟨e1, e2⟩
    · rw [e2]; exact ⟨Or.inl ⟨e1, e1⟩, fun _ => rfl, by rw [e1]; exact Nat.zero_le _⟩
    · rw [e1, e2]; exact ⟨Or.inr ⟨rfl, rfl⟩, fun q => absurd q (by decide), Nat.le_refl _⟩
  obtain ⟨⟨r, M1⟩, e1, -, -, -, h2⟩ := hl A0 P0 P0'.1 hu (cz hP0).1
  refine wp_c0 (fun o => o = (r, M1)) ⟨_, e1, rfl⟩ (fun r' M1' q => ?_)
  cases q
  rw [gK_t (k_73 hy)]
  obtain ⟨u', w, eu', ew, A1, P1, P1', v1, hu1, hw, hP1⟩ := coast_J hy hc (hm.kM h2) v n
  rw [eu] at eu'
  cases eu'
  obtain ⟨z1, z2, z3⟩ := cz hP1
  obtain ⟨⟨r3, M3⟩, e3, q1, q2, q3, -⟩ := hl A1 P1 P1'.1 hu1 z1
  rw [e1] at e3
  cases e3
  refine wp_c0 (fun o => o = w) ⟨_, ew, rfl⟩ (fun b M2 q => ?_)
  cases q
  obtain ⟨p1, p2, p3, p4⟩ := hw
  have hl2 := coast_l ew
  dsimp only at q1 q2 q3 p1 p2 p3 p4 hl2
  have hN : HX M2 := ⟨A1, v1, q3.kC1 p4, p3⟩
  rw [thrown_s hy, cp_s, p1, q1]
  refine wp_brt rfl ?_
  rw [jn_s]
  refine wp_br (fun e => ?_) (fun _ => hJ M2 hN)
  have ec : P1'.1 = 0 := (n2_inj (by omega) (by decide)).mp e
  rw [gA_t (k_110 hy) (by decide), zcn, hl2, q2 ec, p2 ec, z2 ec]
  exact wp_brt cmp_eq (hJ M2 hN)
