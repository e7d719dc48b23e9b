/-! ===== behind the constructors: the relation ===== -/
def zZ : Row := fun _ => 0
def S0 : Sk := (zZ, zZ, zZ, 0, 0, 20, 0, 0, 0)
def KZ (a b : Row) : KG := ((3, 3, 2, 60), (0, 0), (a, 0), (b, 0))
def mZ : Mm := (S0, (0, fun _ => S0), (0, zZ, zZ, zZ), zZ)
def AZ (a b : Row) : St := (KZ a b, mZ, (false, mZ), (0, zZ), -1)
theorem kok_Z (a b : Row) : KOK (KZ a b) := ⟨⟨⟨by show 1 ≤ 3; decide, by show 3 ≤ 6; decide⟩, by show 1 ≤ 3; decide, by show 3 ≤ 5; decide⟩, ⟨by show 2 ≤ 20; decide, by show 60 < 100; decide, by show 0 ≤ 6; decide⟩, ⟨Nat.zero_le _, fun h => absurd h (Nat.lt_irrefl 0)⟩, Nat.zero_le _, fun h => absurd h (Nat.lt_irrefl 0)⟩
theorem sok_Z (a b : Row) : SOK (KZ a b) S0 := ⟨⟨⟨fun _ => ⟨0, by decide, rfl⟩, fun _ _ => rfl⟩, fun _ _ _ => rfl⟩, ⟨fun _ => ⟨0, by show 0 < 9; decide, rfl⟩, fun _ _ => rfl⟩, ⟨fun _ => ⟨0, by decide, rfl⟩, fun _ _ => rfl⟩, ⟨20, by decide, rfl⟩⟩
theorem mok_Z (a b : Row) : MOK (KZ a b) mZ := ⟨⟨sok_Z a b, 0, by decide, rfl⟩, ⟨Nat.zero_le _, fun j hj => absurd hj (Nat.not_lt_zero j)⟩, Nat.zero_le _, fun j hj => absurd hj (Nat.not_lt_zero j)⟩
theorem val_Z (a b : Row) : VAL (AZ a b) := ⟨kok_Z a b, mok_Z a b, fun h => Bool.noConfusion h, Nat.zero_le _, fun j hj => absurd hj (Nat.not_lt_zero j)⟩
def BZ (M : Mem) : Prop := (rwQ M 4 [3, 3, 2, 60, 0, 0] = true ∧ rwQ M 5 be33 = true ∧ rwQ M 6 [0, 0, 0] = true ∧ rwQ M 9 [0, 0, 0] = true ∧ rwQ M 2 [0, 0] = true ∧ rwQ M 1 [0, 0, 0, 0, 0, 0, 0, 0, 0, 0, 0, 0, -1] = true) ∧ (rwQ M 30 [0, 0, 0, 0, 0, 0, 0] = true ∧ rwQ M 31 [0, 0] = true ∧ rwQ M 36 [0, 0, 0] = true ∧ rwQ M 37 [0, 0, 0, 0, 0, 0, 0, 0, 0, 20, 0, 0, 0] = true) ∧ (rwQ M 77 [3, 3, 0, 20, 2, 60, 0, 0, 0, 0, 0, 0, 0, 0, 0, 0, 0, 0] = true ∧ rwQ M 84 [0, 0, 0] = true ∧ rwQ M 73 [0, 0, 0, 0, 0, 0, 0, 0, 0, 0, 0, 0, 0, 0, 0, 0, 0, 0, 0, 0, 0, 0, 0, 0, -1, 0, 0, 0, 0, 0, 0, 0, 20, 0, 0, 0, 0, 0, 0, 0, 0, 0, 0, 0, 0, 0, 0, 0, 0, 0, 0, 0, 0, 0, 0, 0, 0, 0] = true) ∧ (M.1 38 = zZ ∧ M.1 41 = zZ ∧ M.1 42 = zZ ∧ M.1 52 = zZ ∧ M.1 55 = zZ ∧ M.1 56 = zZ ∧ M.1 59 = zZ ∧ M.1 62 = zZ ∧ M.1 63 = zZ) ∧ (M.1 85 = zZ ∧ M.1 87 = zZ ∧ M.1 88 = zZ)
theorem bz_S : BZ MZ := ⟨⟨e_4, e_5, e_6, e_9, e_2, e_1⟩, ⟨e_30, e_31, e_36, e_37⟩, ⟨e_77, e_84, e_73⟩, ⟨m_38, m_41, m_42, m_52, m_55, m_56, m_59, m_62, m_63⟩, ⟨m_85, m_87, m_88⟩⟩
theorem be_Z : ∀ c : Fin 30, be33.getD c.val 0 = if c.val < 9 then besP 3 9 c.val else 0 := by decide +kernel
theorem zr_Z {M : Mem} {a b c : Nat} (h1 : M.1 a = zZ) (h2 : M.1 b = zZ) (h3 : M.1 c = zZ) : ZR M a b c := ⟨fun _ _ => by rw [h1]; rfl, fun _ _ => by rw [h2]; rfl, fun _ _ => by rw [h3]; rfl⟩
theorem cr_Z {M : Mem} (h : BZ M) : CR (AZ (M.1 7) (M.1 10)) M := by
  obtain ⟨⟨b4, b5, b6, b9, b2, b1⟩, ⟨b30, b31, b36, b37⟩, -, ⟨c38, c41, c42, c52, c55, c56, c59, c62, c63⟩, -⟩ := h
  have g4 : ∀ k, k < 6 → M.1 4 k = [3, 3, 2, 60, 0, 0].getD k 0 := fun k hk => rwQ_get b4 hk
  have g37 : ∀ k, k < 13 → M.1 37 k = [0, 0, 0, 0, 0, 0, 0, 0, 0, 20, 0, 0, 0].getD k 0 := fun k hk => rwQ_get b37 hk
  have g1 : ∀ k, k < 13 → M.1 1 k = [0, 0, 0, 0, 0, 0, 0, 0, 0, 0, 0, 0, -1].getD k 0 := fun k hk => rwQ_get b1 hk
  refine ⟨⟨⟨g4 0 (by decide), g4 1 (by decide), g4 2 (by decide), g4 3 (by decide), g4 4 (by decide), g4 5 (by decide)⟩, fun c hc => ?_, ⟨rwQ_get b6 (k := 2) (by decide), rfl⟩, rwQ_get b9 (k := 2) (by decide), rfl⟩, ⟨?_, ⟨rwQ_get b31 (k := 1) (by decide), fun j hj => absurd hj (Nat.not_lt_zero j)⟩, ⟨rwQ_get b30 (k := 6) (by decide), fun j hj => absurd hj (Nat.not_lt_zero j)⟩, fun k hk => ?_⟩, ⟨zr_Z c52 c55 c56, zr_Z c59 c62 c63⟩, ⟨g1 11 (by decide), fun q => Bool.noConfusion q⟩, ⟨rwQ_get b2 (k := 1) (by decide), fun j hj => absurd hj (Nat.not_lt_zero j)⟩, g1 12 (by decide)⟩
  · rw [rwQ_get b5 (show c < be33.length from hc)]
    exact be_Z ⟨c, hc⟩
  · unfold skV
    rw [c38, c41, c42, g37 7 (by decide), g37 8 (by decide), g37 9 (by decide), g37 10 (by decide), g37 11 (by decide)]
    rfl
  · rw [rwQ_get b36 (show k < [(0 : Int32), 0, 0].length from hk)]
    show [(0 : Int32), 0, 0].getD k 0 = 0
    match k, hk with
    | 0, _ => rfl
    | 1, _ => rfl
    | 2, _ => rfl
theorem mr_Z {M : Mem} (h : BZ M) (a b : Row) : MR (AZ a b) M := by
  obtain ⟨-, -, ⟨b77, b84, b73⟩, -, c85, c87, c88⟩ := h
  have g77 : ∀ k, k < 18 → M.1 77 k = [3, 3, 0, 20, 2, 60, 0, 0, 0, 0, 0, 0, 0, 0, 0, 0, 0, 0].getD k 0 := fun k hk => rwQ_get b77 hk
  have g73 : ∀ k, k < 58 → M.1 73 k = [0, 0, 0, 0, 0, 0, 0, 0, 0, 0, 0, 0, 0, 0, 0, 0, 0, 0, 0, 0, 0, 0, 0, 0, -1, 0, 0, 0, 0, 0, 0, 0, 20, 0, 0, 0, 0, 0, 0, 0, 0, 0, 0, 0, 0, 0, 0, 0, 0, 0, 0, 0, 0, 0, 0, 0, 0, 0].getD k 0 := fun k hk => rwQ_get b73 hk
  refine ⟨⟨⟨g77 0 (by decide), g77 1 (by decide), g77 4 (by decide), g77 5 (by decide), g77 2 (by decide)⟩, fun j hj => absurd hj (Nat.not_lt_zero j), ⟨g77 6 (by decide), fun j hj => absurd hj (Nat.not_lt_zero j)⟩, g77 7 (by decide), fun j hj => absurd hj (Nat.not_lt_zero j)⟩, ⟨?_, ⟨g73 36 (by decide), fun j hj => absurd hj (Nat.not_lt_zero j)⟩, ⟨g73 37 (by decide), fun j hj => absurd hj (Nat.not_lt_zero j)⟩, fun k hk => ?_⟩, ⟨g73 55 (by decide), fun q => Bool.noConfusion q⟩, ⟨g73 15 (by decide), fun j hj => absurd hj (Nat.not_lt_zero j)⟩, g73 24 (by decide)⟩
  · unfold moV
    rw [c85, c87, c88, g73 34 (by decide), g73 35 (by decide), g73 32 (by decide), g73 33 (by decide), g73 31 (by decide)]
    rfl
  · rw [rwQ_get b84 (show k < [(0 : Int32), 0, 0].length from hk)]
    show [(0 : Int32), 0, 0].getD k 0 = 0
    match k, hk with
    | 0, _ => rfl
    | 1, _ => rfl
    | 2, _ => rfl
