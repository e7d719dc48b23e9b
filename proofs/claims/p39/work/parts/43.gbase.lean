/-! ===== the base of the general theory: bits, rows of blue, what the model asks ===== -/
theorem isOf_s {y : Lay} {x : Int32} {c : Nat} {M : Mem} : f_X12_isOf y x (n2 c) M = some (if bt x c = 1 then 1 else 0) := by
  unfold f_X12_isOf bt
  simp only [jn_s]
  by_cases h : ((x >>> (n2 c &&& 31)) &&& 1) = 1
  · rw [bR_t h, gd_t (Or.inr trivial), if_pos h]
  · rw [bR_f h, gd_t (Or.inl trivial), if_neg h]
theorem cellsM {y : Lay} (hy : LY y) {M : Mem} : f_X12_cells y 73 M = some (M.1 77 0 * M.1 77 1) := by
  unfold f_X12_cells
  simp only [gK_t (k_73 hy), gN_t (r := 73) (by decide), r_73_0 hy, r_73_1 hy, r_73_2 hy, r_73_5 hy, r_73_6 hy, r_73_7 hy, r_73_8 hy, r_73_9 hy, r_73_10 hy, r_73_11 hy, r_73_12 hy, r_73_13 hy, r_73_14 hy, r_73_28 hy, r_73_29 hy, r_73_30 hy, r_73_38 hy, r_73_39 hy, r_73_40 hy, r_73_42 hy, r_73_43 hy, r_73_44 hy, r_73_45 hy, r_73_46 hy, r_73_47 hy, r_73_48 hy, r_73_49 hy, r_73_50 hy, r_73_51 hy, r_73_53 hy, r_73_58 hy, r_73_59 hy, r_73_60 hy, r_73_61 hy, r_73_62 hy, r_73_63 hy, gN_t (r := 77) (by decide)]
  rw [gA_t (k_77 hy) (by decide), gA_t (k_77 hy) (by decide)]
  rfl
theorem bit_n : ∀ c : Fin 31, bit c.val = n2 (2 ^ c.val) := by decide +kernel
theorem ov_n2 (bd : Int32) (B : Row) : ∀ n, n ≤ 31 → ∃ m, m < 2 ^ n ∧ it (ovF bd B) 0 n = n2 m := by
  intro n
  induction n with
  | zero => intro _; exact ⟨0, by decide, rfl⟩
  | succ n ih =>
    intro hn
    obtain ⟨m, h1, h2⟩ := ih (by omega)
    rw [it_s, h2]
    unfold ovF
    by_cases h : B n ≤ bd
    · rw [if_pos h]
      exact ⟨m, by rw [Nat.pow_succ]; omega, rfl⟩
    · rw [if_neg h]
      have e := bit_n ⟨n, by omega⟩
      dsimp only at e
      rw [e, n2_or]
      exact ⟨m ||| 2 ^ n, Nat.or_lt_two_pow (by rw [Nat.pow_succ]; omega) (by rw [Nat.pow_succ]; omega), rfl⟩
theorem bitsOf_ov {y : Lay} {bd : Int32} {B : Row} {n : Nat} (hn : n ≤ 30) {M : Mem} : f_X12_bitsOf y (it (ovF bd B) 0 n) M = some (bcJ (it (ovF bd B) 0 n)) := by
  obtain ⟨m, h1, h2⟩ := ov_n2 bd B n (by omega)
  have h3 : (2 : Nat) ^ n ≤ 2 ^ 30 := Nat.pow_le_pow_right (by decide) hn
  have h4 : (2 : Nat) ^ 30 = 1073741824 := by decide
  rw [h2]
  exact bitsOf_s (by omega)
def nB1 (r : Int32) (B : Row) : Row := rowTo 30 (fun k => jmax 0 (B k - r)) B
def nM1 (n : Nat) (r : Int32) (B : Row) : Row := rowTo n (fun k => jmax 0 (B k - r)) B
def ovM (n : Nat) (bd : Int32) (B : Row) : Int32 := it (ovF bd B) 0 n
theorem or_0 (x : Int32) : x ||| 0 = x := by
  have := Int32.or_zero (a := x)
  exact this
def BOK (n : Nat) (B : Row) : Prop := (∀ k, ∃ v, v < 100 ∧ B k = n2 v) ∧ ∀ k, n ≤ k → B k = 0
theorem nu_1 : ∀ v : Fin 100, ∀ w : Fin 21, jmax 0 (n2 v.val - n2 w.val) = n2 (v.val - w.val) := by decide +kernel
theorem rowTo_lt {n : Nat} {g f : Row} {k : Nat} (h : k < n) : rowTo n g f k = g k := if_pos h
theorem rowTo_ge {n : Nat} {g f : Row} {k : Nat} (h : ¬ k < n) : rowTo n g f k = f k := if_neg h
theorem n1_ok {n w : Nat} {B : Row} (h : BOK n B) (hw : w ≤ 20) (hn : n ≤ 30) : nM1 n (n2 w) B = nB1 (n2 w) B ∧ BOK n (nB1 (n2 w) B) := by
  have key : ∀ k, ∃ v, v < 100 ∧ B k = n2 v ∧ jmax 0 (B k - n2 w) = n2 (v - w) := fun k => by
    obtain ⟨v, h1, h2⟩ := h.1 k
    have h3 := nu_1 ⟨v, h1⟩ ⟨w, by omega⟩
    dsimp only at h3
    exact ⟨v, h1, h2, by rw [h2, h3]⟩
  have z : ∀ k, n ≤ k → jmax 0 (B k - n2 w) = 0 := fun k hk => by
    have h3 := nu_1 ⟨0, by omega⟩ ⟨w, by omega⟩
    dsimp only at h3
    rw [h.2 k hk]
    exact h3.trans (congrArg n2 (Nat.zero_sub w))
  refine ⟨?_, ⟨fun k => ?_, fun k hk => ?_⟩⟩
  · funext k
    unfold nM1 nB1
    by_cases h1 : k < n
    · rw [rowTo_lt h1, rowTo_lt (by omega)]
    · rw [rowTo_ge h1]
      by_cases h2 : k < 30
      · rw [rowTo_lt h2, z k (by omega), h.2 k (by omega)]
      · rw [rowTo_ge h2]
  · unfold nB1
    by_cases h2 : k < 30
    · obtain ⟨v, a1, a2, a3⟩ := key k
      rw [rowTo_lt h2, a3]
      exact ⟨v - w, by omega, rfl⟩
    · rw [rowTo_ge h2]
      exact h.1 k
  · unfold nB1
    by_cases h2 : k < 30
    · rw [rowTo_lt h2, z k hk]
    · rw [rowTo_ge h2, h.2 k hk]
theorem ov_eq {n b : Nat} {B : Row} (h : BOK n B) (hb : b < 100) (hn : n ≤ 30) : ovM n (n2 b) B = ovB (n2 b) B := by
  have key : ∀ j, it (ovF (n2 b) B) 0 (n + j) = it (ovF (n2 b) B) 0 n := by
    intro j
    induction j with
    | zero => rfl
    | succ j ih =>
      show ovF (n2 b) B (n + j) (it (ovF (n2 b) B) 0 (n + j)) = _
      rw [ih]
      unfold ovF
      rw [if_pos]
      rw [h.2 (n + j) (by omega)]
      exact (n2_le (i := 0) (j := b) (by decide) (by omega)).mpr (by omega)
  unfold ovM ovB
  rw [← key (30 - n)]
  rw [show n + (30 - n) = 30 by omega]
/-! bits -/
theorem shv : ∀ i : Fin 32, ((n2 i.val &&& 31).toBitVec.smod 32#32).toNat = i.val := by decide +kernel
theorem bt_bv {x : Int32} {i : Nat} (hi : i < 32) : ((x >>> (n2 i &&& 31)) &&& 1).toBitVec = (x.toBitVec.sshiftRight i) &&& 1#32 := by
  have h := shv ⟨i, hi⟩
  dsimp only at h
  show (x.toBitVec.sshiftRight ((n2 i &&& 31).toBitVec.smod 32#32).toNat) &&& 1#32 = _
  rw [h]
theorem bt_iff {x : Int32} {i : Nat} (hi : i < 32) : bt x i = 1 ↔ x.toBitVec.getLsbD i = true := by
  unfold bt
  rw [← Int32.toBitVec_inj, bt_bv hi]
  show x.toBitVec.sshiftRight i &&& 1#32 = 1#32 ↔ _
  have e : (x.toBitVec.sshiftRight i).getLsbD 0 = x.toBitVec.getLsbD i := by
    rw [BitVec.getLsbD_sshiftRight]
    simp only [Nat.add_zero, hi, if_true]
    simp
  constructor
  · intro h
    have h0 : (x.toBitVec.sshiftRight i &&& 1#32).getLsbD 0 = (1#32).getLsbD 0 := congrArg (fun b => b.getLsbD 0) h
    rw [BitVec.getLsbD_and, e] at h0
    have h1 : (x.toBitVec.getLsbD i && true) = true := h0
    rw [Bool.and_true] at h1
    exact h1
  · intro h
    apply BitVec.eq_of_getLsbD_eq
    intro j hj
    rw [BitVec.getLsbD_and]
    cases j with
    | zero => rw [e, h]; rfl
    | succ j =>
      have z : (1#32).getLsbD (j + 1) = false := by simp
      rw [z, Bool.and_false]
theorem bt_or {x z : Int32} {i : Nat} (hi : i < 32) : bt (x ||| z) i = 1 ↔ (bt x i = 1 ∨ bt z i = 1) := by
  rw [bt_iff hi, bt_iff hi, bt_iff hi]
  show (x.toBitVec ||| z.toBitVec).getLsbD i = true ↔ _
  rw [BitVec.getLsbD_or, Bool.or_eq_true]
theorem bt_and {x z : Int32} {i : Nat} (hi : i < 32) : bt (x &&& z) i = 1 ↔ (bt x i = 1 ∧ bt z i = 1) := by
  rw [bt_iff hi, bt_iff hi, bt_iff hi]
  show (x.toBitVec &&& z.toBitVec).getLsbD i = true ↔ _
  rw [BitVec.getLsbD_and, Bool.and_eq_true]
theorem bt_xor {x z : Int32} {i : Nat} (hi : i < 32) : bt (x ^^^ z) i = 1 ↔ ¬ (bt x i = 1 ↔ bt z i = 1) := by
  rw [bt_iff hi, bt_iff hi, bt_iff hi]
  show (x.toBitVec ^^^ z.toBitVec).getLsbD i = true ↔ _
  rw [BitVec.getLsbD_xor]
  cases x.toBitVec.getLsbD i <;> cases z.toBitVec.getLsbD i <;> simp
theorem bt_not {x : Int32} {i : Nat} (hi : i < 32) : bt (~~~ x) i = 1 ↔ ¬ bt x i = 1 := by
  rw [bt_iff hi, bt_iff hi]
  show (~~~ x.toBitVec).getLsbD i = true ↔ _
  rw [BitVec.getLsbD_not]
  simp [hi]
theorem bt_bit : ∀ j i : Fin 32, bt (bit j.val) i.val = 1 ↔ i = j := by decide +kernel
theorem bt_b {j i : Nat} (hj : j < 32) (hi : i < 32) : bt (bit j) i = 1 ↔ i = j := by
  have h := bt_bit ⟨j, hj⟩ ⟨i, hi⟩
  dsimp only at h
  rw [h]
  exact Fin.mk.injEq i hi j hj ▸ Iff.rfl
theorem bt_z : ∀ i : Fin 32, bt 0 i.val = 0 := by decide +kernel
theorem bt_0 {i : Nat} (hi : i < 32) : ¬ bt 0 i = 1 := by
  have h := bt_z ⟨i, hi⟩
  dsimp only at h
  rw [h]; decide
theorem bt_ext {x z : Int32} (h : ∀ i, i < 32 → (bt x i = 1 ↔ bt z i = 1)) : x = z := by
  apply Int32.toBitVec_inj.1
  apply BitVec.eq_of_getLsbD_eq
  intro i hi
  have h1 := h i hi
  rw [bt_iff hi, bt_iff hi] at h1
  cases hx : x.toBitVec.getLsbD i <;> cases hz : z.toBitVec.getLsbD i <;> simp_all
theorem up_ne {f : Row} {k : Nat} {v : Int32} {j : Nat} (h : ¬ j = k) : up f k v j = f j := if_neg h
theorem up_eq {f : Row} {k : Nat} {v : Int32} : up f k v k = v := if_pos rfl
theorem n2_c {c : Int32} {m : Nat} (i : Nat) (hc : c = n2 m) : n2 i + c = n2 (i + m) := by rw [hc, n2_add]
