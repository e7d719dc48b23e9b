/-! ===== cells in a set, in their order ===== -/
def glF (x : Int32) : Nat → Row × Nat → Row × Nat := fun c q => if bt x c = 1 then (up q.1 q.2 (n2 c), q.2 + 1) else q
def gl (x : Int32) (n : Nat) : Row × Nat := it (glF x) (fun _ => 0, 0) n
theorem gl_s (x : Int32) (n : Nat) : gl x (n + 1) = glF x n (gl x n) := rfl
theorem gl_y {x : Int32} {n : Nat} (h : bt x n = 1) : gl x (n + 1) = (up (gl x n).1 (gl x n).2 (n2 n), (gl x n).2 + 1) := by rw [gl_s]; exact if_pos h
theorem gl_n {x : Int32} {n : Nat} (h : ¬ bt x n = 1) : gl x (n + 1) = gl x n := by rw [gl_s]; exact if_neg h
theorem gl_mono (x : Int32) (i : Nat) : ∀ d, (gl x i).2 ≤ (gl x (i + d)).2 := by
  intro d
  induction d with
  | zero => exact Nat.le_refl _
  | succ d ih =>
    rw [← Nat.add_assoc]
    by_cases q : bt x (i + d) = 1
    · rw [gl_y q]; exact Nat.le_succ_of_le ih
    · rw [gl_n q]; exact ih
theorem gl_v (x : Int32) : ∀ n, n ≤ 64 → ∀ j, ∃ v, v < 64 ∧ (gl x n).1 j = n2 v := by
  intro n
  induction n with
  | zero => intro _ j; exact ⟨0, by decide, rfl⟩
  | succ n ih =>
    intro hn j
    by_cases q : bt x n = 1
    · rw [gl_y q]
      by_cases e : j = (gl x n).2
      · exact ⟨n, by omega, by rw [e]; exact up_eq⟩
      · obtain ⟨v, a, b⟩ := ih (by omega) j
        exact ⟨v, a, by rw [← b]; exact up_ne e⟩
    · rw [gl_n q]; exact ih (by omega) j
theorem gl_end {x : Int32} {n : Nat} (h : ∀ c, n ≤ c → c < 30 → ¬ bt x c = 1) : ∀ d, n + d ≤ 30 → gl x (n + d) = gl x n := by
  intro d
  induction d with
  | zero => intro _; rfl
  | succ d ih =>
    intro hd
    rw [← Nat.add_assoc, gl_n (h (n + d) (by omega) (by omega)), ih (by omega)]
theorem pcF_s : ∀ k m, pcF (k + 1) m = pcF k m + m / 2 ^ k % 2 := by
  intro k
  induction k with
  | zero => intro m; show m % 2 + 0 = 0 + m / 2 ^ 0 % 2; rw [Nat.pow_zero, Nat.div_one]; omega
  | succ k ih =>
    intro m
    show m % 2 + pcF (k + 1) (m / 2) = (m % 2 + pcF k (m / 2)) + m / 2 ^ (k + 1) % 2
    rw [ih (m / 2), Nat.div_div_eq_div_mul, show 2 * 2 ^ k = 2 ^ (k + 1) by rw [Nat.pow_succ, Nat.mul_comm]]
    omega
theorem bt_n2 {m i : Nat} (hi : i < 32) : bt (n2 m) i = 1 ↔ m / 2 ^ i % 2 = 1 := by
  rw [bt_iff hi]
  show (BitVec.ofNat 32 m).getLsbD i = true ↔ _
  rw [BitVec.getLsbD_ofNat, decide_eq_true hi, Bool.true_and, Nat.testBit_eq_decide_div_mod_eq, decide_eq_true_eq]
theorem gl_pc (m : Nat) : ∀ n, n ≤ 32 → (gl (n2 m) n).2 = pcF n m := by
  intro n
  induction n with
  | zero => intro _; rfl
  | succ n ih =>
    intro hn
    have e := bt_n2 (m := m) (i := n) (by omega)
    have i0 := ih (by omega)
    rw [pcF_s]
    by_cases q : bt (n2 m) n = 1
    · rw [gl_y q, e.mp q]
      show (gl (n2 m) n).2 + 1 = _
      rw [i0]
    · rw [gl_n q, i0]
      have : ¬ m / 2 ^ n % 2 = 1 := fun z => q (e.mpr z)
      clear e q
      omega
theorem pc_le {m n : Nat} (hn : n ≤ 32) : pcF n m ≤ pcF 32 m := by
  have h := gl_mono (n2 m) n (32 - n)
  rw [gl_pc m n hn, show n + (32 - n) = 32 by omega, gl_pc m 32 (Nat.le_refl _)] at h
  exact h
theorem hi_0 {m n c : Nat} (h : m < 2 ^ n) (hc : n ≤ c) (hc2 : c < 32) : ¬ bt (n2 m) c = 1 := by
  rw [bt_n2 hc2]
  have : m < 2 ^ c := Nat.lt_of_lt_of_le h (Nat.pow_le_pow_right (by decide) hc)
  rw [Nat.div_eq_of_lt this]
  decide
