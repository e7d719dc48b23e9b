/-! ===== java's bitCount is the count of bits, and so is the model's ===== -/
def pcF : Nat → Nat → Nat
  | 0, _ => 0
  | k + 1, n => n % 2 + pcF k (n / 2)
theorem pcF_split : ∀ (k j a m : Nat), a < 2 ^ k → pcF (k + j) (a + 2 ^ k * m) = pcF k a + pcF j m := by
  intro k
  induction k with
  | zero =>
    intro j a m h
    have : a = 0 := by omega
    subst this
    simp [pcF]
  | succ k ih =>
    intro j a m h
    have e : k + 1 + j = (k + j) + 1 := by omega
    rw [e]
    show (a + 2 ^ (k + 1) * m) % 2 + pcF (k + j) ((a + 2 ^ (k + 1) * m) / 2) = a % 2 + pcF k (a / 2) + pcF j m
    have h2 : 2 ^ (k + 1) * m = 2 * (2 ^ k * m) := by rw [Nat.pow_succ, Nat.mul_comm (2 ^ k) 2, Nat.mul_assoc]
    have h3 : a / 2 < 2 ^ k := by rw [Nat.pow_succ] at h; omega
    have e1 : (a + 2 ^ (k + 1) * m) % 2 = a % 2 := by rw [h2]; omega
    have e2 : (a + 2 ^ (k + 1) * m) / 2 = a / 2 + 2 ^ k * m := by rw [h2]; omega
    rw [e1, e2, ih j _ _ h3]
    omega
theorem and_b {a c m k : Nat} (ha : a < 256) (hc : c < 256) : (a + 256 * m) &&& (c + 256 * k) = (a &&& c) + 256 * (m &&& k) := by
  have h1 : ((a + 256 * m) &&& (c + 256 * k)) % 2 ^ 8 = a &&& c := by
    rw [Nat.and_mod_two_pow]
    rw [show (a + 256 * m) % 2 ^ 8 = a by omega, show (c + 256 * k) % 2 ^ 8 = c by omega]
  have h2 : ((a + 256 * m) &&& (c + 256 * k)) / 2 ^ 8 = m &&& k := by
    rw [Nat.and_div_two_pow]
    rw [show (a + 256 * m) / 2 ^ 8 = m by omega, show (c + 256 * k) / 2 ^ 8 = k by omega]
  omega
def t1 (a : Nat) : Nat := a - (a / 2 &&& 85)
def t2 (p : Nat) : Nat := (p &&& 51) + (p / 4 &&& 51)
def t3 (u : Nat) : Nat := (u + u / 16) % 16
theorem by_1 : ∀ a : Fin 256, ∀ x : Fin 2, (a.val / 2 + 128 * x.val) &&& 85 = a.val / 2 &&& 85 := by decide +kernel
theorem by_2 : ∀ a : Fin 256, ∀ x : Fin 4, (a.val / 4 + 64 * x.val) &&& 51 = a.val / 4 &&& 51 := by decide +kernel
theorem by_3 : ∀ a : Fin 256, (a.val / 2 &&& 85) ≤ a.val ∧ t1 a.val < 256 ∧ t2 (t1 a.val) < 69 ∧ t2 (t1 a.val) % 16 ≤ 4 ∧ t3 (t2 (t1 a.val)) = pcF 8 a.val ∧ pcF 8 a.val ≤ 8 := by decide +kernel
theorem sw1 {a b c d : Nat} (ha : a < 256) (hb : b < 256) (hc : c < 256) (hd : d < 256) : (a + 256 * (b + 256 * (c + 256 * d))) - ((a + 256 * (b + 256 * (c + 256 * d))) / 2 &&& 1431655765) = t1 a + 256 * (t1 b + 256 * (t1 c + 256 * t1 d)) := by
  have e : (a + 256 * (b + 256 * (c + 256 * d))) / 2 = (a / 2 + 128 * (b % 2)) + 256 * ((b / 2 + 128 * (c % 2)) + 256 * ((c / 2 + 128 * (d % 2)) + 256 * (d / 2 + 128 * 0))) := by omega
  have em : (1431655765 : Nat) = 85 + 256 * (85 + 256 * (85 + 256 * 85)) := by decide
  rw [e, em, and_b (by omega) (by decide), and_b (by omega) (by decide), and_b (by omega) (by decide)]
  have h1 := by_1 ⟨a, ha⟩ ⟨b % 2, by omega⟩
  have h2 := by_1 ⟨b, hb⟩ ⟨c % 2, by omega⟩
  have h3 := by_1 ⟨c, hc⟩ ⟨d % 2, by omega⟩
  have h4 := by_1 ⟨d, hd⟩ ⟨0, by omega⟩
  dsimp only at h1 h2 h3 h4
  rw [h1, h2, h3, h4]
  have k1 := (by_3 ⟨a, ha⟩).1
  have k2 := (by_3 ⟨b, hb⟩).1
  have k3 := (by_3 ⟨c, hc⟩).1
  have k4 := (by_3 ⟨d, hd⟩).1
  dsimp only at k1 k2 k3 k4
  unfold t1
  omega
theorem sw2 {a b c d : Nat} (ha : a < 256) (hb : b < 256) (hc : c < 256) (hd : d < 256) : ((a + 256 * (b + 256 * (c + 256 * d))) &&& 858993459) + ((a + 256 * (b + 256 * (c + 256 * d))) / 4 &&& 858993459) = t2 a + 256 * (t2 b + 256 * (t2 c + 256 * t2 d)) := by
  have e : (a + 256 * (b + 256 * (c + 256 * d))) / 4 = (a / 4 + 64 * (b % 4)) + 256 * ((b / 4 + 64 * (c % 4)) + 256 * ((c / 4 + 64 * (d % 4)) + 256 * (d / 4 + 64 * 0))) := by omega
  have em : (858993459 : Nat) = 51 + 256 * (51 + 256 * (51 + 256 * 51)) := by decide
  rw [e, em, and_b ha (by decide), and_b hb (by decide), and_b hc (by decide), and_b (by omega) (by decide), and_b (by omega) (by decide), and_b (by omega) (by decide)]
  have h1 := by_2 ⟨a, ha⟩ ⟨b % 4, by omega⟩
  have h2 := by_2 ⟨b, hb⟩ ⟨c % 4, by omega⟩
  have h3 := by_2 ⟨c, hc⟩ ⟨d % 4, by omega⟩
  have h4 := by_2 ⟨d, hd⟩ ⟨0, by omega⟩
  dsimp only at h1 h2 h3 h4
  rw [h1, h2, h3, h4]
  unfold t2
  omega
theorem m15 {y : Nat} : y &&& 15 = y % 16 := Nat.and_two_pow_sub_one_eq_mod y 4
theorem sw3 {a b c d : Nat} (ha : a < 69) (hb : b < 69) (hc : c < 69) (hd : d < 69) (h1 : b % 16 ≤ 4) (h2 : c % 16 ≤ 4) (h3 : d % 16 ≤ 4) : ((a + 256 * (b + 256 * (c + 256 * d))) + (a + 256 * (b + 256 * (c + 256 * d))) / 16) &&& 252645135 = t3 a + 256 * (t3 b + 256 * (t3 c + 256 * t3 d)) := by
  have e : (a + 256 * (b + 256 * (c + 256 * d))) + (a + 256 * (b + 256 * (c + 256 * d))) / 16 = (a + a / 16 + 16 * (b % 16)) + 256 * ((b + b / 16 + 16 * (c % 16)) + 256 * ((c + c / 16 + 16 * (d % 16)) + 256 * (d + d / 16))) := by omega
  have em : (252645135 : Nat) = 15 + 256 * (15 + 256 * (15 + 256 * 15)) := by decide
  rw [e, em, and_b (by omega) (by decide), and_b (by omega) (by decide), and_b (by omega) (by decide), m15, m15, m15, m15]
  unfold t3
  omega
theorem u_n (X : UInt32) : X.toInt32 = n2 X.toNat := by
  apply Int32.toBitVec_inj.1
  apply BitVec.eq_of_toNat_eq
  show X.toBitVec.toNat = (BitVec.ofNat 32 X.toBitVec.toNat).toNat
  rw [BitVec.toNat_ofNat, Nat.mod_eq_of_lt X.toBitVec.isLt]
theorem n_u {m : Nat} (h : m < 4294967296) : (n2 m).toUInt32.toNat = m := by
  show (BitVec.ofNat 32 m).toNat = m
  rw [BitVec.toNat_ofNat]
  exact Nat.mod_eq_of_lt h
theorem sh_n {m k : Nat} {c : UInt32} (hc : c.toNat % 32 = k) (h : m < 4294967296) : ((n2 m).toUInt32 >>> c).toInt32 = n2 (m / 2 ^ k) := by
  rw [u_n, UInt32.toNat_shiftRight, n_u h, hc, Nat.shiftRight_eq_div_pow]
theorem n2_and (a b : Nat) : n2 a &&& n2 b = n2 (a &&& b) := by
  apply Int32.toBitVec_inj.1
  apply BitVec.eq_of_toNat_eq
  show (BitVec.ofNat 32 a &&& BitVec.ofNat 32 b).toNat = (BitVec.ofNat 32 (a &&& b)).toNat
  rw [BitVec.toNat_and, BitVec.toNat_ofNat, BitVec.toNat_ofNat, BitVec.toNat_ofNat, Nat.and_mod_two_pow]
theorem n2_sub {a b : Nat} (h : b ≤ a) : n2 a - n2 b = n2 (a - b) := (Int32.ofNat_sub a b h).symm
theorem n2_or (a b : Nat) : n2 a ||| n2 b = n2 (a ||| b) := by
  apply Int32.toBitVec_inj.1
  apply BitVec.eq_of_toNat_eq
  show (BitVec.ofNat 32 a ||| BitVec.ofNat 32 b).toNat = (BitVec.ofNat 32 (a ||| b)).toNat
  rw [BitVec.toNat_or, BitVec.toNat_ofNat, BitVec.toNat_ofNat, BitVec.toNat_ofNat, Nat.or_mod_two_pow]
theorem m63 {y : Nat} : y &&& 63 = y % 64 := Nat.and_two_pow_sub_one_eq_mod y 6
theorem fin_sum {e f g h : Nat} (h1 : e ≤ 8) (h2 : f ≤ 8) (h3 : g ≤ 8) (h4 : h ≤ 8) : ((e + 256 * (f + 256 * (g + 256 * h))) + (e + 256 * (f + 256 * (g + 256 * h))) / 256 + ((e + 256 * (f + 256 * (g + 256 * h))) + (e + 256 * (f + 256 * (g + 256 * h))) / 256) / 65536) % 64 = e + (f + (g + h)) := by
  have e1 : (e + 256 * (f + 256 * (g + 256 * h))) / 256 = f + 256 * (g + 256 * h) := by omega
  have e2 : (e + 256 * (f + 256 * (g + 256 * h))) + (f + 256 * (g + 256 * h)) = (e + f) + 256 * ((f + g) + 256 * ((g + h) + 256 * h)) := by omega
  rw [e1, e2]
  have e3 : ((e + f) + 256 * ((f + g) + 256 * ((g + h) + 256 * h))) / 65536 = (g + h) + 256 * h := by omega
  rw [e3]
  omega
theorem bcJ_n {m : Nat} (h : m < 4294967296) : bcJ (n2 m) = n2 (pcF 32 m) := by
  obtain ⟨a, b, c, d, ha, hb, hc, hd, rfl⟩ : ∃ a b c d : Nat, a < 256 ∧ b < 256 ∧ c < 256 ∧ d < 256 ∧ m = a + 256 * (b + 256 * (c + 256 * d)) :=
    ⟨m % 256, m / 256 % 256, m / 65536 % 256, m / 16777216, by omega, by omega, by omega, by omega, by omega⟩
  obtain ⟨a1, a2, a3, a4, a5, a6⟩ := by_3 ⟨a, ha⟩
  obtain ⟨b1, b2, b3, b4, b5, b6⟩ := by_3 ⟨b, hb⟩
  obtain ⟨c1, c2, c3, c4, c5, c6⟩ := by_3 ⟨c, hc⟩
  obtain ⟨d1, d2, d3, d4, d5, d6⟩ := by_3 ⟨d, hd⟩
  dsimp only at a1 a2 a3 a4 a5 a6 b1 b2 b3 b4 b5 b6 c1 c2 c3 c4 c5 c6 d1 d2 d3 d4 d5 d6
  have w1 := sw1 ha hb hc hd
  have w2 := sw2 a2 b2 c2 d2
  have w3 := sw3 a3 b3 c3 d3 b4 c4 d4
  have l1 : ((a + 256 * (b + 256 * (c + 256 * d))) / 2 &&& 1431655765) ≤ a + 256 * (b + 256 * (c + 256 * d)) := Nat.le_trans Nat.and_le_left (Nat.div_le_self _ _)
  have q : pcF 32 (a + 256 * (b + 256 * (c + 256 * d))) = pcF 8 a + (pcF 8 b + (pcF 8 c + pcF 8 d)) := by
    have e1 := pcF_split 8 24 a (b + 256 * (c + 256 * d)) ha
    have e2 := pcF_split 8 16 b (c + 256 * d) hb
    have e3 := pcF_split 8 8 c d hc
    have p8 : (2 : Nat) ^ 8 = 256 := by decide
    rw [p8] at e1 e2 e3
    rw [e1, e2, e3]
  rw [q]
  unfold bcJ
  dsimp only
  have k1 : ((1431655765 : Int32)) = n2 1431655765 := rfl
  have k2 : ((858993459 : Int32)) = n2 858993459 := rfl
  have k3 : ((252645135 : Int32)) = n2 252645135 := rfl
  have k4 : ((63 : Int32)) = n2 63 := rfl
  rw [sh_n (k := 1) (by decide) h, k1, n2_and, n2_sub l1, w1]
  rw [sh_n (k := 2) (by decide) (by omega), k2, n2_and, n2_and, n2_add, show (2 : Nat) ^ 2 = 4 by decide, w2]
  rw [sh_n (k := 4) (by decide) (by omega), n2_add, k3, n2_and, show (2 : Nat) ^ 4 = 16 by decide, w3, a5, b5, c5, d5]
  rw [sh_n (k := 8) (by decide) (by omega), n2_add, show (2 : Nat) ^ 8 = 256 by decide]
  rw [sh_n (k := 16) (by decide) (by omega), n2_add, k4, n2_and, m63, show (2 : Nat) ^ 16 = 65536 by decide]
  exact congrArg n2 (fin_sum a6 b6 c6 d6)
theorem kern : ∀ (k m : Nat), 0 < m → m < 2 ^ k → pcF k m = pcF k (m &&& (m - 1)) + 1 := by
  intro k
  induction k with
  | zero => intro m h1 h2; omega
  | succ k ih =>
    intro m h1 h2
    show m % 2 + pcF k (m / 2) = (m &&& (m - 1)) % 2 + pcF k ((m &&& (m - 1)) / 2) + 1
    have e1 : (m &&& (m - 1)) % 2 = (m % 2) &&& ((m - 1) % 2) := by
      have := @Nat.and_mod_two_pow m (m - 1) 1
      simpa using this
    rw [e1, Nat.and_div_two]
    rcases Nat.mod_two_eq_zero_or_one m with h | h
    · have h3 : (m - 1) / 2 = m / 2 - 1 := by omega
      have h4 : (m - 1) % 2 = 1 := by omega
      rw [h, h3, h4, ih (m / 2) (by omega) (by rw [Nat.pow_succ] at h2; omega)]
      simp
    · have h3 : (m - 1) / 2 = m / 2 := by omega
      have h4 : (m - 1) % 2 = 0 := by omega
      rw [h, h3, h4, Nat.and_self]
      simp
      omega
theorem pcF_le : ∀ (k m : Nat), pcF k m ≤ k := by
  intro k
  induction k with
  | zero => intro m; exact Nat.le_refl _
  | succ k ih =>
    intro m
    show m % 2 + pcF k (m / 2) ≤ k + 1
    have := ih (m / 2)
    omega
theorem bitsOf_s {y : Lay} {m : Nat} (hm : m < 2147483648) {M : Mem} : f_X12_bitsOf y (n2 m) M = some (bcJ (n2 m)) := by
  rw [bcJ_n (by omega)]
  unfold f_X12_bitsOf
  refine wp_eq ?_
  refine wp_fixm (κ := Int32 → Int32 → Option Int32) (A := Int32 × Int32) (fun f a => f a.1 a.2) (fun a => ∃ k, k ≤ m ∧ a.2 = n2 k ∧ ∃ c, a.1 = n2 c ∧ c + pcF 32 k = pcF 32 m) (fun a => pcF 32 a.2.toNatClampNeg) ?_ FUEL (0, n2 m) ⟨m, Nat.le_refl _, rfl, 0, rfl, by omega⟩ ?_
  · intro f a ha hb
    obtain ⟨v, w⟩ := a
    obtain ⟨k, hk, rfl, c, rfl, hc⟩ := ha
    dsimp only
    by_cases h : k = 0
    · subst h
      refine wp_brt rfl (wp_some ?_)
      have : pcF 32 0 = 0 := by decide
      rw [this] at hc
      rw [← hc]
      rfl
    · refine wp_brf (fun e => h ?_) ?_
      · have := (n2_inj (i := k) (j := 0) (by omega) (by decide)).mp e
        exact this
      · simp only [lT_s]
        have e1 : n2 k - 1 = n2 (k - 1) := n2_sub (b := 1) (by omega)
        have h0 : k &&& (k - 1) ≤ k := Nat.and_le_left
        have h1 := kern 32 k (by omega) (by have : (2 : Nat) ^ 32 = 4294967296 := by decide
                                            omega)
        rw [e1, n2_and, n2_s]
        refine hb (n2 (c + 1), n2 (k &&& (k - 1))) ⟨_, by omega, rfl, c + 1, rfl, by omega⟩ ?_
        dsimp only
        rw [n2_nat (by omega), n2_nat (by omega)]
        omega
  · dsimp only
    rw [n2_nat hm]
    have := pcF_le 32 m
    have : FUEL = 100000 := rfl
    omega
