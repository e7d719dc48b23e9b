/-! ===== the bits of a long, counted ===== -/
def vB : List Nat → Nat
  | [] => 0
  | a :: l => a + 256 * vB l
def mkB (c : Nat) : Nat → Nat
  | 0 => 0
  | n + 1 => c + 256 * mkB c n
theorem vB_and {c : Nat} (hc : c < 256) : ∀ l : List Nat, (∀ a ∈ l, a < 256) → vB l &&& mkB c l.length = vB (l.map (fun a => a &&& c)) := by
  intro l
  induction l with
  | nil => intro _; exact Nat.zero_and _
  | cons a l ih =>
    intro h
    show (a + 256 * vB l) &&& (c + 256 * mkB c l.length) = (a &&& c) + 256 * vB (l.map (fun a => a &&& c))
    rw [and_b (h a List.mem_cons_self) hc, ih (fun b hb => h b (List.mem_cons_of_mem _ hb))]
theorem vB_h2 : ∀ l : List Nat, (∀ a ∈ l, a < 256) → vB l / 2 &&& mkB 85 l.length = vB (l.map (fun a => a / 2 &&& 85)) := by
  intro l
  induction l with
  | nil => intro _; rfl
  | cons a l ih =>
    intro h
    have ha := h a List.mem_cons_self
    show (a + 256 * vB l) / 2 &&& (85 + 256 * mkB 85 l.length) = (a / 2 &&& 85) + 256 * vB (l.map (fun a => a / 2 &&& 85))
    have e : (a + 256 * vB l) / 2 = (a / 2 + 128 * (vB l % 2)) + 256 * (vB l / 2) := by omega
    have b1 := by_1 ⟨a, ha⟩ ⟨vB l % 2, by omega⟩
    dsimp only at b1
    rw [e, and_b (by omega) (by decide), b1, ih (fun b hb => h b (List.mem_cons_of_mem _ hb))]
theorem vB_h4 : ∀ l : List Nat, (∀ a ∈ l, a < 256) → vB l / 4 &&& mkB 51 l.length = vB (l.map (fun a => a / 4 &&& 51)) := by
  intro l
  induction l with
  | nil => intro _; rfl
  | cons a l ih =>
    intro h
    have ha := h a List.mem_cons_self
    show (a + 256 * vB l) / 4 &&& (51 + 256 * mkB 51 l.length) = (a / 4 &&& 51) + 256 * vB (l.map (fun a => a / 4 &&& 51))
    have e : (a + 256 * vB l) / 4 = (a / 4 + 64 * (vB l % 4)) + 256 * (vB l / 4) := by omega
    have b1 := by_2 ⟨a, ha⟩ ⟨vB l % 4, by omega⟩
    dsimp only at b1
    rw [e, and_b (by omega) (by decide), b1, ih (fun b hb => h b (List.mem_cons_of_mem _ hb))]
theorem vB_add (f g : Nat → Nat) : ∀ l : List Nat, vB (l.map f) + vB (l.map g) = vB (l.map (fun a => f a + g a)) := by
  intro l
  induction l with
  | nil => rfl
  | cons a l ih =>
    show f a + 256 * vB (l.map f) + (g a + 256 * vB (l.map g)) = f a + g a + 256 * vB (l.map (fun a => f a + g a))
    omega
theorem vB_id (f : Nat → Nat) : ∀ l : List Nat, (∀ a ∈ l, f a = a) → vB (l.map f) = vB l := by
  intro l
  induction l with
  | nil => intro _; rfl
  | cons a l ih =>
    intro h
    show f a + 256 * vB (l.map f) = a + 256 * vB l
    rw [h a List.mem_cons_self, ih (fun b hb => h b (List.mem_cons_of_mem _ hb))]
theorem vB_1 {l : List Nat} (h : ∀ a ∈ l, a < 256) : (vB l / 2 &&& mkB 85 l.length) ≤ vB l ∧ vB l - (vB l / 2 &&& mkB 85 l.length) = vB (l.map t1) := by
  have e := vB_h2 l h
  have s := vB_add (fun a => a / 2 &&& 85) t1 l
  have i := vB_id (fun a => (a / 2 &&& 85) + t1 a) l (fun a ha => by
    have := (by_3 ⟨a, h a ha⟩).1
    dsimp only at this
    unfold t1
    omega)
  omega
theorem vB_2 {l : List Nat} (h : ∀ a ∈ l, a < 256) : (vB l &&& mkB 51 l.length) + (vB l / 4 &&& mkB 51 l.length) = vB (l.map t2) := by
  rw [vB_and (by decide) l h, vB_h4 l h, vB_add]
  rfl
theorem vB_3 : ∀ l : List Nat, (∀ a ∈ l, a < 69 ∧ a % 16 ≤ 4) → (vB l + vB l / 16) &&& mkB 15 l.length = vB (l.map t3) := by
  intro l
  induction l with
  | nil => intro _; rfl
  | cons a l ih =>
    intro h
    have ha := h a List.mem_cons_self
    show ((a + 256 * vB l) + (a + 256 * vB l) / 16) &&& (15 + 256 * mkB 15 l.length) = t3 a + 256 * vB (l.map t3)
    have hm : vB l % 16 ≤ 4 := by
      cases l with
      | nil => exact Nat.zero_le _
      | cons b l =>
        have hb := (h b (List.mem_cons_of_mem _ List.mem_cons_self)).2
        show (b + 256 * vB l) % 16 ≤ 4
        omega
    have e : (a + 256 * vB l) + (a + 256 * vB l) / 16 = (a + a / 16 + 16 * (vB l % 16)) + 256 * (vB l + vB l / 16) := by omega
    rw [e, and_b (by omega) (by decide), ih (fun b hb => h b (List.mem_cons_of_mem _ hb)), m15]
    unfold t3
    omega
theorem vB_lt : ∀ l : List Nat, (∀ a ∈ l, a < 256) → vB l < 256 ^ l.length := by
  intro l
  induction l with
  | nil => intro _; exact Nat.one_pos
  | cons a l ih =>
    intro h
    have ha := h a List.mem_cons_self
    have := ih (fun b hb => h b (List.mem_cons_of_mem _ hb))
    show a + 256 * vB l < 256 ^ (l.length + 1)
    rw [Nat.pow_succ]
    omega
abbrev l2 (m : Nat) : Int64 := Int64.ofNat m
theorem l_u (X : UInt64) : X.toInt64 = l2 X.toNat := by
  apply Int64.toBitVec_inj.1
  apply BitVec.eq_of_toNat_eq
  show X.toBitVec.toNat = (BitVec.ofNat 64 X.toBitVec.toNat).toNat
  rw [BitVec.toNat_ofNat, Nat.mod_eq_of_lt X.toBitVec.isLt]
theorem l_nu {m : Nat} (h : m < 18446744073709551616) : (l2 m).toUInt64.toNat = m := by
  show (BitVec.ofNat 64 m).toNat = m
  rw [BitVec.toNat_ofNat]
  exact Nat.mod_eq_of_lt h
theorem l_sh {m k : Nat} {c : UInt64} (hc : c.toNat % 64 = k) (h : m < 18446744073709551616) : ((l2 m).toUInt64 >>> c).toInt64 = l2 (m / 2 ^ k) := by
  rw [l_u, UInt64.toNat_shiftRight, l_nu h, hc, Nat.shiftRight_eq_div_pow]
theorem l_and (a b : Nat) : l2 a &&& l2 b = l2 (a &&& b) := by
  apply Int64.toBitVec_inj.1
  apply BitVec.eq_of_toNat_eq
  show (BitVec.ofNat 64 a &&& BitVec.ofNat 64 b).toNat = (BitVec.ofNat 64 (a &&& b)).toNat
  rw [BitVec.toNat_and, BitVec.toNat_ofNat, BitVec.toNat_ofNat, BitVec.toNat_ofNat, Nat.and_mod_two_pow]
theorem l_or (a b : Nat) : l2 a ||| l2 b = l2 (a ||| b) := by
  apply Int64.toBitVec_inj.1
  apply BitVec.eq_of_toNat_eq
  show (BitVec.ofNat 64 a ||| BitVec.ofNat 64 b).toNat = (BitVec.ofNat 64 (a ||| b)).toNat
  rw [BitVec.toNat_or, BitVec.toNat_ofNat, BitVec.toNat_ofNat, BitVec.toNat_ofNat, Nat.or_mod_two_pow]
theorem l_sub {a b : Nat} (h : b ≤ a) : l2 a - l2 b = l2 (a - b) := (Int64.ofNat_sub a b h).symm
theorem l_add (a b : Nat) : l2 a + l2 b = l2 (a + b) := (Int64.ofNat_add a b).symm
theorem l_i32 (m : Nat) : (l2 m).toInt32 = n2 m := by
  apply Int32.toBitVec_inj.1
  apply BitVec.eq_of_toNat_eq
  show ((BitVec.ofNat 64 m).signExtend 32).toNat = (BitVec.ofNat 32 m).toNat
  rw [BitVec.signExtend_eq_setWidth_of_le _ (by decide), BitVec.toNat_setWidth, BitVec.toNat_ofNat, BitVec.toNat_ofNat]
  omega
theorem m127 {y : Nat} : y &&& 127 = y % 128 := Nat.and_two_pow_sub_one_eq_mod y 7
theorem dv1 {p m : Nat} (h : p < 256) : (p + 256 * m) / 256 = m := by omega
theorem dv2 {p q m : Nat} (h : p < 256) (hq : q < 256) : (p + 256 * (q + 256 * m)) / 65536 = m := by omega
theorem dv4 {p q r s m : Nat} (h : p < 256) (hq : q < 256) (hr : r < 256) (hs : s < 256) : (p + 256 * (q + 256 * (r + 256 * (s + 256 * m)))) / 4294967296 = m := by omega
theorem lt8 {a b c d e f g h : Nat} (ha : a < 256) (hb : b < 256) (hc : c < 256) (hd : d < 256) (he : e < 256) (hf : f < 256) (hg : g < 256) (hh : h < 256) : vB [a, b, c, d, e, f, g, h] < 18446744073709551616 := by
  have s : ∀ p l k, p < 256 → vB l < k → vB (p :: l) < 256 * k := fun p l k h1 h2 => by simp only [vB]; omega
  have e9 : (18446744073709551616 : Nat) = 256 * (256 * (256 * (256 * (256 * (256 * (256 * (256 * 1))))))) := by decide
  rw [e9]
  exact s _ _ _ ha (s _ _ _ hb (s _ _ _ hc (s _ _ _ hd (s _ _ _ he (s _ _ _ hf (s _ _ _ hg (s _ _ _ hh Nat.one_pos)))))))
theorem fin64 {a b c d e f g h : Nat} (ha : a ≤ 8) (hb : b ≤ 8) (hc : c ≤ 8) (hd : d ≤ 8) (he : e ≤ 8) (hf : f ≤ 8) (hg : g ≤ 8) (hh : h ≤ 8) : ∀ x y z : Nat, x = vB [a, b, c, d, e, f, g, h] + vB [a, b, c, d, e, f, g, h] / 256 → y = x + x / 65536 → z = y + y / 4294967296 → x < 18446744073709551616 ∧ y < 18446744073709551616 ∧ z % 128 = a + (b + (c + (d + (e + (f + (g + h)))))) := by
  intro x y z hx hy hz
  have e2 : vB [a, b, c, d, e, f, g, h] / 256 = vB [b, c, d, e, f, g, h] := dv1 (by omega)
  have ex : x = vB [a + b, b + c, c + d, d + e, e + f, f + g, g + h, h] := by
    rw [hx, e2]
    simp only [vB]
    omega
  have ex2 : x / 65536 = vB [c + d, d + e, e + f, f + g, g + h, h] := by rw [ex]; exact dv2 (by omega) (by omega)
  have ey : y = vB [a + b + (c + d), b + c + (d + e), c + d + (e + f), d + e + (f + g), e + f + (g + h), f + g + h, g + h, h] := by
    rw [hy, ex2, ex]
    simp only [vB]
    omega
  have ey2 : y / 4294967296 = vB [e + f + (g + h), f + g + h, g + h, h] := by rw [ey]; exact dv4 (by omega) (by omega) (by omega) (by omega)
  refine ⟨by rw [ex]; exact lt8 (by omega) (by omega) (by omega) (by omega) (by omega) (by omega) (by omega) (by omega), by rw [ey]; exact lt8 (by omega) (by omega) (by omega) (by omega) (by omega) (by omega) (by omega) (by omega), ?_⟩
  rw [hz, ey2, ey]
  have k : ∀ p q l m, vB (p :: l) + vB (q :: m) = p + q + 256 * (vB l + vB m) := fun p q l m => by simp only [vB]; omega
  rw [k]
  generalize vB _ + vB _ = w
  omega
theorem bc64_s (y : Lay) {m : Nat} (h : m < 18446744073709551616) (M : Mem) : f_J13_bitCount_95d88 y (l2 m) M = some (n2 (pcF 64 m)) := by
  obtain ⟨a, b, c, d, e, f, g, i, ⟨ha, hb, hc, hd⟩, ⟨he, hf, hg, hi⟩, rfl⟩ : ∃ a b c d e f g i : Nat, (a < 256 ∧ b < 256 ∧ c < 256 ∧ d < 256) ∧ (e < 256 ∧ f < 256 ∧ g < 256 ∧ i < 256) ∧ m = vB [a, b, c, d, e, f, g, i] := by
    refine ⟨m % 256, m / 256 % 256, m / 65536 % 256, m / 16777216 % 256, m / 4294967296 % 256, m / 1099511627776 % 256, m / 281474976710656 % 256, m / 72057594037927936, ⟨by omega, by omega, by omega, by omega⟩, ⟨by omega, by omega, by omega, by omega⟩, ?_⟩
    show m = m % 256 + 256 * (m / 256 % 256 + 256 * (m / 65536 % 256 + 256 * (m / 16777216 % 256 + 256 * (m / 4294967296 % 256 + 256 * (m / 1099511627776 % 256 + 256 * (m / 281474976710656 % 256 + 256 * (m / 72057594037927936 + 256 * 0)))))))
    omega
  generalize hl : [a, b, c, d, e, f, g, i] = l at h
  have h8 : l.length = 8 := by rw [← hl]; rfl
  have k0 : ∀ x ∈ l, x < 256 := by
    rw [← hl]
    intro x hx
    simp only [List.mem_cons, List.not_mem_nil, or_false] at hx
    omega
  have k1 : ∀ x ∈ l.map t1, x < 256 := fun x hx => by
    obtain ⟨z, hz, rfl⟩ := List.mem_map.mp hx
    exact (by_3 ⟨z, k0 z hz⟩).2.1
  have k2 : ∀ x ∈ (l.map t1).map t2, x < 69 ∧ x % 16 ≤ 4 := fun x hx => by
    obtain ⟨u, hu, rfl⟩ := List.mem_map.mp hx
    obtain ⟨z, hz, rfl⟩ := List.mem_map.mp hu
    exact ⟨(by_3 ⟨z, k0 z hz⟩).2.2.1, (by_3 ⟨z, k0 z hz⟩).2.2.2.1⟩
  have s1 := vB_1 k0
  have s2 := vB_2 k1
  have s3 := vB_3 _ k2
  rw [List.length_map] at s2
  rw [List.length_map, List.length_map] at s3
  rw [h8] at s1 s2 s3
  have c1 : mkB 85 8 = 6148914691236517205 := by decide
  have c2 : mkB 51 8 = 3689348814741910323 := by decide
  have c3 : mkB 15 8 = 1085102592571150095 := by decide
  rw [c1] at s1
  rw [c2] at s2
  rw [c3] at s3
  have b1 : vB (l.map t1) < 18446744073709551616 := by
    have := vB_lt _ k1
    rw [List.length_map, h8] at this
    exact this
  have b2 : vB ((l.map t1).map t2) < 18446744073709551616 := by
    have := vB_lt _ (fun x hx => (show x < 256 from by have := (k2 x hx).1; omega))
    rw [List.length_map, List.length_map, h8] at this
    exact this
  have e3 : ((l.map t1).map t2).map t3 = [pcF 8 a, pcF 8 b, pcF 8 c, pcF 8 d, pcF 8 e, pcF 8 f, pcF 8 g, pcF 8 i] := by
    rw [← hl]
    show [t3 (t2 (t1 a)), t3 (t2 (t1 b)), t3 (t2 (t1 c)), t3 (t2 (t1 d)), t3 (t2 (t1 e)), t3 (t2 (t1 f)), t3 (t2 (t1 g)), t3 (t2 (t1 i))] = _
    have q : ∀ x, x < 256 → t3 (t2 (t1 x)) = pcF 8 x := fun x hx => (by_3 ⟨x, hx⟩).2.2.2.2.1
    rw [q a ha, q b hb, q c hc, q d hd, q e he, q f hf, q g hg, q i hi]
  have p8 : ∀ x, x < 256 → pcF 8 x ≤ 8 := fun x hx => (by_3 ⟨x, hx⟩).2.2.2.2.2
  rw [e3] at s3
  have fz := fin64 (p8 a ha) (p8 b hb) (p8 c hc) (p8 d hd) (p8 e he) (p8 f hf) (p8 g hg) (p8 i hi) _ _ _ rfl rfl rfl
  have b3 : vB [pcF 8 a, pcF 8 b, pcF 8 c, pcF 8 d, pcF 8 e, pcF 8 f, pcF 8 g, pcF 8 i] < 18446744073709551616 := by have := fz.1; omega
  have q : pcF 64 (vB l) = pcF 8 a + (pcF 8 b + (pcF 8 c + (pcF 8 d + (pcF 8 e + (pcF 8 f + (pcF 8 g + pcF 8 i)))))) := by
    rw [← hl]
    show pcF 64 (a + 256 * (b + 256 * (c + 256 * (d + 256 * (e + 256 * (f + 256 * (g + 256 * i))))))) = _
    have e1 := pcF_split 8 56 a (b + 256 * (c + 256 * (d + 256 * (e + 256 * (f + 256 * (g + 256 * i)))))) ha
    have e2 := pcF_split 8 48 b (c + 256 * (d + 256 * (e + 256 * (f + 256 * (g + 256 * i))))) hb
    have e3 := pcF_split 8 40 c (d + 256 * (e + 256 * (f + 256 * (g + 256 * i)))) hc
    have e4 := pcF_split 8 32 d (e + 256 * (f + 256 * (g + 256 * i))) hd
    have e5 := pcF_split 8 24 e (f + 256 * (g + 256 * i)) he
    have e6 := pcF_split 8 16 f (g + 256 * i) hf
    have e7 := pcF_split 8 8 g i hg
    have p8 : (2 : Nat) ^ 8 = 256 := by decide
    rw [p8] at e1 e2 e3 e4 e5 e6 e7
    rw [e1, e2, e3, e4, e5, e6, e7]
  rw [q, ← fz.2.2]
  unfold f_J13_bitCount_95d88
  simp only [lT_s]
  have k1 : (6148914691236517205 : Int64) = l2 6148914691236517205 := rfl
  have k2 : (3689348814741910323 : Int64) = l2 3689348814741910323 := rfl
  have k3 : (1085102592571150095 : Int64) = l2 1085102592571150095 := rfl
  have k4 : (127 : Int32) = n2 127 := rfl
  have p1 : (2 : Nat) ^ 1 = 2 := by decide
  have p2 : (2 : Nat) ^ 2 = 4 := by decide
  have p4 : (2 : Nat) ^ 4 = 16 := by decide
  have p8' : (2 : Nat) ^ 8 = 256 := by decide
  have p16 : (2 : Nat) ^ 16 = 65536 := by decide
  have p32 : (2 : Nat) ^ 32 = 4294967296 := by decide
  rw [l_sh (k := 1) (by decide) h, p1, k1, l_and, l_sub s1.1, s1.2]
  rw [l_sh (k := 2) (by decide) b1, p2, k2, l_and, l_and, l_add, s2]
  rw [l_sh (k := 4) (by decide) b2, p4, l_add, k3, l_and, s3]
  rw [l_sh (k := 8) (by decide) b3, p8', l_add]
  rw [l_sh (k := 16) (by decide) fz.1, p16, l_add]
  rw [l_sh (k := 32) (by decide) fz.2.1, p32, l_add, l_i32, k4, n2_and, m127]
