/-! ===== THE LAW at six ints: one call on a new object ===== -/
theorem chainF {y : Lay} (hy : LY y) {N : Mem} {Q : Int32 → Prop} {J : Mem → Option Int32} (h1 : f_X11_fault y 1 N = some (-1)) (h2 : N.1 73 24 = -1) (hJ : ∀ N, wp (J N) Q) : wp (gK y 1 (0, 11) (cp (f_X11_fault y 1 N) fun (r : Int32) => gK y 73 (0, 12) (c0 (f_X12_fault y 73 N) fun (b : Int32) (M2 : Mem) => br (r = b) (J M2) (some (0 : Int32))))) Q := by
  rw [gK_t (k_1 hy), h1, cp_s, gK_t (k_73 hy)]
  unfold f_X12_fault
  rw [gK_t (k_73 hy), lT_s, c0_s, wI_sr, sr_ap, up_ne (by decide), h2]
  exact wp_brt rfl (hJ _)
theorem chainV {y : Lay} (hy : LY y) {x : Option (Int32 × Mem)} {m : Mem → Option (Int32 × Mem)} {Q : Int32 → Prop} {J : Mem → Option Int32} (h : (match x with | some (_, N) => (m N).isSome | none => false) = true) (hJ : ∀ N, wp (J N) Q) : wp (gK y 1 (0, 11) (c0 x (fun (r : Int32) (M1 : Mem) => gK y 73 (0, 12) (c0 (m M1) fun (b : Int32) (M2 : Mem) => J M2)))) Q := by
  rw [gK_t (k_1 hy)]
  cases x with
  | none => cases h
  | some o =>
    obtain ⟨r, M1⟩ := o
    have h : (m M1).isSome = true := h
    show wp (gK y 73 (0, 12) (c0 (m M1) _)) Q
    rw [gK_t (k_73 hy)]
    cases hm : m M1 with
    | none => rw [hm] at h; cases h
    | some q => exact hJ q.2
theorem chainR {y : Lay} (hy : LY y) {N : Mem} {x : Option (Int32 × Mem)} {m : Mem → Option (Int32 × Mem)} {Q : Int32 → Prop} {J : Mem → Option Int32} {K : Int32 → Int32 → Mem → (Unit → Option Int32) → Option Int32} (hx : x = some (1, N)) (hm : wp (m N) (fun o => o.2.1 73 4 = 1)) (hJ : ∀ N, wp (J N) Q) :
    wp (c0 x (fun (r : Int32) (M1 : Mem) => gK y 73 (0, 12) (c0 (m M1) fun (b : Int32) (M2 : Mem) => cp (f_X12_thrown y 73 M2) fun (t : Int32) => br (t = r) (jn (fun (_u : Unit) => J M2) fun j => br (r = 0) (K r b M2 j) (j ())) (some (0 : Int32))))) Q := by
  subst hx
  show wp (gK y 73 (0, 12) (c0 (m N) _)) Q
  rw [gK_t (k_73 hy)]
  refine wp_c0 _ hm (fun b M2 h => ?_)
  have h : M2.1 73 4 = 1 := h
  rw [thrown_s hy, h, cp_s]
  exact wp_brt rfl (wp_brf (by decide) (hJ _))
theorem sc6 (i : Nat) (hi : i < 6) : ¬ (n2 i < 0 ∨ 6 ≤ (n2 i).toNatClampNeg) := by
  rw [n2_nat (by omega)]
  intro q
  rcases q with q | q
  · exact n2_n0 (by omega) q
  · omega
theorem b64 (z : Int32) : z &&& 63 = n2 (z.toBitVec.toNat % 64) := by
  apply Int32.toBitVec_inj.1
  apply BitVec.eq_of_toNat_eq
  show (z.toBitVec &&& 63#32).toNat = (BitVec.ofNat 32 (z.toBitVec.toNat % 64)).toNat
  rw [BitVec.toNat_and, BitVec.toNat_ofNat, BitVec.toNat_ofNat]
  have e : 63 % 2 ^ 32 = 2 ^ 6 - 1 := by decide
  rw [e, Nat.and_two_pow_sub_one_eq_mod]
  omega
theorem ci_s {β : Type} {y : Lay} {M : Mem} {k : Lay → Mem → Option β} : ci (some (y, M)) k = k y M := rfl

set_option maxHeartbeats 16000000 in
set_option maxRecDepth 20000 in
theorem law_6 (xs : Nat → Int32) : f_L_law y_0 M_0 6 xs = some 1 := by
  unfold f_L_law
  have s0 := sc6 0 (by decide)
  have s1 := sc6 1 (by decide)
  have s2 := sc6 2 (by decide)
  have s3 := sc6 3 (by decide)
  have s4 := sc6 4 (by decide)
  have s5 := sc6 5 (by decide)
  have q1 : f_X11_init (psh y_0 (0, 11)) (y_0.2.2 + 1) (zM M_0 (y_0.2.2 + 1)) = some o1 := i1_eq
  rw [gd_t (by decide), lT_s, lT_s, q1, ci_s, yS_n.1.1, gd_t (by decide), lT_s, lT_s]
  have q2 : f_X12_init (psh o1.1 (0, 12)) (72 + 1) (zM o1.2 (72 + 1)) = some o2 := i2_eq
  rw [q2, ci_s, yS_n.1.2, gd_t (by decide), lT_s, lT_s]
  have ey : psh o2.1 (3, 1) = yS := rfl
  have eM : zM o2.2 (109 + 1) = MS := rfl
  have en : y_0.2.2 + 1 = 1 := rfl
  rw [ey, eM, en]
  generalize hyS : yS = y
  sorry
