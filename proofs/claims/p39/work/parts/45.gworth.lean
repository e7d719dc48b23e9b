theorem am1 (x : Int32) : x + -1 = x - 1 := (Int32.sub_eq_add_neg x 1).symm
/-! ===== a rule's worth ===== -/
def isB (c : Int32) : Bool := decide (c = -11) || (decide (c = -12) || (decide (c = -14) || (decide (c = -15) || (decide (c = -16) || (decide (c = -17) || (decide (c = -18) || decide (c = -19)))))))
theorem isB_iff {c : Int32} : isB c = true ↔ isBin c := by
  unfold isB isBin
  simp only [Bool.or_eq_true, decide_eq_true_eq]
/-- a step over a row as a stack -/
def stp (vals : Row) (c : Int32) (q : Row × Nat) : Row × Nat :=
  if c = -13 then (up q.1 (q.2 - 1) (if q.1 (q.2 - 1) = 0 then 1 else 0), q.2)
  else if isB c = true then (up q.1 (q.2 - 2) (jP c (q.1 (q.2 - 2)) (q.1 (q.2 - 1))), q.2 - 1)
  else (up q.1 q.2 (if c < 0 then vals (-1 - c).toNatClampNeg else c), q.2 + 1)
def evR (vals code : Row) (n : Nat) : Row × Nat := it (fun i q => stp vals (code i) q) (fun _ => 0, 0) n
def dpt (code : Row) (n : Nat) : Nat := it (fun i t => if code i = -13 then t else if isB (code i) = true then t - 1 else t + 1) 0 n
theorem evR_2 (vals code : Row) : ∀ n, (evR vals code n).2 = dpt code n := by
  intro n
  induction n with
  | zero => rfl
  | succ n ih =>
    show (stp vals (code n) (evR vals code n)).2 = (if code n = -13 then dpt code n else if isB (code n) = true then dpt code n - 1 else dpt code n + 1)
    unfold stp
    rw [← ih]
    by_cases h1 : code n = -13
    · rw [if_pos h1, if_pos h1]
    · rw [if_neg h1, if_neg h1]
      by_cases h2 : isB (code n) = true
      · rw [if_pos h2, if_pos h2]
      · rw [if_neg h2, if_neg h2]
/-- a rule of m values that can be worked out -/
def okC (m : Nat) (c : Int32) : Prop := (0 ≤ c.toInt ∧ c.toInt ≤ 9999) ∨ (c.toInt < 0 ∧ -(m : Int) ≤ c.toInt) ∨ c = -13 ∨ isB c = true
def WFR (m : Nat) (code : Row) (n : Nat) : Prop := (∀ i, i < n → okC m (code i) ∧ (code i = -13 → 1 ≤ dpt code i) ∧ (isB (code i) = true → 2 ≤ dpt code i) ∧ dpt code i < 40) ∧ dpt code n = 1
theorem isB_lt {c : Int32} (h : isB c = true ∨ c = -13) : c < -6 := by
  rcases h with h | rfl
  · rcases isB_iff.mp h with rfl | rfl | rfl | rfl | rfl | rfl | rfl | rfl <;> decide
  · decide
theorem okC_push {m : Nat} (hm : m ≤ 6) {c : Int32} (h : okC m c) (h1 : ¬ c = -13) (h2 : ¬ isB c = true) : -(m : Int) ≤ c.toInt ∧ c.toInt ≤ 9999 := by
  rcases h with h | h | h | h
  · omega
  · omega
  · exact absurd h h1
  · exact absurd h h2
theorem neg1 {c : Int32} (h1 : -6 ≤ c.toInt) (h2 : c.toInt ≤ 9999) : ((-1 : Int32) - c).toInt = -1 - c.toInt := by
  have z : (-1 : Int32).toInt = -1 := by decide
  have h := i_sub (a := -1) (b := c) (by rw [z]; omega) (by rw [z]; omega)
  rw [z] at h
  exact h
theorem neg1_lt {c : Int32} (h1 : -6 ≤ c.toInt) (h2 : c.toInt ≤ 9999) (h3 : c < 0) : ¬ ((-1 : Int32) - c < 0) ∧ ¬ ((6 : Int32) ≤ (-1 : Int32) - c) ∧ ((-1 : Int32) - c).toNatClampNeg < 6 := by
  have z0 : (0 : Int32).toInt = 0 := by decide
  have z6 : (6 : Int32).toInt = 6 := by decide
  have h := neg1 h1 h2
  rw [i_lt, z0] at h3
  rw [i_lt, i_le, i_nat, h, z0, z6]
  omega
theorem neg1_ge {c : Int32} (h1 : -6 ≤ c.toInt) (h2 : c.toInt ≤ 9999) (h3 : ¬ c < 0) : (-1 : Int32) - c < 0 := by
  have z0 : (0 : Int32).toInt = 0 := by decide
  have h := neg1 h1 h2
  rw [i_lt, z0] at h3
  rw [i_lt, h, z0]
  omega
theorem m6_le {c : Int32} (h : -6 ≤ c.toInt) : ¬ c < -6 := by
  have z6 : (-6 : Int32).toInt = -6 := by decide
  rw [i_lt, z6]
  omega
theorem worth_g {y : Lay} {ru cr sk va n : Nat} {M : Mem} (k1 : kd y ru = (0, 5)) (f1 : y.2.1 ru 0 = cr) (f2 : y.2.1 ru 1 = sk) (k2 : kd y cr = (1, 700)) (k3 : kd y sk = (1, 40)) (k4 : kd y va = (1, 6)) (z1 : ¬ cr = 0) (z2 : ¬ sk = 0) (d1 : ¬ ru = sk) (d2 : ¬ cr = sk) (d3 : ¬ va = sk) (hn : M.1 ru 2 = n2 n) (hn7 : n ≤ 700) (hW : WFR 6 (M.1 cr) n) : wp (f_X5_worth y ru va M) (fun o => o.1 = (evR (M.1 va) (M.1 cr) n).1 0 ∧ Eqx [sk] M o.2) := by
  unfold f_X5_worth
  simp only [f1, f2, gK_t k1, gN_t z1, gN_t z2, k2, k4, lT_s]
  refine wp_for2M (i0 := 0) n (fun i c s => c = n2 (dpt (M.1 cr) i) ∧ Eqx [sk] M s ∧ ∀ k, k < dpt (M.1 cr) i → s.1 sk k = (evR (M.1 va) (M.1 cr) i).1 k) (by have : FUEL = 100000 := rfl; omega) rfl (by omega) ⟨rfl, Eqx.refl _ _, fun k hk => absurd hk (Nat.not_lt_zero _)⟩ ?_ ?_
  · intro f i c s hi hI hk
    obtain ⟨hc, hE, hS⟩ := hI
    subst hc
    obtain ⟨w1, w2, w3, w4⟩ := hW.1 i hi
    have e2 := evR_2 (M.1 va) (M.1 cr) i
    have sru : s.1 ru = M.1 ru := hE.2 ru (by simpa using d1)
    have scr : s.1 cr = M.1 cr := hE.2 cr (by simpa using d2)
    have sva : s.1 va = M.1 va := hE.2 va (by simpa using d3)
    rw [jn_s, sru, hn]
    refine wp_brf (by rw [n2_le (by omega) (by omega)]; omega) ?_
    rw [gT_t (by rw [k2])]
    refine wp_brf (by rw [show Int32.ofNat (1, 700).2 = n2 700 from rfl, n2_le (by decide) (by omega)]; omega) ?_
    rw [gA_n k2 (by omega) (by omega), n2_nat (by omega), scr, jn_s]
    generalize hcc : M.1 cr i = c at w1 w2 w3
    have hdS : dpt (M.1 cr) (i + 1) = (if c = -13 then dpt (M.1 cr) i else if isB c = true then dpt (M.1 cr) i - 1 else dpt (M.1 cr) i + 1) := by rw [← hcc]; rfl
    have heS : evR (M.1 va) (M.1 cr) (i + 1) = stp (M.1 va) c (evR (M.1 va) (M.1 cr) i) := by rw [← hcc]; rfl
    by_cases h13 : c = -13
    · rw [if_pos h13] at hdS
      have hd := w2 h13
      refine wp_brt (isB_lt (Or.inr h13)) (wp_brt h13 (wp_brf ?_ ?_))
      · rw [show (1 : Int32) = n2 1 from rfl, n2_lt (by omega) (by decide)]; omega
      rw [show n2 (dpt (M.1 cr) i) - 1 = n2 (dpt (M.1 cr) i - 1) from n2_sub (b := 1) hd]
      rw [gA_n k3 (by omega) (by omega), jn_s, n2_nat (by omega)]
      have val : s.1 sk (dpt (M.1 cr) i - 1) = (evR (M.1 va) (M.1 cr) i).1 (dpt (M.1 cr) i - 1) := hS _ (by omega)
      have fin : ∀ v, v = (if (evR (M.1 va) (M.1 cr) i).1 (dpt (M.1 cr) i - 1) = 0 then (1 : Int32) else 0) → wp (gA y sk 1 (n2 (dpt (M.1 cr) i - 1)) (f (n2 (dpt (M.1 cr) i)) (n2 i + 1) (wI s sk (dpt (M.1 cr) i - 1) v))) (fun o => o.1 = (evR (M.1 va) (M.1 cr) n).1 0 ∧ Eqx [sk] M o.2) := by
        intro v hv
        rw [gA_n k3 (by omega) (by omega), n2_s, wI_sr]
        refine hk _ _ ⟨by rw [hdS], hE.sr (by simp), fun k hk2 => ?_⟩
        rw [hdS] at hk2
        rw [sr_ap, heS]
        unfold stp
        rw [if_pos h13]
        dsimp only
        rw [e2]
        by_cases q : k = dpt (M.1 cr) i - 1
        · rw [q, up_eq, up_eq, hv]
        · rw [up_ne q, up_ne q]; exact hS k hk2
      refine wp_br (fun q => ?_) (fun q => ?_)
      · exact fin 1 (by rw [val] at q; rw [if_pos q])
      · exact fin 0 (by rw [val] at q; rw [if_neg q])
    · rw [if_neg h13] at hdS
      by_cases hb : isB c = true
      · rw [if_pos hb] at hdS
        have hd := w3 hb
        refine wp_brt (isB_lt (Or.inl hb)) (wp_brf h13 (wp_brf ?_ ?_))
        · rw [show (2 : Int32) = n2 2 from rfl, n2_lt (by omega) (by decide)]; omega
        rw [am1, show n2 (dpt (M.1 cr) i) - 1 = n2 (dpt (M.1 cr) i - 1) from n2_sub (b := 1) (by omega), show n2 (dpt (M.1 cr) i - 1) - 1 = n2 (dpt (M.1 cr) i - 1 - 1) from n2_sub (b := 1) (by omega)]
        rw [gA_n k3 (by omega) (by omega), gA_n k3 (by omega) (by omega), n2_nat (by omega), n2_nat (by omega), joined_s (isB_iff.mp hb), cp_s, gA_n k3 (by omega) (by omega), n2_s, wI_sr]
        refine hk _ _ ⟨by rw [hdS], hE.sr (by simp), fun k hk2 => ?_⟩
        rw [hdS] at hk2
        rw [sr_ap, heS]
        unfold stp
        rw [if_neg h13, if_pos hb]
        dsimp only
        rw [e2, show dpt (M.1 cr) i - 1 - 1 = dpt (M.1 cr) i - 2 by omega, hS _ (by omega), hS _ (by omega)]
        by_cases q : k = dpt (M.1 cr) i - 2
        · rw [q, up_eq, up_eq]
        · rw [up_ne q, up_ne q]; exact hS k (by omega)
      · rw [if_neg hb] at hdS
        have hp := okC_push (by decide) w1 h13 hb
        have z6 : (-6 : Int32).toInt = -6 := rfl
        have fin : ∀ v, v = (if c < 0 then M.1 va (-1 - c).toNatClampNeg else c) → wp (gA y sk 1 (n2 (dpt (M.1 cr) i)) (f (n2 (dpt (M.1 cr) i) + 1) (n2 i + 1) (wI s sk (n2 (dpt (M.1 cr) i)).toNatClampNeg v))) (fun o => o.1 = (evR (M.1 va) (M.1 cr) n).1 0 ∧ Eqx [sk] M o.2) := by
          intro v hv
          rw [gA_n k3 (by omega) (by omega), n2_s, n2_s, wI_sr, n2_nat (by omega)]
          refine hk _ _ ⟨by rw [hdS], hE.sr (by simp), fun k hk2 => ?_⟩
          rw [hdS] at hk2
          rw [sr_ap, heS]
          unfold stp
          rw [if_neg h13, if_neg hb]
          dsimp only
          rw [e2]
          by_cases q : k = dpt (M.1 cr) i
          · rw [q, up_eq, up_eq, hv]
          · rw [up_ne q, up_ne q]; exact hS k (by omega)
        have hp6 : -6 ≤ c.toInt := hp.1
        refine wp_brf (m6_le hp6) ?_
        rw [jn_s]
        refine wp_brf (by rw [show (40 : Int32) = n2 40 from rfl, n2_le (by decide) (by omega)]; omega) ?_
        rw [jn_s, jn_s]
        by_cases hneg : c < 0
        · obtain ⟨q1, q2, q3⟩ := neg1_lt hp6 hp.2 hneg
          refine wp_brf q1 ?_
          rw [gT_t (by rw [k4])]
          refine wp_brf q2 ?_
          rw [gA_t k4 (fun q => by rcases q with q | q; exact q1 q; omega), sva]
          exact fin _ (by rw [if_pos hneg])
        · refine wp_brt (neg1_ge hp6 hp.2 hneg) ?_
          exact fin _ (by rw [if_neg hneg])
  · intro f c s hI
    obtain ⟨hc, hE, hS⟩ := hI
    subst hc
    have sru : s.1 ru = M.1 ru := hE.2 ru (by simpa using d1)
    rw [hW.2] at hS ⊢
    rw [jn_s, sru, hn]
    refine wp_brt (Int32.le_refl _) ?_
    rw [jn_s]
    refine wp_brf (by decide) ?_
    rw [show n2 1 - 1 = n2 0 by decide, gA_n k3 (by decide) (by decide), n2_nat (by decide)]
    exact wp_some ⟨hS 0 (by decide), hE⟩
