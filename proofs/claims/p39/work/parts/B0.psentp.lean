/-! ===== who is sent where by fewest steps: the mathematics ===== -/
def Lf (k : Nat) (c : Nat → Nat → Nat) : Nat → Nat → Int32 → Nat
  | 0, _, _ => 0
  | r + 1, i, s => it (fun g a => if bt s g = 1 then a else min a (c i g + Lf k c r (i + 1) (s ||| bit g))) 100000 k
def vL (k : Nat) (c : Nat → Nat → Nat) (r i : Nat) (s : Int32) (g : Nat) : Nat := c i g + Lf k c r (i + 1) (s ||| bit g)
def mnF (s : Int32) (v : Nat → Nat) (B k : Nat) : Nat := it (fun g a => if bt s g = 1 then a else min a (v g)) B k
theorem Lf_s (k : Nat) (c : Nat → Nat → Nat) (r i : Nat) (s : Int32) : Lf k c (r + 1) i s = mnF s (vL k c r i s) 100000 k := rfl
theorem mnF_s (s : Int32) (v : Nat → Nat) (B k : Nat) : mnF s v B (k + 1) = if bt s k = 1 then mnF s v B k else min (mnF s v B k) (v k) := rfl
theorem mnF_le (s : Int32) (v : Nat → Nat) (B : Nat) : ∀ k, mnF s v B k ≤ B ∧ ∀ g, g < k → ¬ bt s g = 1 → mnF s v B k ≤ v g := by
  intro k
  induction k with
  | zero => exact ⟨Nat.le_refl _, fun g hg => absurd hg (Nat.not_lt_zero g)⟩
  | succ k ih =>
    rw [mnF_s]
    by_cases q : bt s k = 1
    · rw [if_pos q]
      refine ⟨ih.1, fun g hg hf => ?_⟩
      by_cases e : g = k
      · rw [e] at hf; exact absurd q hf
      · exact ih.2 g (by omega) hf
    · rw [if_neg q]
      refine ⟨Nat.le_trans (Nat.min_le_left _ _) ih.1, fun g hg hf => ?_⟩
      by_cases e : g = k
      · rw [e]; exact Nat.min_le_right _ _
      · exact Nat.le_trans (Nat.min_le_left _ _) (ih.2 g (by omega) hf)
theorem mnF_ex (s : Int32) (v : Nat → Nat) (B : Nat) : ∀ k, mnF s v B k = B ∨ ∃ g, g < k ∧ ¬ bt s g = 1 ∧ mnF s v B k = v g := by
  intro k
  induction k with
  | zero => exact Or.inl rfl
  | succ k ih =>
    rw [mnF_s]
    by_cases q : bt s k = 1
    · rw [if_pos q]
      rcases ih with h | ⟨g, h1, h2, h3⟩
      · exact Or.inl h
      · exact Or.inr ⟨g, by omega, h2, h3⟩
    · rw [if_neg q]
      by_cases w : mnF s v B k ≤ v k
      · rw [Nat.min_eq_left w]
        rcases ih with h | ⟨g, h1, h2, h3⟩
        · exact Or.inl h
        · exact Or.inr ⟨g, by omega, h2, h3⟩
      · rw [Nat.min_eq_right (by omega)]
        exact Or.inr ⟨k, by omega, q, rfl⟩
/-- the least, where some girl is free -/
theorem mnF_eq {s : Int32} {v : Nat → Nat} {B k g : Nat} (hg : g < k) (hf : ¬ bt s g = 1) (hB : v g < B) (hm : ∀ g', g' < k → ¬ bt s g' = 1 → v g ≤ v g') : mnF s v B k = v g := by
  have h1 := (mnF_le s v B k).2 g hg hf
  rcases mnF_ex s v B k with h | ⟨g', a, b, e⟩
  · omega
  · have := hm g' a b; omega
def tkc (k : Nat) (s : Int32) : Nat := it (fun g n => if bt s g = 1 then n + 1 else n) 0 k
theorem tkc_0 (s : Int32) : tkc 0 s = 0 := rfl
theorem tkc_s (k : Nat) (s : Int32) : tkc (k + 1) s = if bt s k = 1 then tkc k s + 1 else tkc k s := rfl
theorem tkc_free {s : Int32} : ∀ k, tkc k s < k → ∃ g, g < k ∧ ¬ bt s g = 1 := by
  intro k
  induction k with
  | zero => intro h; exact absurd h (Nat.not_lt_zero _)
  | succ k ih =>
    intro h
    rw [tkc_s] at h
    by_cases q : bt s k = 1
    · rw [if_pos q] at h
      obtain ⟨g, a, b⟩ := ih (by omega)
      exact ⟨g, by omega, b⟩
    · exact ⟨k, by omega, q⟩
theorem tkc_or {s : Int32} {g : Nat} (hg : g < 32) (hf : ¬ bt s g = 1) : ∀ k, k ≤ 32 → tkc k (s ||| bit g) = if g < k then tkc k s + 1 else tkc k s := by
  intro k
  induction k with
  | zero => intro _; rw [if_neg (Nat.not_lt_zero g), tkc_0, tkc_0]
  | succ k ih =>
    intro hk
    have hk2 : k < 32 := hk
    have e := bt_or_bit (x := s) (c := g) (i := k) hg hk2
    have i0 := ih (Nat.le_of_lt hk2)
    rw [tkc_s, tkc_s, i0]
    clear ih i0
    by_cases ek : k = g
    · subst ek
      rw [if_pos (e.mpr (Or.inr rfl)), if_neg (Nat.lt_irrefl k), if_neg hf, if_pos (Nat.lt_succ_self k)]
    · have hne : ∀ z : Nat, (if g < k then z + 1 else z) = (if g < k + 1 then z + 1 else z) := fun z => by
        clear e
        by_cases w : g < k
        · rw [if_pos w, if_pos (Nat.lt_succ_of_lt w)]
        · have w2 : ¬ g < k + 1 := fun q => (Nat.lt_succ_iff_lt_or_eq.mp q).elim w (fun z => ek z.symm)
          rw [if_neg w, if_neg w2]
      by_cases q : bt s k = 1
      · rw [if_pos q, if_pos (e.mpr (Or.inl q)), ← hne]
        split <;> rfl
      · rw [if_neg q, if_neg (fun z => (e.mp z).elim q ek), ← hne]
theorem tkc_at {k g : Nat} {s : Int32} (hk : k ≤ 6) (hg : g < k) (hf : ¬ bt s g = 1) : tkc k (s ||| bit g) = tkc k s + 1 := by
  rw [tkc_or (by omega) hf k (by omega), if_pos hg]
theorem Lf_lt {k : Nat} {c : Nat → Nat → Nat} (hk : k ≤ 6) (hc : ∀ i g, g < k → c i g < 128) : ∀ r i s, tkc k s + r ≤ k → Lf k c r i s ≤ 128 * r := by
  intro r
  induction r with
  | zero => intro i s _; exact Nat.le_refl _
  | succ r ih =>
    intro i s h
    obtain ⟨g, a, b⟩ := tkc_free (s := s) k (by omega)
    have h1 := (mnF_le s (vL k c r i s) 100000 k).2 g a b
    have h2 := ih (i + 1) (s ||| bit g) (by rw [tkc_at hk a b]; omega)
    have h3 := hc i g a
    rw [Lf_s]
    have h4 : vL k c r i s g = c i g + Lf k c r (i + 1) (s ||| bit g) := rfl
    omega
def ownL (k : Nat) (c : Nat → Nat → Nat) (r i : Nat) (s : Int32) : Nat := (fst (fun g => decide (¬ bt s g = 1) && decide (vL k c r i s g = Lf k c (r + 1) i s)) k).getD 0
theorem fst_at {p : Nat → Bool} {n g : Nat} (hg : g < n) (hp : p g = true) (h : ∀ j, j < g → ¬ p j = true) : fst p n = some g := by
  have h0 : ∀ j, j ≤ g → fst p j = none := by
    intro j
    induction j with
    | zero => intro _; rfl
    | succ j ih => intro hj; exact fst_no (ih (by omega)) (h j (by omega))
  exact fst_yes (h0 g (Nat.le_refl g)) hp n hg
theorem ownL_at {k : Nat} {c : Nat → Nat → Nat} {r i g : Nat} {s : Int32} (hg : g < k) (hf : ¬ bt s g = 1) (hv : vL k c r i s g = Lf k c (r + 1) i s) (hm : ∀ j, j < g → ¬ bt s j = 1 → ¬ vL k c r i s j = Lf k c (r + 1) i s) : ownL k c r i s = g := by
  unfold ownL
  rw [fst_at hg (by simp [hf, hv]) (fun j hj => by
    intro z
    rw [Bool.and_eq_true, decide_eq_true_eq, decide_eq_true_eq] at z
    exact hm j hj z.1 z.2)]
  rfl
theorem least_ex {P : Nat → Prop} : ∀ n, (∃ g, g < n ∧ P g) → ∃ g, g < n ∧ P g ∧ ∀ j, j < g → ¬ P j := by
  intro n
  induction n with
  | zero => intro h; obtain ⟨g, a, -⟩ := h; exact absurd a (Nat.not_lt_zero g)
  | succ n ih =>
    intro h
    by_cases q : ∃ g, g < n ∧ P g
    · obtain ⟨g, a, b, e⟩ := ih q
      exact ⟨g, by omega, b, e⟩
    · obtain ⟨g, a, b⟩ := h
      refine ⟨g, a, b, fun j hj hp => q ⟨j, by omega, hp⟩⟩
theorem ownL_sp {k : Nat} {c : Nat → Nat → Nat} (hk : k ≤ 6) (hc : ∀ i g, g < k → c i g < 128) {r i : Nat} {s : Int32} (h : tkc k s + (r + 1) ≤ k) : ownL k c r i s < k ∧ ¬ bt s (ownL k c r i s) = 1 ∧ vL k c r i s (ownL k c r i s) = Lf k c (r + 1) i s ∧ ∀ j, j < ownL k c r i s → ¬ bt s j = 1 → ¬ vL k c r i s j = Lf k c (r + 1) i s := by
  have hl := Lf_lt hk hc (r + 1) i s h
  have hr : r + 1 ≤ 6 := by omega
  have hex : ∃ g, g < k ∧ (¬ bt s g = 1 ∧ vL k c r i s g = Lf k c (r + 1) i s) := by
    rcases mnF_ex s (vL k c r i s) 100000 k with e | ⟨g, a, b, e⟩
    · rw [Lf_s, e] at hl; omega
    · exact ⟨g, a, b, e.symm⟩
  obtain ⟨g, a, ⟨b, e⟩, m⟩ := least_ex k hex
  have eo := ownL_at (c := c) (i := i) a b e (fun j hj hf hv => m j hj ⟨hf, hv⟩)
  rw [eo]
  exact ⟨a, b, e, fun j hj hf hv => m j hj ⟨hf, hv⟩⟩
def Wn (k : Nat) (c : Nat → Nat → Nat) : Nat → Nat → Int32 → Nat → Nat
  | 0, _, _, _ => 0
  | r + 1, i, s, 0 => ownL k c r i s
  | r + 1, i, s, j + 1 => Wn k c r (i + 1) (s ||| bit (ownL k c r i s)) j
theorem Wn_lt {k : Nat} {c : Nat → Nat → Nat} (hk : k ≤ 6) (hc : ∀ i g, g < k → c i g < 128) : ∀ r i s j, j < r → tkc k s + r ≤ k → Wn k c r i s j < k := by
  intro r
  induction r with
  | zero => intro i s j hj; exact absurd hj (Nat.not_lt_zero j)
  | succ r ih =>
    intro i s j hj h
    obtain ⟨o1, o2, -, -⟩ := ownL_sp hk hc (i := i) h
    cases j with
    | zero => exact o1
    | succ j => exact ih (i + 1) _ j (by omega) (by rw [tkc_at hk o1 o2]; omega)
