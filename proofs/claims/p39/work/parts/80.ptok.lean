/-! ===== the text: bytes and tokens ===== -/
/-- how far a property holds from a place on -/
def rnF (q : Nat → Bool) : Nat → Nat → Nat
  | 0, p => p
  | f + 1, p => if q p = true then rnF q f (p + 1) else p
def rn (q : Nat → Bool) (p : Nat) : Nat := rnF q 701 p
theorem rnF_at {q : Nat → Bool} {m : Nat} (hm : ¬ q m = true) : ∀ f p, p ≤ m → m < p + f → (∀ k, p ≤ k → k < m → q k = true) → rnF q f p = m := by
  intro f
  induction f with
  | zero => intro p h1 h2; omega
  | succ f ih =>
    intro p h1 h2 h3
    show (if q p = true then rnF q f (p + 1) else p) = m
    by_cases e : p = m
    · rw [e, if_neg hm]
    · rw [if_pos (h3 p (Nat.le_refl p) (by omega))]
      exact ih (p + 1) (by omega) (by omega) (fun k a b => h3 k (by omega) b)
theorem rn_at {q : Nat → Bool} {p m : Nat} (hm : ¬ q m = true) (h1 : p ≤ m) (h2 : m ≤ 700) (h3 : ∀ k, p ≤ k → k < m → q k = true) : rn q p = m := rnF_at hm 701 p h1 (by omega) h3
theorem rn_sp {q : Nat → Bool} {n : Nat} (hn : n ≤ 700) (hq : ∀ k, n ≤ k → ¬ q k = true) {p : Nat} (hp : p ≤ n) : p ≤ rn q p ∧ rn q p ≤ n ∧ ¬ q (rn q p) = true ∧ ∀ k, p ≤ k → k < rn q p → q k = true := by
  have key : ∀ d p, n - p ≤ d → p ≤ n → ∃ m, p ≤ m ∧ m ≤ n ∧ ¬ q m = true ∧ ∀ k, p ≤ k → k < m → q k = true := by
    intro d
    induction d with
    | zero => intro p h1 h2; exact ⟨p, Nat.le_refl p, h2, hq p (by omega), fun k a b => by omega⟩
    | succ d ih =>
      intro p h1 h2
      by_cases e : q p = true
      · by_cases e2 : p = n
        · exact absurd e (hq p (by omega))
        · obtain ⟨m, m1, m2, m3, m4⟩ := ih (p + 1) (by omega) (by omega)
          refine ⟨m, by omega, m2, m3, fun k a b => ?_⟩
          by_cases ek : k = p
          · rw [ek]; exact e
          · exact m4 k (by omega) b
      · exact ⟨p, Nat.le_refl p, h2, e, fun k a b => by omega⟩
  obtain ⟨m, m1, m2, m3, m4⟩ := key (n - p) p (Nat.le_refl _) hp
  have e := rn_at m3 m1 (by omega) m4
  rw [e]
  exact ⟨m1, m2, m3, m4⟩
/-- a text: its bytes, its size -/
abbrev Tx : Type := (Nat → Nat) × Nat
def isBk (v : Nat) : Bool := decide (v = 32) || decide (v = 10)
def isLt (v : Nat) : Bool := decide (97 ≤ v) && decide (v ≤ 122)
def isDg (v : Nat) : Bool := decide (48 ≤ v) && decide (v ≤ 57)
def isMk (v : Nat) : Bool := decide (v = 59) || (decide (v = 40) || (decide (v = 41) || (decide (v = 43) || (decide (v = 45) || (decide (v = 42) || (decide (v = 47) || (decide (v = 60) || decide (v = 61))))))))
def inT (T : Tx) (f : Nat → Bool) : Nat → Bool := fun k => decide (k < T.2) && f (T.1 k)
def tS (T : Tx) (p : Nat) : Nat := rn (inT T isBk) p
def tK (T : Tx) (p : Nat) : Nat := if tS T p < T.2 then (if isLt (T.1 (tS T p)) = true then 1 else if isDg (T.1 (tS T p)) = true then 2 else 3) else 0
def tE (T : Tx) (p : Nat) : Nat := if tS T p < T.2 then (if isLt (T.1 (tS T p)) = true then rn (inT T isLt) (tS T p) else if isDg (T.1 (tS T p)) = true then rn (inT T isDg) (tS T p) else tS T p + 1) else tS T p
/-- digits as a number -/
def vlD (T : Tx) (s n : Nat) : Nat := it (fun k a => 10 * a + (T.1 (s + k) - 48)) 0 n
def TOK (T : Tx) : Prop := T.2 ≤ 700 ∧ ∀ k, k < T.2 → T.1 k < 256
theorem inT_no {T : Tx} {f : Nat → Bool} {k : Nat} (h : T.2 ≤ k) : ¬ inT T f k = true := by
  unfold inT
  rw [Bool.and_eq_true, decide_eq_true_eq]
  intro q
  omega
theorem tS_sp {T : Tx} (hT : TOK T) {p : Nat} (hp : p ≤ T.2) : p ≤ tS T p ∧ tS T p ≤ T.2 ∧ ¬ inT T isBk (tS T p) = true ∧ ∀ k, p ≤ k → k < tS T p → inT T isBk k = true := rn_sp hT.1 (fun _ => inT_no) hp
theorem tE_sp {T : Tx} (hT : TOK T) {p : Nat} (hp : p ≤ T.2) : tS T p ≤ tE T p ∧ tE T p ≤ T.2 := by
  obtain ⟨a, b, -, -⟩ := tS_sp hT hp
  unfold tE
  split
  · rename_i q
    split
    · obtain ⟨c, d, -, -⟩ := rn_sp hT.1 (fun _ => inT_no) (q := inT T isLt) b
      exact ⟨c, d⟩
    · split
      · obtain ⟨c, d, -, -⟩ := rn_sp hT.1 (fun _ => inT_no) (q := inT T isDg) b
        exact ⟨c, d⟩
      · exact ⟨by omega, by omega⟩
  · exact ⟨Nat.le_refl _, b⟩
/-- a token takes something, but at the end -/
theorem tE_gt {T : Tx} (hT : TOK T) {p : Nat} (hp : p ≤ T.2) (h : ¬ tK T p = 0) : p < tE T p := by
  obtain ⟨a, b, -, -⟩ := tS_sp hT hp
  unfold tK at h
  unfold tE
  split
  · rename_i q
    split
    · rename_i q2
      obtain ⟨c, d, e, -⟩ := rn_sp hT.1 (fun _ => inT_no) (q := inT T isLt) b
      have : ¬ tS T p = rn (inT T isLt) (tS T p) := fun z => e (by rw [← z]; unfold inT; rw [Bool.and_eq_true, decide_eq_true_eq]; exact ⟨q, q2⟩)
      omega
    · split
      · rename_i q2
        obtain ⟨c, d, e, -⟩ := rn_sp hT.1 (fun _ => inT_no) (q := inT T isDg) b
        have : ¬ tS T p = rn (inT T isDg) (tS T p) := fun z => e (by rw [← z]; unfold inT; rw [Bool.and_eq_true, decide_eq_true_eq]; exact ⟨q, q2⟩)
        omega
      · omega
  · rename_i q
    rw [if_neg q] at h
    exact absurd rfl h
/-! bytes, class and model -/
/-- the class has the text -/
def TXC (T : Tx) (M : Mem) : Prop := (∃ L, T.2 ≤ L ∧ L ≤ 700 ∧ M.1 2 1 = n2 L) ∧ (∀ k, k < T.2 → M.1 3 k &&& 255 = n2 (T.1 k)) ∧ M.1 28 1 = n2 T.2 ∧ M.1 28 7 = -1
def TXM (T : Tx) (N : Mem) : Prop := (∀ k, k < T.2 → N.1 86 k = n2 (T.1 k)) ∧ N.1 73 17 = n2 T.2
theorem byteAt_c {y : Lay} (hy : LY y) {T : Tx} (hT : TOK T) {M : Mem} (h : TXC T M) {k : Nat} (hk : k < T.2) : f_X9_byteAt y 2 (n2 k) M = some (n2 (T.1 k)) := by
  unfold f_X9_byteAt
  obtain ⟨⟨L, l1, l2, l3⟩, h2, -⟩ := h
  have h7 := hT.1
  rw [jn_s, jn_s, bR_f (n2_n0 (by omega)), gK_t (k_2 hy), l3, bR_f (by rw [n2_le (by omega) (by omega)]; omega), r_2_0 hy, gN_t (by decide), gT_t (by rw [k_3 hy]), k_3 hy, bR_f (by show ¬ n2 700 ≤ _; rw [n2_le (by decide) (by omega)]; omega), gA_n (k_3 hy) (by omega) (by omega), n2_nat (by omega), h2 k hk]
theorem byteAt_m {y : Lay} (hy : LY y) {T : Tx} (hT : TOK T) {N : Mem} (h : TXM T N) {k : Nat} (hk : k ≤ 800) : f_X12_byteAt y 73 (n2 k) N = some (if k < T.2 then n2 (T.1 k) else -1) := by
  unfold f_X12_byteAt
  have h7 := hT.1
  rw [gK_t (k_73 hy), jn_s, h.2]
  by_cases q : k < T.2
  · rw [bR_f (by rw [n2_le (by omega) (by omega)]; omega), r_73_14 hy, gN_t (by decide), gA_n (k_86 hy) (by omega) (by omega), n2_nat (by omega), h.1 k q, if_pos q]
  · rw [bR_t (by rw [n2_le (by omega) (by omega)]; omega), if_neg q]
def b01 (b : Bool) : Int32 := if b = true then 1 else 0
theorem wp_gd {β : Type} {P : Prop} [Decidable P] {k : Option β} {Q : β → Prop} (h : P) (hk : wp k Q) : wp (gd P k) Q := by rw [gd_t h]; exact hk
theorem b01_t {b : Bool} (h : b = true) : (1 : Int32) = b01 b := (if_pos h).symm
theorem b01_f {b : Bool} (h : ¬ b = true) : (0 : Int32) = b01 b := (if_neg h).symm
theorem isLt_c {y : Lay} {M : Mem} {v : Nat} (hv : v < 256) : f_X10_isLetter y (n2 v) M = some (b01 (isLt v)) := by
  unfold f_X10_isLetter
  refine wp_eq ?_
  refine wp_jn (wp_jn ?_)
  by_cases q1 : 97 ≤ v
  · refine wp_brf (by rw [show (97 : Int32) = n2 97 from rfl, n2_lt (by omega) (by decide)]; omega) ?_
    by_cases q2 : v ≤ 122
    · exact wp_brf (by rw [show (122 : Int32) = n2 122 from rfl, n2_lt (by decide) (by omega)]; omega) (wp_gd (by decide) (wp_some (b01_t (by unfold isLt; simp [q1, q2]))))
    · exact wp_brt (by rw [show (122 : Int32) = n2 122 from rfl, n2_lt (by decide) (by omega)]; omega) (wp_gd (by decide) (wp_some (b01_f (by unfold isLt; simp [q2]))))
  · exact wp_brt (by rw [show (97 : Int32) = n2 97 from rfl, n2_lt (by omega) (by decide)]; omega) (wp_gd (by decide) (wp_some (b01_f (by unfold isLt; simp [q1]))))
theorem isDg_c {y : Lay} {M : Mem} {v : Nat} (hv : v < 256) : f_X10_isDigit y (n2 v) M = some (b01 (isDg v)) := by
  unfold f_X10_isDigit
  refine wp_eq ?_
  refine wp_jn (wp_jn ?_)
  by_cases q1 : 48 ≤ v
  · refine wp_brf (by rw [show (48 : Int32) = n2 48 from rfl, n2_lt (by omega) (by decide)]; omega) ?_
    by_cases q2 : v ≤ 57
    · exact wp_brf (by rw [show (57 : Int32) = n2 57 from rfl, n2_lt (by decide) (by omega)]; omega) (wp_gd (by decide) (wp_some (b01_t (by unfold isDg; simp [q1, q2]))))
    · exact wp_brt (by rw [show (57 : Int32) = n2 57 from rfl, n2_lt (by decide) (by omega)]; omega) (wp_gd (by decide) (wp_some (b01_f (by unfold isDg; simp [q2]))))
  · exact wp_brt (by rw [show (48 : Int32) = n2 48 from rfl, n2_lt (by omega) (by decide)]; omega) (wp_gd (by decide) (wp_some (b01_f (by unfold isDg; simp [q1]))))
theorem isBk_c {y : Lay} {M : Mem} {v : Nat} (hv : v < 256) : f_X10_isBlank y (n2 v) M = some (b01 (isBk v)) := by
  unfold f_X10_isBlank
  refine wp_eq ?_
  refine wp_jn (wp_jn ?_)
  by_cases q1 : v = 32
  · exact wp_brt (by rw [q1]; rfl) (wp_gd (by decide) (wp_some (b01_t (by unfold isBk; simp [q1]))))
  · refine wp_brf (by rw [show (32 : Int32) = n2 32 from rfl, n2_inj (by omega) (by decide)]; exact q1) ?_
    by_cases q2 : v = 10
    · exact wp_brt (by rw [q2]; rfl) (wp_gd (by decide) (wp_some (b01_t (by unfold isBk; simp [q2]))))
    · exact wp_brf (by rw [show (10 : Int32) = n2 10 from rfl, n2_inj (by omega) (by decide)]; exact q2) (wp_gd (by decide) (wp_some (b01_f (by unfold isBk; simp [q1, q2]))))
theorem isLt_m {y : Lay} {M : Mem} {v : Nat} (hv : v < 256) : f_X12_isLetter y (n2 v) M = some (b01 (isLt v)) := isLt_c (y := y) (M := M) hv
theorem isDg_m {y : Lay} {M : Mem} {v : Nat} (hv : v < 256) : f_X12_isDigit y (n2 v) M = some (b01 (isDg v)) := isDg_c (y := y) (M := M) hv
theorem isLt_e {y : Lay} {M : Mem} : f_X12_isLetter y (-1) M = some 0 := by
  unfold f_X12_isLetter
  refine wp_eq ?_
  exact wp_jn (wp_jn (wp_brt (by decide) (wp_gd (by decide) (wp_some rfl))))
theorem isDg_e {y : Lay} {M : Mem} : f_X12_isDigit y (-1) M = some 0 := by
  unfold f_X12_isDigit
  refine wp_eq ?_
  exact wp_jn (wp_jn (wp_brt (by decide) (wp_gd (by decide) (wp_some rfl))))
theorem isMk_m {y : Lay} {M : Mem} {v : Nat} (hv : v < 256) : f_X12_isMark y (n2 v) M = some (b01 (isMk v)) := by
  unfold f_X12_isMark
  refine wp_eq ?_
  refine wp_jn (wp_jn ?_)
  have k : ∀ c : Nat, c < 256 → (n2 v = n2 c ↔ v = c) := fun c hc => n2_inj (by omega) (by omega)
  by_cases q1 : v = 59
  · exact wp_brt ((k 59 (by decide)).mpr q1) (wp_gd (by decide) (wp_some (b01_t (by unfold isMk; simp [q1]))))
  refine wp_brf (fun z => q1 ((k 59 (by decide)).mp z)) ?_
  by_cases q2 : v = 40
  · exact wp_brt ((k 40 (by decide)).mpr q2) (wp_gd (by decide) (wp_some (b01_t (by unfold isMk; simp [q2]))))
  refine wp_brf (fun z => q2 ((k 40 (by decide)).mp z)) ?_
  by_cases q3 : v = 41
  · exact wp_brt ((k 41 (by decide)).mpr q3) (wp_gd (by decide) (wp_some (b01_t (by unfold isMk; simp [q3]))))
  refine wp_brf (fun z => q3 ((k 41 (by decide)).mp z)) ?_
  by_cases q4 : v = 43
  · exact wp_brt ((k 43 (by decide)).mpr q4) (wp_gd (by decide) (wp_some (b01_t (by unfold isMk; simp [q4]))))
  refine wp_brf (fun z => q4 ((k 43 (by decide)).mp z)) ?_
  by_cases q5 : v = 45
  · exact wp_brt ((k 45 (by decide)).mpr q5) (wp_gd (by decide) (wp_some (b01_t (by unfold isMk; simp [q5]))))
  refine wp_brf (fun z => q5 ((k 45 (by decide)).mp z)) ?_
  by_cases q6 : v = 42
  · exact wp_brt ((k 42 (by decide)).mpr q6) (wp_gd (by decide) (wp_some (b01_t (by unfold isMk; simp [q6]))))
  refine wp_brf (fun z => q6 ((k 42 (by decide)).mp z)) ?_
  by_cases q7 : v = 47
  · exact wp_brt ((k 47 (by decide)).mpr q7) (wp_gd (by decide) (wp_some (b01_t (by unfold isMk; simp [q7]))))
  refine wp_brf (fun z => q7 ((k 47 (by decide)).mp z)) ?_
  by_cases q8 : v = 60
  · exact wp_brt ((k 60 (by decide)).mpr q8) (wp_gd (by decide) (wp_some (b01_t (by unfold isMk; simp [q8]))))
  refine wp_brf (fun z => q8 ((k 60 (by decide)).mp z)) ?_
  by_cases q9 : v = 61
  · exact wp_brt ((k 61 (by decide)).mpr q9) (wp_gd (by decide) (wp_some (b01_t (by unfold isMk; simp [q9]))))
  refine wp_brf (fun z => q9 ((k 61 (by decide)).mp z)) (wp_gd (by decide) (wp_some (b01_f ?_)))
  unfold isMk
  simp [q1, q2, q3, q4, q5, q6, q7, q8, q9]
