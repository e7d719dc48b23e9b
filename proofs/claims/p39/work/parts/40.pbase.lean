/-! ===== a small calculus of total correctness over the combinators ===== -/
def wp {β : Type} (x : Option β) (Q : β → Prop) : Prop := ∃ o, x = some o ∧ Q o
section WPC
variable {β : Type} {Q : β → Prop}
theorem wp_some {o : β} (h : Q o) : wp (some o) Q := ⟨o, rfl, h⟩
theorem wp_mono {x : Option β} {R : β → Prop} (h : wp x R) (hRQ : ∀ o, R o → Q o) : wp x Q := by
  obtain ⟨o, e, h⟩ := h
  exact ⟨o, e, hRQ o h⟩
theorem wp_of {x : Option β} {o : β} (e : x = some o) (h : Q o) : wp x Q := ⟨o, e, h⟩
theorem wp_eq {x : Option β} {o : β} (h : wp x (fun z => z = o)) : x = some o := by
  obtain ⟨z, e, rfl⟩ := h
  exact e
theorem wp_c0 {x : Option (Int32 × Mem)} {k : Int32 → Mem → Option β} (R : Int32 × Mem → Prop) (hx : wp x R) (hk : ∀ r M, R (r, M) → wp (k r M) Q) : wp (c0 x k) Q := by
  obtain ⟨⟨r, M⟩, e, h⟩ := hx
  unfold c0; rw [e]; exact hk r M h
theorem wp_cp {x : Option Int32} {k : Int32 → Option β} (R : Int32 → Prop) (hx : wp x R) (hk : ∀ r, R r → wp (k r) Q) : wp (cp x k) Q := by
  obtain ⟨r, e, h⟩ := hx
  unfold cp; rw [e]; exact hk r h
theorem wp_cx {x : Option (Nat × Int32 × Mem)} {k : Int32 → Mem → Option (Nat × Int32 × Mem)} {Q : Nat × Int32 × Mem → Prop} (R : Nat × Int32 × Mem → Prop) (hx : wp x R) (h0 : ∀ r M, R (0, r, M) → wp (k r M) Q) (h1 : ∀ e r M, R (e + 1, r, M) → Q (e + 1, r, M)) : wp (cx x k) Q := by
  obtain ⟨⟨e, r, M⟩, he, h⟩ := hx
  unfold cx; rw [he]
  cases e with
  | zero => exact h0 r M h
  | succ e => exact wp_some (h1 e r M h)
theorem wp_br {P : Prop} [Decidable P] {a b : Option β} (h1 : P → wp a Q) (h2 : ¬ P → wp b Q) : wp (br P a b) Q := by
  unfold br
  by_cases h : P
  · rw [if_pos h]; exact h1 h
  · rw [if_neg h]; exact h2 h
theorem wp_brt {P : Prop} [Decidable P] {a b : Option β} (h : P) (h1 : wp a Q) : wp (br P a b) Q := by
  unfold br; rw [if_pos h]; exact h1
theorem wp_brf {P : Prop} [Decidable P] {a b : Option β} (h : ¬ P) (h1 : wp b Q) : wp (br P a b) Q := by
  unfold br; rw [if_neg h]; exact h1
end WPC
theorem c0_s {β : Type} {r : Int32} {M : Mem} {k : Int32 → Mem → Option β} : c0 (some (r, M)) k = k r M := rfl
theorem cp_s {β : Type} {r : Int32} {k : Int32 → Option β} : cp (some r) k = k r := rfl
theorem cx_s {r : Int32} {M : Mem} {k : Int32 → Mem → Option (Nat × Int32 × Mem)} : cx (some (0, r, M)) k = k r M := rfl
theorem cx_t {e : Nat} {r : Int32} {M : Mem} {k : Int32 → Mem → Option (Nat × Int32 × Mem)} : cx (some (e + 1, r, M)) k = some (e + 1, r, M) := rfl
theorem bR_t {β : Type} {P : Prop} [Decidable P] {a b : Option β} (h : P) : br P a b = a := if_pos h
theorem bR_f {β : Type} {P : Prop} [Decidable P] {a b : Option β} (h : ¬ P) : br P a b = b := if_neg h
theorem lT_s {α : Type} {β : Type} {e : α} {k : α → Option β} : lt e k = k e := rfl
theorem jn_s {κ : Type} {β : Type} {K : κ} {b : κ → Option β} : jn K b = b K := rfl
theorem gd_t {β : Type} {P : Prop} [Decidable P] {k : Option β} (h : P) : gd P k = k := if_pos h
theorem gK_t {β : Type} {y : Lay} {r : Nat} {c : Nat × Nat} {k : Option β} (h : kd y r = c) : gK y r c k = k := if_pos h
theorem gN_t {β : Type} {r : Nat} {k : Option β} (h : ¬ r = 0) : gN r k = k := if_neg h
theorem gN_s {β : Type} {r : Nat} {k : Option β} : gN (r + 1) k = k := if_neg (Nat.succ_ne_zero r)
theorem gT_t {β : Type} {y : Lay} {r t : Nat} {k : Option β} (h : (kd y r).1 = t) : gT y r t k = k := if_pos h
theorem gA_t {β : Type} {y : Lay} {r t n : Nat} {i : Int32} {k : Option β} (h : kd y r = (t, n)) (hi : ¬ (i < 0 ∨ n ≤ i.toNatClampNeg)) : gA y r t i k = k := by
  unfold gA; rw [h]; exact if_pos ⟨rfl, hi⟩
theorem gC_t {β : Type} {y : Lay} {a b na nb : Nat} {sp dp n : Int32} {k : Option β} (ha : kd y a = (1, na)) (hb : kd y b = (1, nb)) (h : (¬ sp < 0 ∧ ¬ dp < 0 ∧ ¬ n < 0) ∧ sp.toNatClampNeg + n.toNatClampNeg ≤ na ∧ dp.toNatClampNeg + n.toNatClampNeg ≤ nb) : gC y a b sp dp n k = k := by
  unfold gC; rw [ha, hb]; exact if_pos ⟨⟨rfl, rfl⟩, h⟩
/-! Int32 by its number -/
theorem i_lt {a b : Int32} : a < b ↔ a.toInt < b.toInt := Int32.lt_iff_toInt_lt
theorem i_le {a b : Int32} : a ≤ b ↔ a.toInt ≤ b.toInt := Int32.le_iff_toInt_le
theorem i_eq {a b : Int32} : a = b ↔ a.toInt = b.toInt := Int32.toInt_inj.symm
theorem i_nat (a : Int32) : a.toNatClampNeg = a.toInt.toNat := rfl
theorem i_bd (a : Int32) : -2147483648 ≤ a.toInt ∧ a.toInt < 2147483648 := ⟨Int32.le_toInt a, Int32.toInt_lt a⟩
theorem i_add {a b : Int32} (h1 : -2147483648 ≤ a.toInt + b.toInt) (h2 : a.toInt + b.toInt < 2147483648) : (a + b).toInt = a.toInt + b.toInt := by
  rw [Int32.toInt_add]; exact Int.bmod_eq_of_le (by omega) (by omega)
theorem i_sub {a b : Int32} (h1 : -2147483648 ≤ a.toInt - b.toInt) (h2 : a.toInt - b.toInt < 2147483648) : (a - b).toInt = a.toInt - b.toInt := by
  rw [Int32.toInt_sub]; exact Int.bmod_eq_of_le (by omega) (by omega)
theorem i_mul {a b : Int32} (h1 : -2147483648 ≤ a.toInt * b.toInt) (h2 : a.toInt * b.toInt < 2147483648) : (a * b).toInt = a.toInt * b.toInt := by
  rw [Int32.toInt_mul]; exact Int.bmod_eq_of_le (by omega) (by omega)
theorem i_addE (a b : Int32) : (a + b).toInt = (a.toInt + b.toInt + 2147483648) % 4294967296 - 2147483648 := by
  rw [Int32.toInt_add, Int.bmod_def]
  split <;> omega
theorem i_subE (a b : Int32) : (a - b).toInt = (a.toInt - b.toInt + 2147483648) % 4294967296 - 2147483648 := by
  rw [Int32.toInt_sub, Int.bmod_def]
  split <;> omega
abbrev n2 (i : Nat) : Int32 := Int32.ofNat i
theorem n2_int {i : Nat} (h : i < 2147483648) : (n2 i).toInt = i := Int32.toInt_ofNat_of_lt h
theorem n2_nat {i : Nat} (h : i < 2147483648) : (n2 i).toNatClampNeg = i := by
  rw [i_nat, n2_int h]; rfl
theorem n2_add (i j : Nat) : n2 i + n2 j = n2 (i + j) := (Int32.ofNat_add i j).symm
theorem n2_s (i : Nat) : n2 i + 1 = n2 (i + 1) := (Int32.ofNat_add i 1).symm
theorem n2_of {a : Int32} (h : 0 ≤ a.toInt) : a = n2 a.toInt.toNat := by
  have hb := i_bd a
  rw [i_eq, n2_int (by omega)]
  omega
theorem n2_inj {i j : Nat} (hi : i < 2147483648) (hj : j < 2147483648) : n2 i = n2 j ↔ i = j := by
  rw [i_eq, n2_int hi, n2_int hj]; omega
theorem n2_le {i j : Nat} (hi : i < 2147483648) (hj : j < 2147483648) : n2 i ≤ n2 j ↔ i ≤ j := by
  rw [i_le, n2_int hi, n2_int hj]; omega
theorem n2_lt {i j : Nat} (hi : i < 2147483648) (hj : j < 2147483648) : n2 i < n2 j ↔ i < j := by
  rw [i_lt, n2_int hi, n2_int hj]; omega
theorem n2_n0 {i : Nat} (h : i < 2147483648) : ¬ n2 i < 0 := by
  rw [i_lt, n2_int h]; show ¬ (i : Int) < 0; omega
theorem gA_n {β : Type} {y : Lay} {r n t : Nat} {i : Nat} {k : Option β} (h : kd y r = (t, n)) (hi : i < n) (hn : i < 2147483648) : gA y r t (n2 i) k = k := by
  refine gA_t h ?_
  rw [n2_nat hn]
  intro q
  cases q with
  | inl q => exact n2_n0 hn q
  | inr q => omega
/-- a literal bound -/
theorem nle_l {c : Int32} {m i : Nat} (hc : c = n2 m) (h : i < m) (hm : m < 2147483648) : ¬ c ≤ n2 i := by
  rw [hc, n2_le hm (by omega)]; omega
theorem le_l {c : Int32} {m i : Nat} (hc : c = n2 m) (h : m ≤ i) (hi : i < 2147483648) : c ≤ n2 i := by
  rw [hc, n2_le (by omega) hi]; omega
/-! rows -/
abbrev Row : Type := Nat → Int32
def up (f : Row) (k : Nat) (v : Int32) : Row := fun j => if j = k then v else f j
def sr (M : Mem) (p : Nat) (f : Row) : Mem := (fun q => if q = p then f else M.1 q, M.2)
theorem sr_1 (M : Mem) (p : Nat) (f : Row) (q : Nat) : (sr M p f).1 q = if q = p then f else M.1 q := rfl
theorem sr_2 (M : Mem) (p : Nat) (f : Row) : (sr M p f).2 = M.2 := rfl
theorem wI_sr (M : Mem) (p k : Nat) (v : Int32) : wI M p k v = sr M p (up (M.1 p) k v) := by
  unfold wI sr u2 up
  congr 1
  funext a b
  by_cases h1 : a = p
  · subst h1
    by_cases h2 : b = k <;> simp [h2]
  · simp [h1]
theorem cpI_sr (M : Mem) (a b sp dp n : Nat) : cpI M a b sp dp n = sr M b (va_cpy (M.1 a) (M.1 b) sp dp n) := rfl
theorem mem_ext {M N : Mem} (h1 : ∀ p, M.1 p = N.1 p) (h2 : M.2 = N.2) : M = N := by
  obtain ⟨a, b⟩ := M
  obtain ⟨c, d⟩ := N
  have : a = c := funext h1
  subst this
  have : b = d := h2
  subst this
  rfl
theorem sr_self (M : Mem) (p : Nat) : sr M p (M.1 p) = M := by
  refine mem_ext (fun q => ?_) rfl
  rw [sr_1]
  split
  · rename_i h; rw [h]
  · rfl
theorem sr_sr (M : Mem) (p : Nat) (f g : Row) : sr (sr M p f) p g = sr M p g := by
  refine mem_ext (fun q => ?_) rfl
  rw [sr_1, sr_1, sr_1]
  split <;> rfl
theorem up_k (f : Row) (k : Nat) (v : Int32) (j : Nat) : up f k v j = if j = k then v else f j := rfl
/-- all but the rows ps as before -/
def Eqx (ps : List Nat) (M N : Mem) : Prop := N.2 = M.2 ∧ ∀ p, p ∉ ps → N.1 p = M.1 p
theorem Eqx.refl (ps : List Nat) (M : Mem) : Eqx ps M M := ⟨rfl, fun _ _ => rfl⟩
theorem Eqx.trans {ps : List Nat} {M N K : Mem} (h1 : Eqx ps M N) (h2 : Eqx ps N K) : Eqx ps M K :=
  ⟨h2.1.trans h1.1, fun p hp => (h2.2 p hp).trans (h1.2 p hp)⟩
theorem Eqx.mono {ps qs : List Nat} {M N : Mem} (h : Eqx ps M N) (hs : ps.all (fun p => qs.contains p) = true) : Eqx qs M N := by
  refine ⟨h.1, fun p hp => h.2 p (fun hq => hp ?_)⟩
  have := List.all_eq_true.mp hs p hq
  exact List.contains_iff_mem.mp this
theorem Eqx.sr {ps : List Nat} {M N : Mem} (h : Eqx ps M N) {p : Nat} {f : Row} (hp : ps.contains p = true) : Eqx ps M (sr N p f) := by
  refine ⟨h.1, fun q hq => ?_⟩
  rw [sr_1, if_neg (fun e => hq (by rw [e]; exact List.contains_iff_mem.mp hp))]
  exact h.2 q hq
/-- a state after i steps -/
def it {S : Type} (f : Nat → S → S) (s : S) : Nat → S
  | 0 => s
  | n + 1 => f n (it f s n)
theorem it_0 {S : Type} (f : Nat → S → S) (s : S) : it f s 0 = s := rfl
theorem it_s {S : Type} (f : Nat → S → S) (s : S) (n : Nat) : it f s (n + 1) = f n (it f s n) := rfl
/-- rows written place by place -/
def rowTo (n : Nat) (g f : Row) : Row := fun k => if k < n then g k else f k
theorem rowTo_0 (g f : Row) : rowTo 0 g f = f := by funext k; exact if_neg (Nat.not_lt_zero k)
theorem rowTo_s (n : Nat) (g f : Row) : up (rowTo n g f) n (g n) = rowTo (n + 1) g f := by
  funext k
  unfold up rowTo
  by_cases h : k = n
  · subst h; rw [if_pos rfl, if_pos (by omega)]
  · rw [if_neg h]
    by_cases h2 : k < n
    · rw [if_pos h2, if_pos (by omega)]
    · rw [if_neg h2, if_neg (by omega)]
theorem rowTo_n (n : Nat) (g f : Row) : rowTo n g f n = f n := if_neg (Nat.lt_irrefl n)
/-! loops -/
section LOOPS
variable {β : Type} {Q : β → Prop}
theorem wp_fixm {κ : Type} {bot : κ} {F : κ → κ} {A : Type} (ap : κ → A → Option β) (I : A → Prop) (mu : A → Nat) (hs : ∀ f a, I a → (∀ b, I b → mu b < mu a → wp (ap f b) Q) → wp (ap (F f) a) Q) (n : Nat) : ∀ a, I a → mu a < n → wp (ap (fixN bot F n) a) Q := by
  induction n with
  | zero => intro a _ h; exact absurd h (Nat.not_lt_zero _)
  | succ n ih =>
    intro a ha hm
    exact hs _ a ha (fun b hb hlt => ih b hb (by omega))
theorem wp_fork {κ : Type} {bot : κ} {F : κ → κ} {S : Type} (ap : κ → Nat → S → Option β) (I : Nat → S → Prop) (N : Nat) (hN : N < FUEL) {i0 : Nat} {s0 : S} (hi0 : i0 ≤ N) (h0 : I i0 s0) (hs : ∀ f i s, i < N → I i s → (∀ s', I (i + 1) s' → wp (ap f (i + 1) s') Q) → wp (ap (F f) i s) Q) (he : ∀ f s, I N s → wp (ap (F f) N s) Q) : wp (ap (fixN bot F FUEL) i0 s0) Q := by
  refine wp_fixm (κ := κ) (bot := bot) (F := F) (A := Nat × S) (fun f a => ap f a.1 a.2) (fun a => a.1 ≤ N ∧ I a.1 a.2) (fun a => N - a.1) ?_ FUEL (i0, s0) ⟨hi0, h0⟩ (by show N - i0 < FUEL; omega)
  intro f a ha hb
  obtain ⟨i, s⟩ := a
  obtain ⟨h1, h2⟩ := ha
  by_cases h : i = N
  · subst h; exact he f s h2
  · exact hs f i s (Nat.lt_of_le_of_ne h1 h) h2 (fun s' hs' => hb (i + 1, s') ⟨by omega, hs'⟩ (by show N - (i + 1) < N - i; have : i < N := Nat.lt_of_le_of_ne h1 h; omega))
/-- for (i = a; i < N; i++), the counter first, then a state -/
theorem wp_for {S : Type} {bot : Int32 → S → Option β} {F : (Int32 → S → Option β) → Int32 → S → Option β} (N : Nat) (I : Nat → S → Prop) (hN : N < FUEL) {a : Int32} {i0 : Nat} {s0 : S} (ha : a = n2 i0) (hi0 : i0 ≤ N) (h0 : I i0 s0) (hs : ∀ f i s, i < N → I i s → (∀ s', I (i + 1) s' → wp (f (n2 (i + 1)) s') Q) → wp (F f (n2 i) s) Q) (he : ∀ f s, I N s → wp (F f (n2 N) s) Q) : wp (fixN bot F FUEL a s0) Q := by
  subst ha
  exact wp_fork (κ := Int32 → S → Option β) (fun f i s => f (n2 i) s) I N hN hi0 h0 hs he
theorem wp_for0 {bot : Int32 → Option β} {F : (Int32 → Option β) → Int32 → Option β} (N : Nat) (I : Nat → Prop) (hN : N < FUEL) {a : Int32} {i0 : Nat} (ha : a = n2 i0) (hi0 : i0 ≤ N) (h0 : I i0) (hs : ∀ f i, i < N → I i → (I (i + 1) → wp (f (n2 (i + 1))) Q) → wp (F f (n2 i)) Q) (he : ∀ f, I N → wp (F f (n2 N)) Q) : wp (fixN bot F FUEL a) Q := by
  subst ha
  exact wp_fork (κ := Int32 → Option β) (S := Unit) (fun f i _ => f (n2 i)) (fun i _ => I i) N hN (s0 := ()) hi0 h0 (fun f i _ h1 h2 h3 => hs f i h1 h2 (h3 ())) (fun f _ h => he f h)
/-- the counter second: a row of numbers ahead of it -/
theorem wp_for2 {A : Type} {bot : A → Int32 → Option β} {F : (A → Int32 → Option β) → A → Int32 → Option β} (N : Nat) (I : Nat → A → Prop) (hN : N < FUEL) {a : Int32} {i0 : Nat} {s0 : A} (ha : a = n2 i0) (hi0 : i0 ≤ N) (h0 : I i0 s0) (hs : ∀ f i s, i < N → I i s → (∀ s', I (i + 1) s' → wp (f s' (n2 (i + 1))) Q) → wp (F f s (n2 i)) Q) (he : ∀ f s, I N s → wp (F f s (n2 N)) Q) : wp (fixN bot F FUEL s0 a) Q := by
  subst ha
  exact wp_fork (κ := A → Int32 → Option β) (fun f i s => f s (n2 i)) I N hN hi0 h0 hs he
theorem wp_for2M {A S : Type} {bot : A → Int32 → S → Option β} {F : (A → Int32 → S → Option β) → A → Int32 → S → Option β} (N : Nat) (I : Nat → A → S → Prop) (hN : N < FUEL) {a : Int32} {i0 : Nat} {c0 : A} {s0 : S} (ha : a = n2 i0) (hi0 : i0 ≤ N) (h0 : I i0 c0 s0) (hs : ∀ f i c s, i < N → I i c s → (∀ c' s', I (i + 1) c' s' → wp (f c' (n2 (i + 1)) s') Q) → wp (F f c (n2 i) s) Q) (he : ∀ f c s, I N c s → wp (F f c (n2 N) s) Q) : wp (fixN bot F FUEL c0 a s0) Q := by
  subst ha
  exact wp_fork (κ := A → Int32 → S → Option β) (S := A × S) (fun f i s => f s.1 (n2 i) s.2) (fun i s => I i s.1 s.2) N hN (s0 := (c0, s0)) hi0 h0 (fun f i s h1 h2 h3 => hs f i s.1 s.2 h1 h2 (fun c' s' h => h3 (c', s') h)) (fun f s h => he f s.1 s.2 h)
theorem wp_for3 {A B : Type} {bot : A → B → Int32 → Option β} {F : (A → B → Int32 → Option β) → A → B → Int32 → Option β} (N : Nat) (I : Nat → A → B → Prop) (hN : N < FUEL) {a : Int32} {i0 : Nat} {c0 : A} {s0 : B} (ha : a = n2 i0) (hi0 : i0 ≤ N) (h0 : I i0 c0 s0) (hs : ∀ f i c s, i < N → I i c s → (∀ c' s', I (i + 1) c' s' → wp (f c' s' (n2 (i + 1))) Q) → wp (F f c s (n2 i)) Q) (he : ∀ f c s, I N c s → wp (F f c s (n2 N)) Q) : wp (fixN bot F FUEL c0 s0 a) Q := by
  subst ha
  exact wp_fork (κ := A → B → Int32 → Option β) (S := A × B) (fun f i s => f s.1 s.2 (n2 i)) (fun i s => I i s.1 s.2) N hN (s0 := (c0, s0)) hi0 h0 (fun f i s h1 h2 h3 => hs f i s.1 s.2 h1 h2 (fun c' s' h => h3 (c', s') h)) (fun f s h => he f s.1 s.2 h)
theorem wp_for3M {A B S : Type} {bot : A → B → Int32 → S → Option β} {F : (A → B → Int32 → S → Option β) → A → B → Int32 → S → Option β} (N : Nat) (I : Nat → A → B → S → Prop) (hN : N < FUEL) {a : Int32} {i0 : Nat} {c0 : A} {d0 : B} {s0 : S} (ha : a = n2 i0) (hi0 : i0 ≤ N) (h0 : I i0 c0 d0 s0) (hs : ∀ f i c d s, i < N → I i c d s → (∀ c' d' s', I (i + 1) c' d' s' → wp (f c' d' (n2 (i + 1)) s') Q) → wp (F f c d (n2 i) s) Q) (he : ∀ f c d s, I N c d s → wp (F f c d (n2 N) s) Q) : wp (fixN bot F FUEL c0 d0 a s0) Q := by
  subst ha
  exact wp_fork (κ := A → B → Int32 → S → Option β) (S := A × B × S) (fun f i s => f s.1 s.2.1 (n2 i) s.2.2) (fun i s => I i s.1 s.2.1 s.2.2) N hN (s0 := (c0, d0, s0)) hi0 h0 (fun f i s h1 h2 h3 => hs f i s.1 s.2.1 s.2.2 h1 h2 (fun c' d' s' h => h3 (c', d', s') h)) (fun f s h => he f s.1 s.2.1 s.2.2 h)
end LOOPS
