/-! ===== my own judgement over the kit's: memory by positions ===== -/
abbrev Mem : Type := (Nat → Nat → Int32) × (Nat → Nat → Int64) × (Nat → Nat → Nat)
abbrev Lay : Type := (Nat → Nat × Nat) × (Nat → Nat → Nat) × Nat
def kd (y : Lay) (r : Nat) : Nat × Nat := if 1 ≤ r ∧ r ≤ y.2.2 then y.1 r else (9, 0)
def u2 {α : Type} (f : Nat → Nat → α) (p k : Nat) (v : α) : Nat → Nat → α := fun a b => if a = p ∧ b = k then v else f a b
def wI (M : Mem) (p k : Nat) (v : Int32) : Mem := (u2 M.1 p k v, M.2)
def wL (M : Mem) (p k : Nat) (v : Int64) : Mem := (M.1, u2 M.2.1 p k v, M.2.2)
def wR (M : Mem) (p k : Nat) (v : Nat) : Mem := (M.1, M.2.1, u2 M.2.2 p k v)
def cpI (M : Mem) (a b sp dp n : Nat) : Mem := (fun q => if q = b then va_cpy (M.1 a) (M.1 b) sp dp n else M.1 q, M.2)
-- functional combinators
def gd {β : Type} (P : Prop) [Decidable P] (k : Option β) : Option β := if P then k else none
def gK {β : Type} (y : Lay) (r : Nat) (c : Nat × Nat) (k : Option β) : Option β := if kd y r = c then k else none
def gA {β : Type} (y : Lay) (r t : Nat) (i : Int32) (k : Option β) : Option β := if (kd y r).1 = t ∧ ¬ (i < 0 ∨ (kd y r).2 ≤ i.toNatClampNeg) then k else none
def gT {β : Type} (y : Lay) (r t : Nat) (k : Option β) : Option β := if (kd y r).1 = t then k else none
def gN {β : Type} (r : Nat) (k : Option β) : Option β := if r = 0 then none else k
def br {β : Type} (P : Prop) [Decidable P] (a b : Option β) : Option β := if P then a else b
def lt {α : Type} {β : Type} (e : α) (k : α → Option β) : Option β := k e
def jn {κ : Type} {β : Type} (K : κ) (b : κ → Option β) : Option β := b K
def fixN {κ : Type} (bot : κ) (F : κ → κ) : Nat → κ
  | 0 => bot
  | n + 1 => F (fixN bot F n)
def c0 {β : Type} (x : Option (Int32 × Mem)) (k : Int32 → Mem → Option β) : Option β := match x with
  | some (r, M) => k r M
  | none => none
def c1 {α : Type} (x : Option (Nat × Int32 × Mem)) (k : Int32 → Mem → Option (Nat × Int32 × Mem)) (_ : α) : Option (Nat × Int32 × Mem) := match x with
  | some (0, r, M) => k r M
  | some (e + 1, r, M) => some (e + 1, r, M)
  | none => none
def ci {β : Type} (x : Option (Lay × Mem)) (k : Lay → Mem → Option β) : Option β := match x with
  | some (y, M) => k y M
  | none => none
theorem gd_e {β : Type} {P : Prop} [Decidable P] {k : Option β} {o : β} (h : gd P k = some o) : P ∧ k = some o := by
  unfold gd at h; split at h
  · exact ⟨by assumption, h⟩
  · cases h
theorem gK_e {β : Type} {y : Lay} {r : Nat} {c : Nat × Nat} {k : Option β} {o : β} (h : gK y r c k = some o) : kd y r = c ∧ k = some o := by
  unfold gK at h; split at h
  · exact ⟨by assumption, h⟩
  · cases h
theorem gA_e {β : Type} {y : Lay} {r t : Nat} {i : Int32} {k : Option β} {o : β} (h : gA y r t i k = some o) : ((kd y r).1 = t ∧ ¬ (i < 0 ∨ (kd y r).2 ≤ i.toNatClampNeg)) ∧ k = some o := by
  unfold gA at h; split at h
  · exact ⟨by assumption, h⟩
  · cases h
theorem gT_e {β : Type} {y : Lay} {r t : Nat} {k : Option β} {o : β} (h : gT y r t k = some o) : (kd y r).1 = t ∧ k = some o := by
  unfold gT at h; split at h
  · exact ⟨by assumption, h⟩
  · cases h
theorem gN_e {β : Type} {r : Nat} {k : Option β} {o : β} (h : gN r k = some o) : ¬ r = 0 ∧ k = some o := by
  unfold gN at h; split at h
  · cases h
  · exact ⟨by assumption, h⟩
theorem br_e {β : Type} {P : Prop} [Decidable P] {a b : Option β} {o : β} (h : br P a b = some o) : (P → a = some o) ∧ (¬ P → b = some o) := by
  unfold br at h; split at h
  · exact ⟨fun _ => h, fun n => absurd (by assumption) n⟩
  · exact ⟨fun n => absurd n (by assumption), fun _ => h⟩
theorem lt_e {α β : Type} {e v : α} {k : α → Option β} {o : β} (ev : v = e) (h : lt e k = some o) : k v = some o := by subst ev; exact h
theorem jn_e {κ β : Type} {K : κ} {b : κ → Option β} {o : β} (h : jn K b = some o) : ∃ j : κ, j = K ∧ b j = some o := ⟨K, rfl, h⟩
theorem c0_e {β : Type} {x : Option (Int32 × Mem)} {k : Int32 → Mem → Option β} {o : β} (h : c0 x k = some o) : ∃ r M, x = some (r, M) ∧ k r M = some o := by
  unfold c0 at h; split at h
  · exact ⟨_, _, rfl, h⟩
  · cases h
theorem ci_e {β : Type} {x : Option (Lay × Mem)} {k : Lay → Mem → Option β} {o : β} (h : ci x k = some o) : ∃ y M, x = some (y, M) ∧ k y M = some o := by
  unfold ci at h; split at h
  · exact ⟨_, _, rfl, h⟩
  · cases h
theorem c1_e {α : Type} {x : Option (Nat × Int32 × Mem)} {k : Int32 → Mem → Option (Nat × Int32 × Mem)} {u : α} {o : Nat × Int32 × Mem} (h : c1 x k u = some o) : (∃ r M, x = some (0, r, M) ∧ k r M = some o) ∨ (x = some o ∧ o.1 ≠ 0) := by
  unfold c1 at h; split at h
  · exact Or.inl ⟨_, _, rfl, h⟩
  · cases h; exact Or.inr ⟨rfl, Nat.succ_ne_zero _⟩
  · cases h
-- the world of a memory
abbrev GX : Type := State × va_G × (Nat → ClassId) × (Nat → Nat) × Nat × Nat × (Nat → Int32)
def bs (g : GX) : Nat := g.1.heap.size
def ad (g : GX) (p : Nat) : Nat := if p < 1000 then bs g + (p - 1) else if p = 1999 then g.2.2.2.2.1 else g.2.2.2.1 (p - 1000)
def va (g : GX) : Value → Value
  | .ref p => .ref (ad g p)
  | v => v
def rfv (r : Nat) : Value := if r = 0 then .null else .ref r
def ado (g : GX) (r : Nat) : Option Nat := if r = 0 then none else some (ad g r)
def ftag (ci k : Nat) : Nat := (FTT.getD ci []).getD k 0
def nfl (ci : Nat) : Nat := (FTT.getD ci []).length
def slot (g : GX) (y : Lay) (M : Mem) (p ci k : Nat) : Value := if ftag ci k = 0 then .int (M.1 p k) else if ftag ci k = 1 then va g (rfv (y.2.1 p k)) else va g (rfv (M.2.2 p k))
def entK (g : GX) (y : Lay) (M : Mem) (p : Nat) (c : Nat × Nat) : va_E :=
  if c.1 = 0 then .inr (c.2, (List.range (nfl c.2)).map (slot g y M p c.2))
  else if c.1 = 1 then .inl (g.2.2.1 0, c.2, .inl (M.1 p))
  else if c.1 = 2 then .inl (g.2.2.1 1, c.2, .inl (M.1 p))
  else if c.1 = 3 then .inl (g.2.2.1 2, c.2, .inr (.inl (M.2.1 p)))
  else .inl (g.2.2.1 3, c.2, .inr (.inr (.inr (.inr (fun j => ado g (y.2.1 p j))))))
def wld (g : GX) (y : Lay) (M : Mem) : va_W := (List.range y.2.2).map (fun i => (bs g + i, entK g y M (i + 1) (y.1 (i + 1))))
def tysG (g : GX) : List (ClassId × FieldType) := [(g.2.2.1 0, .int), (g.2.2.1 1, .byte), (g.2.2.1 2, .long), (g.2.2.1 3, .object "java/lang/String")]
def RelH (g : GX) (y : Lay) (M : Mem) (H : Heap) : Prop := va_P g.2.1 vwCl (wld g y M) H ∧ y.2.2 < 1000
def Ag (g : GX) : Nat → Prop := fun q => bs g ≤ q
theorem wld_get {g : GX} {y : Lay} {M : Mem} {r : Nat} {c : Nat × Nat} (h : kd y r = c) (hc : c.1 ≠ 9) (hn : y.2.2 < 1000) : (wld g y M)[r - 1]? = some (ad g r, entK g y M r c) := by
  unfold kd at h
  split at h
  · rename_i hr
    obtain ⟨h1, h2⟩ := hr
    have e : r - 1 + 1 = r := by omega
    unfold wld ad
    rw [List.getElem?_map, List.getElem?_range (by omega), if_pos (by omega)]
    simp only [Option.map_some, e, h]
  · exact absurd (by rw [← h]) hc
theorem wld_D {g : GX} {y : Lay} {M : Mem} : va_D (Ag g) (wld g y M) := by
  have key : ∀ (k : Nat) (q : Nat × va_E), (wld g y M)[k]? = some q → q.1 = bs g + k := by
    intro k q h
    unfold wld at h
    rw [List.getElem?_map] at h
    cases hk : (List.range y.2.2)[k]? with
    | none => rw [hk] at h; cases h
    | some i =>
      rw [hk] at h
      cases h
      have := List.getElem?_eq_some_iff.mp hk
      obtain ⟨h1, h2⟩ := this
      simp at h2
      show bs g + i = bs g + k
      omega
  refine ⟨fun i j p q h1 h2 e => ?_, fun k q h => ?_⟩
  · rw [key i p h1, key j q h2] at e; omega
  · rw [key k q h]; show bs g ≤ bs g + k; omega
theorem wld_len {g : GX} {y : Lay} {M : Mem} : (wld g y M).length = y.2.2 := by simp [wld]
/-- a change of one cell -/
theorem wld_set {g : GX} {y : Lay} {M M' : Mem} {r : Nat} {c : Nat × Nat} {e' : va_E} (h : kd y r = c) (hc : c.1 ≠ 9) (hn : y.2.2 < 1000) (he : entK g y M' r c = e') (ho : ∀ p, p ≠ r → ∀ c', entK g y M' p c' = entK g y M p c') : (wld g y M).set (r - 1) (ad g r, e') = wld g y M' := by
  have hr : 1 ≤ r ∧ r ≤ y.2.2 ∧ y.1 r = c := by
    unfold kd at h
    split at h
    · rename_i hr; exact ⟨hr.1, hr.2, h⟩
    · exact absurd (by rw [← h]) hc
  obtain ⟨h1, h2, h3⟩ := hr
  apply List.ext_getElem?
  intro k
  rw [List.getElem?_set]
  by_cases hk : r - 1 = k
  · subst hk
    rw [if_pos rfl, if_pos (by rw [wld_len]; omega), wld_get (M := M') h hc hn, he]
  · rw [if_neg hk]
    unfold wld
    rw [List.getElem?_map, List.getElem?_map]
    cases hx : (List.range y.2.2)[k]? with
    | none => rfl
    | some i =>
      have hi : i = k := by
        obtain ⟨h1, h2⟩ := List.getElem?_eq_some_iff.mp hx
        simp at h2; omega
      simp only [Option.map_some]
      rw [ho (i + 1) (by omega)]
-- locals
def lvl (g : GX) : Nat → List (Option Value) → List (Nat × Value)
  | _, [] => []
  | k, none :: r => lvl g (k + 1) r
  | k, some v :: r => (k, va g v) :: lvl g (k + 1) r
theorem mem_lvl {g : GX} {q : Nat × Value} : ∀ {L : List (Option Value)} {b : Nat}, q ∈ lvl g b L ↔ ∃ j v, q = (b + j, va g v) ∧ L[j]? = some (some v) := by
  intro L
  induction L with
  | nil => intro b; simp [lvl]
  | cons a L ih =>
    intro b
    cases a with
    | none =>
      simp only [lvl]
      rw [ih]
      constructor
      · rintro ⟨j, v, h1, h2⟩
        exact ⟨j + 1, v, by rw [h1]; congr 1; omega, by simpa using h2⟩
      · rintro ⟨j, v, h1, h2⟩
        cases j with
        | zero => simp at h2
        | succ j => exact ⟨j, v, by rw [h1]; congr 1; omega, by simpa using h2⟩
    | some w =>
      simp only [lvl, List.mem_cons]
      rw [ih]
      constructor
      · rintro (h | ⟨j, v, h1, h2⟩)
        · exact ⟨0, w, by rw [h]; rfl, by simp⟩
        · exact ⟨j + 1, v, by rw [h1]; congr 1; omega, by simpa using h2⟩
      · rintro ⟨j, v, h1, h2⟩
        cases j with
        | zero => left; simp at h2; rw [h1, h2]; rfl
        | succ j => right; exact ⟨j, v, by rw [h1]; congr 1; omega, by simpa using h2⟩
def LV (g : GX) (nL : Nat) (ls : Array Slot) (L : List (Option Value)) : Prop := lv_has ls nL (lvl g 0 L) ∧ L.length = nL
theorem LV.get {g : GX} {nL : Nat} {ls : Array Slot} {L : List (Option Value)} (h : LV g nL ls L) {i : Nat} {v : Value} (hi : L[i]? = some (some v)) : ls[i]? = some (.val (va g v)) := by
  have := h.1.2.2 (i, va g v) (mem_lvl.mpr ⟨i, v, by simp, hi⟩)
  exact this
/-- no long stands just ahead of place i -/
def nlo (L : List (Option Value)) (i : Nat) : Bool := match i with
  | 0 => true
  | j + 1 => match L[j]? with
    | some (some (.long _)) => false
    | some (some (.double _)) => false
    | _ => true
theorem va_cat {g : GX} (v : Value) : (va g v).category = v.category := by cases v <;> rfl
theorem LV.set {g : GX} {nL : Nat} {ls ls' : Array Slot} {L : List (Option Value)} {i : Nat} {v : Value} (h : LV g nL ls L) (hn : nlo L i = true) (h' : lv_has ls' nL ((i, va g v) :: (lvl g 0 L).filter (fun q => !(q.1 == i) && !(q.1 + 1 == i && q.2.category == 2)))) : LV g nL ls' (L.set i (some v)) := by
  refine ⟨⟨h'.1, h'.2.1, fun q hq => ?_⟩, by rw [List.length_set]; exact h.2⟩
  apply h'.2.2
  obtain ⟨j, w, e1, e2⟩ := mem_lvl.mp hq
  rw [List.getElem?_set] at e2
  by_cases hj : i = j
  · subst hj
    rw [if_pos rfl] at e2
    split at e2
    · cases e2; rw [e1]; simp
    · cases e2
  · rw [if_neg hj] at e2
    refine List.mem_cons_of_mem _ (List.mem_filter.mpr ⟨mem_lvl.mpr ⟨j, w, e1, e2⟩, ?_⟩)
    rw [e1]
    simp only [Nat.zero_add, va_cat]
    have hne : (j == i) = false := by simpa using (fun e => hj e.symm)
    rw [hne]
    cases hb : (j + 1 == i && w.category == 2) with
    | false => rfl
    | true =>
      simp only [Bool.and_eq_true, beq_iff_eq] at hb
      obtain ⟨hb1, hb2⟩ := hb
      subst hb1
      unfold nlo at hn
      simp only [e2] at hn
      cases w <;> simp [Value.category] at hb2 hn
theorem LV.set2 {g : GX} {nL : Nat} {ls ls' : Array Slot} {L : List (Option Value)} {i : Nat} {v : Value} (h : LV g nL ls L) (hn : nlo L i = true) (h' : lv_has ls' nL ((i, va g v) :: (lvl g 0 L).filter (fun q => !(q.1 == i) && (!(q.1 == i + 1) && !(q.1 + 1 == i && q.2.category == 2))))) : LV g nL ls' ((L.set (i + 1) none).set i (some v)) := by
  refine ⟨⟨h'.1, h'.2.1, fun q hq => ?_⟩, by rw [List.length_set, List.length_set]; exact h.2⟩
  apply h'.2.2
  obtain ⟨j, w, e1, e2⟩ := mem_lvl.mp hq
  rw [List.getElem?_set, List.getElem?_set] at e2
  by_cases hj : i = j
  · subst hj
    rw [if_pos rfl] at e2
    split at e2
    · cases e2; rw [e1]; simp
    · cases e2
  · rw [if_neg hj] at e2
    by_cases hj2 : i + 1 = j
    · rw [if_pos hj2] at e2
      split at e2 <;> cases e2
    · rw [if_neg hj2] at e2
      refine List.mem_cons_of_mem _ (List.mem_filter.mpr ⟨mem_lvl.mpr ⟨j, w, e1, e2⟩, ?_⟩)
      rw [e1]
      simp only [Nat.zero_add, va_cat]
      have hne : (j == i) = false := by simpa using (fun e => hj e.symm)
      have hne2 : (j == i + 1) = false := by simpa using (fun e => hj2 e.symm)
      rw [hne, hne2]
      cases hb : (j + 1 == i && w.category == 2) with
      | false => rfl
      | true =>
        simp only [Bool.and_eq_true, beq_iff_eq] at hb
        obtain ⟨hb1, hb2⟩ := hb
        subst hb1
        unfold nlo at hn
        simp only [e2] at hn
        cases w <;> simp [Value.category] at hb2 hn
/-- fewer known locals -/
def lle : List (Option Value) → List (Option Value) → Prop
  | [], [] => True
  | none :: a, _ :: b => lle a b
  | some v :: a, some w :: b => v = w ∧ lle a b
  | _, _ => False
theorem lle_get : ∀ {A B : List (Option Value)}, lle A B → A.length = B.length ∧ ∀ (j : Nat) (v : Value), A[j]? = some (some v) → B[j]? = some (some v) := by
  intro A
  induction A with
  | nil => intro B h; cases B with
    | nil => exact ⟨rfl, fun j v h => h⟩
    | cons b B => exact h.elim
  | cons a A ih => intro B h; cases B with
    | nil => cases a <;> exact h.elim
    | cons b B =>
      cases a with
      | none =>
        have h' : lle A B := h
        obtain ⟨h1, h2⟩ := ih h'
        refine ⟨by simp [h1], fun j v hj => ?_⟩
        cases j with
        | zero => simp at hj
        | succ j => simpa using h2 j v (by simpa using hj)
      | some v0 =>
        cases b with
        | none => exact h.elim
        | some w0 =>
          have h' : v0 = w0 ∧ lle A B := h
          obtain ⟨h1, h2⟩ := ih h'.2
          refine ⟨by simp [h1], fun j v hj => ?_⟩
          cases j with
          | zero => rw [← h'.1]; exact hj
          | succ j => simpa using h2 j v (by simpa using hj)
theorem LV.less {g : GX} {nL : Nat} {ls : Array Slot} {A B : List (Option Value)} (h : LV g nL ls B) (hl : lle A B) : LV g nL ls A := by
  obtain ⟨h1, h2⟩ := lle_get hl
  refine ⟨⟨h.1.1, h.1.2.1, fun q hq => ?_⟩, h1.trans h.2⟩
  obtain ⟨j, w, e1, e2⟩ := mem_lvl.mp hq
  exact h.1.2.2 q (mem_lvl.mpr ⟨j, w, e1, h2 j w e2⟩)
