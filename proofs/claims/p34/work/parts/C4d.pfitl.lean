/-! ===== the model's coast leaves the longs as they are ===== -/
abbrev LG : Type := Nat → Nat → Int64
def L1 (w : LG) (o : Int32 × Mem) : Prop := o.2.2.1 = w
section PCL
variable {β : Type} {Q : β → Prop} {w : LG}
theorem pl_gT {y : Lay} {r t : Nat} {k : Option β} (h : pc k Q) : pc (gT y r t k) Q := by
  intro o e
  unfold gT at e
  split at e
  · exact h o e
  · cases e
theorem pl_gC {y : Lay} {a b : Nat} {sp dp n : Int32} {k : Option β} (h : pc k Q) : pc (gC y a b sp dp n k) Q := by
  intro o e
  unfold gC at e
  split at e
  · exact h o e
  · cases e
theorem pl_c0 {x : Option (Int32 × Mem)} {k : Int32 → Mem → Option β} (hx : pc x (L1 w)) (hk : ∀ r M, M.2.1 = w → pc (k r M) Q) : pc (c0 x k) Q := pc_c0 (L1 w) hx (fun r M h => hk r M h)
theorem pl_wI {M : Mem} {p k : Nat} {x : Int32} {f : Mem → Option β} (h : M.2.1 = w) (hk : ∀ N, N.2.1 = w → pc (f N) Q) : pc (lt (wI M p k x) f) Q := hk _ h
theorem pl_cI {M : Mem} {a b sp dp n : Nat} {f : Mem → Option β} (h : M.2.1 = w) (hk : ∀ N, N.2.1 = w → pc (f N) Q) : pc (lt (cpI M a b sp dp n) f) Q := hk _ h
theorem pl_wR {M : Mem} {p k v : Nat} {f : Mem → Option β} (h : M.2.1 = w) (hk : ∀ N, N.2.1 = w → pc (f N) Q) : pc (lt (wR M p k v) f) Q := hk _ h
theorem pl_jM {K : Mem → Option β} {b : (Mem → Option β) → Option β} (hK : ∀ N, N.2.1 = w → pc (K N) Q) (hb : ∀ j, (∀ N, N.2.1 = w → pc (j N) Q) → pc (b j) Q) : pc (jn K b) Q := hb K hK
theorem pl_jI {K : Int32 → Option β} {b : (Int32 → Option β) → Option β} (hK : ∀ x, pc (K x) Q) (hb : ∀ j, (∀ x, pc (j x) Q) → pc (b j) Q) : pc (jn K b) Q := hb K hK
theorem pl_jU {K : Unit → Option β} {b : (Unit → Option β) → Option β} (hK : ∀ x, pc (K x) Q) (hb : ∀ j, (∀ x, pc (j x) Q) → pc (b j) Q) : pc (jn K b) Q := hb K hK
theorem pl_jN {K : Nat → Option β} {b : (Nat → Option β) → Option β} (hK : ∀ x, pc (K x) Q) (hb : ∀ j, (∀ x, pc (j x) Q) → pc (b j) Q) : pc (jn K b) Q := hb K hK
theorem pl_jIM {K : Int32 → Mem → Option β} {b : (Int32 → Mem → Option β) → Option β} (hK : ∀ x N, N.2.1 = w → pc (K x N) Q) (hb : ∀ j, (∀ x N, N.2.1 = w → pc (j x N) Q) → pc (b j) Q) : pc (jn K b) Q := hb K hK
theorem pl_some {r : Int32} {M : Mem} (h : M.2.1 = w) : pc (some (r, M)) (L1 w) := pc_some h
theorem pl_fM {bot : Mem → Option β} {F : (Mem → Option β) → Mem → Option β} (h0 : ∀ N, pc (bot N) Q) (hs : ∀ s, (∀ N, N.2.1 = w → pc (s N) Q) → ∀ N, N.2.1 = w → pc (F s N) Q) {n : Nat} {M : Mem} (h : M.2.1 = w) : pc (fixN bot F n M) Q := by
  induction n generalizing M with
  | zero => exact h0 M
  | succ n ih => exact hs _ (fun N hN => ih hN) M h
theorem pl_f1 {bot : Int32 → Mem → Option β} {F : (Int32 → Mem → Option β) → Int32 → Mem → Option β} (h0 : ∀ a N, pc (bot a N) Q) (hs : ∀ s, (∀ a N, N.2.1 = w → pc (s a N) Q) → ∀ a N, N.2.1 = w → pc (F s a N) Q) {n : Nat} {a : Int32} {M : Mem} (h : M.2.1 = w) : pc (fixN bot F n a M) Q := by
  induction n generalizing a M with
  | zero => exact h0 a M
  | succ n ih => exact hs _ (fun a N hN => ih hN) a M h
theorem pl_f2 {bot : Int32 → Int32 → Mem → Option β} {F : (Int32 → Int32 → Mem → Option β) → Int32 → Int32 → Mem → Option β} (h0 : ∀ a b N, pc (bot a b N) Q) (hs : ∀ s, (∀ a b N, N.2.1 = w → pc (s a b N) Q) → ∀ a b N, N.2.1 = w → pc (F s a b N) Q) {n : Nat} {a b : Int32} {M : Mem} (h : M.2.1 = w) : pc (fixN bot F n a b M) Q := by
  induction n generalizing a b M with
  | zero => exact h0 a b M
  | succ n ih => exact hs _ (fun a b N hN => ih hN) a b M h
theorem pl_n1 {bot : Int32 → Option β} {F : (Int32 → Option β) → Int32 → Option β} (h0 : ∀ a, pc (bot a) Q) (hs : ∀ s, (∀ a, pc (s a) Q) → ∀ a, pc (F s a) Q) {n : Nat} {a : Int32} : pc (fixN bot F n a) Q := by
  induction n generalizing a with
  | zero => exact h0 a
  | succ n ih => exact hs _ (fun a => ih) a
theorem pl_n2 {bot : Int32 → Int32 → Option β} {F : (Int32 → Int32 → Option β) → Int32 → Int32 → Option β} (h0 : ∀ a b, pc (bot a b) Q) (hs : ∀ s, (∀ a b, pc (s a b) Q) → ∀ a b, pc (F s a b) Q) {n : Nat} {a b : Int32} : pc (fixN bot F n a b) Q := by
  induction n generalizing a b with
  | zero => exact h0 a b
  | succ n ih => exact hs _ (fun a b => ih) a b
theorem pl_n3 {bot : Int32 → Int32 → Int32 → Option β} {F : (Int32 → Int32 → Int32 → Option β) → Int32 → Int32 → Int32 → Option β} (h0 : ∀ a b c, pc (bot a b c) Q) (hs : ∀ s, (∀ a b c, pc (s a b c) Q) → ∀ a b c, pc (F s a b c) Q) {n : Nat} {a b c : Int32} : pc (fixN bot F n a b c) Q := by
  induction n generalizing a b c with
  | zero => exact h0 a b c
  | succ n ih => exact hs _ (fun a b c => ih) a b c
end PCL
theorem l_X8_copyFrom {w : LG} {y : Lay} {a0 : Nat} {a1 : Nat} {M : Mem} (h : M.2.1 = w) : pc (f_X8_copyFrom y a0 a1 M) (L1 w) := by
  unfold f_X8_copyFrom
  repeat' (first
    | with_reducible exact pc_none
    | with_reducible exact pl_some (by assumption)
    | with_reducible refine pc_gd (fun _ => ?_)
    | with_reducible refine pc_gK (fun _ => ?_)
    | with_reducible refine pc_gA (fun _ => ?_)
    | with_reducible refine pc_gN ?_
    | with_reducible refine pl_gT ?_
    | with_reducible refine pl_gC ?_
    | with_reducible refine pc_br ?_ ?_
    | with_reducible refine pc_cp (fun _ => ?_)
    | with_reducible refine pl_wI (by assumption) (fun _ _ => ?_)
    | with_reducible refine pl_cI (by assumption) (fun _ _ => ?_)
    | with_reducible refine pl_wR (by assumption) (fun _ _ => ?_)
    | with_reducible refine pl_jM (w := w) (fun _ _ => ?_) (fun _ _ => ?_)
    | with_reducible refine pl_jI (fun _ => ?_) (fun _ _ => ?_)
    | with_reducible refine pl_jU (fun _ => ?_) (fun _ _ => ?_)
    | with_reducible refine pl_jN (fun _ => ?_) (fun _ _ => ?_)
    | with_reducible refine pl_jIM (w := w) (fun _ _ _ => ?_) (fun _ _ => ?_)
    | with_reducible refine pl_fM (w := w) (fun _ => pc_none) (fun _ _ _ _ => ?_) (by assumption)
    | with_reducible refine pl_f1 (w := w) (fun _ _ => pc_none) (fun _ _ _ _ _ => ?_) (by assumption)
    | with_reducible refine pl_f2 (w := w) (fun _ _ _ => pc_none) (fun _ _ _ _ _ _ => ?_) (by assumption)
    | with_reducible refine pl_n1 (fun _ => pc_none) (fun _ _ _ => ?_)
    | with_reducible refine pl_n2 (fun _ _ => pc_none) (fun _ _ _ _ => ?_)
    | with_reducible refine pl_n3 (fun _ _ _ => pc_none) (fun _ _ _ _ _ => ?_)
    | with_reducible refine pc_lt0 (fun _ => ?_)
    | with_reducible (apply_assumption <;> assumption)
    | with_reducible apply_assumption)
theorem l_X8_setSkill {w : LG} {y : Lay} {a0 : Nat} {a1 : Int32} {a2 : Int32} {M : Mem} (h : M.2.1 = w) : pc (f_X8_setSkill y a0 a1 a2 M) (L1 w) := by
  unfold f_X8_setSkill
  repeat' (first
    | with_reducible exact pc_none
    | with_reducible exact pl_some (by assumption)
    | with_reducible refine pc_gd (fun _ => ?_)
    | with_reducible refine pc_gK (fun _ => ?_)
    | with_reducible refine pc_gA (fun _ => ?_)
    | with_reducible refine pc_gN ?_
    | with_reducible refine pl_gT ?_
    | with_reducible refine pl_gC ?_
    | with_reducible refine pc_br ?_ ?_
    | with_reducible refine pc_cp (fun _ => ?_)
    | with_reducible refine pl_wI (by assumption) (fun _ _ => ?_)
    | with_reducible refine pl_cI (by assumption) (fun _ _ => ?_)
    | with_reducible refine pl_wR (by assumption) (fun _ _ => ?_)
    | with_reducible refine pl_jM (w := w) (fun _ _ => ?_) (fun _ _ => ?_)
    | with_reducible refine pl_jI (fun _ => ?_) (fun _ _ => ?_)
    | with_reducible refine pl_jU (fun _ => ?_) (fun _ _ => ?_)
    | with_reducible refine pl_jN (fun _ => ?_) (fun _ _ => ?_)
    | with_reducible refine pl_jIM (w := w) (fun _ _ _ => ?_) (fun _ _ => ?_)
    | with_reducible refine pl_fM (w := w) (fun _ => pc_none) (fun _ _ _ _ => ?_) (by assumption)
    | with_reducible refine pl_f1 (w := w) (fun _ _ => pc_none) (fun _ _ _ _ _ => ?_) (by assumption)
    | with_reducible refine pl_f2 (w := w) (fun _ _ _ => pc_none) (fun _ _ _ _ _ _ => ?_) (by assumption)
    | with_reducible refine pl_n1 (fun _ => pc_none) (fun _ _ _ => ?_)
    | with_reducible refine pl_n2 (fun _ _ => pc_none) (fun _ _ _ _ => ?_)
    | with_reducible refine pl_n3 (fun _ _ _ => pc_none) (fun _ _ _ _ _ => ?_)
    | with_reducible refine pc_lt0 (fun _ => ?_)
    | with_reducible (apply_assumption <;> assumption)
    | with_reducible apply_assumption)
theorem l_X8_markOverdone {w : LG} {y : Lay} {a0 : Nat} {M : Mem} (h : M.2.1 = w) : pc (f_X8_markOverdone y a0 M) (L1 w) := by
  unfold f_X8_markOverdone
  repeat' (first
    | with_reducible exact pc_none
    | with_reducible exact pl_some (by assumption)
    | with_reducible refine pc_gd (fun _ => ?_)
    | with_reducible refine pc_gK (fun _ => ?_)
    | with_reducible refine pc_gA (fun _ => ?_)
    | with_reducible refine pc_gN ?_
    | with_reducible refine pl_gT ?_
    | with_reducible refine pl_gC ?_
    | with_reducible refine pc_br ?_ ?_
    | with_reducible refine pc_cp (fun _ => ?_)
    | with_reducible refine pl_wI (by assumption) (fun _ _ => ?_)
    | with_reducible refine pl_cI (by assumption) (fun _ _ => ?_)
    | with_reducible refine pl_wR (by assumption) (fun _ _ => ?_)
    | with_reducible refine pl_jM (w := w) (fun _ _ => ?_) (fun _ _ => ?_)
    | with_reducible refine pl_jI (fun _ => ?_) (fun _ _ => ?_)
    | with_reducible refine pl_jU (fun _ => ?_) (fun _ _ => ?_)
    | with_reducible refine pl_jN (fun _ => ?_) (fun _ _ => ?_)
    | with_reducible refine pl_jIM (w := w) (fun _ _ _ => ?_) (fun _ _ => ?_)
    | with_reducible refine pl_fM (w := w) (fun _ => pc_none) (fun _ _ _ _ => ?_) (by assumption)
    | with_reducible refine pl_f1 (w := w) (fun _ _ => pc_none) (fun _ _ _ _ _ => ?_) (by assumption)
    | with_reducible refine pl_f2 (w := w) (fun _ _ _ => pc_none) (fun _ _ _ _ _ _ => ?_) (by assumption)
    | with_reducible refine pl_n1 (fun _ => pc_none) (fun _ _ _ => ?_)
    | with_reducible refine pl_n2 (fun _ _ => pc_none) (fun _ _ _ _ => ?_)
    | with_reducible refine pl_n3 (fun _ _ _ => pc_none) (fun _ _ _ _ _ => ?_)
    | with_reducible refine pc_lt0 (fun _ => ?_)
    | with_reducible (apply_assumption <;> assumption)
    | with_reducible apply_assumption)
theorem l_X8_setValues {w : LG} {y : Lay} {a0 : Nat} {a1 : Int32} {M : Mem} (h : M.2.1 = w) : pc (f_X8_setValues y a0 a1 M) (L1 w) := by
  unfold f_X8_setValues
  repeat' (first
    | with_reducible exact pc_none
    | with_reducible exact pl_some (by assumption)
    | with_reducible refine pc_gd (fun _ => ?_)
    | with_reducible refine pc_gK (fun _ => ?_)
    | with_reducible refine pc_gA (fun _ => ?_)
    | with_reducible refine pc_gN ?_
    | with_reducible refine pl_gT ?_
    | with_reducible refine pl_gC ?_
    | with_reducible refine pc_br ?_ ?_
    | with_reducible refine pc_cp (fun _ => ?_)
    | with_reducible refine pl_wI (by assumption) (fun _ _ => ?_)
    | with_reducible refine pl_cI (by assumption) (fun _ _ => ?_)
    | with_reducible refine pl_wR (by assumption) (fun _ _ => ?_)
    | with_reducible refine pl_jM (w := w) (fun _ _ => ?_) (fun _ _ => ?_)
    | with_reducible refine pl_jI (fun _ => ?_) (fun _ _ => ?_)
    | with_reducible refine pl_jU (fun _ => ?_) (fun _ _ => ?_)
    | with_reducible refine pl_jN (fun _ => ?_) (fun _ _ => ?_)
    | with_reducible refine pl_jIM (w := w) (fun _ _ _ => ?_) (fun _ _ => ?_)
    | with_reducible refine pl_fM (w := w) (fun _ => pc_none) (fun _ _ _ _ => ?_) (by assumption)
    | with_reducible refine pl_f1 (w := w) (fun _ _ => pc_none) (fun _ _ _ _ _ => ?_) (by assumption)
    | with_reducible refine pl_f2 (w := w) (fun _ _ _ => pc_none) (fun _ _ _ _ _ _ => ?_) (by assumption)
    | with_reducible refine pl_n1 (fun _ => pc_none) (fun _ _ _ => ?_)
    | with_reducible refine pl_n2 (fun _ _ => pc_none) (fun _ _ _ _ => ?_)
    | with_reducible refine pl_n3 (fun _ _ _ => pc_none) (fun _ _ _ _ _ => ?_)
    | with_reducible refine pc_lt0 (fun _ => ?_)
    | with_reducible (apply_assumption <;> assumption)
    | with_reducible apply_assumption)
theorem l_X5_worth {w : LG} {y : Lay} {a0 : Nat} {a1 : Nat} {M : Mem} (h : M.2.1 = w) : pc (f_X5_worth y a0 a1 M) (L1 w) := by
  unfold f_X5_worth
  repeat' (first
    | with_reducible exact pc_none
    | with_reducible exact pl_some (by assumption)
    | with_reducible refine pc_gd (fun _ => ?_)
    | with_reducible refine pc_gK (fun _ => ?_)
    | with_reducible refine pc_gA (fun _ => ?_)
    | with_reducible refine pc_gN ?_
    | with_reducible refine pl_gT ?_
    | with_reducible refine pl_gC ?_
    | with_reducible refine pc_br ?_ ?_
    | with_reducible refine pc_cp (fun _ => ?_)
    | with_reducible refine pl_wI (by assumption) (fun _ _ => ?_)
    | with_reducible refine pl_cI (by assumption) (fun _ _ => ?_)
    | with_reducible refine pl_wR (by assumption) (fun _ _ => ?_)
    | with_reducible refine pl_jM (w := w) (fun _ _ => ?_) (fun _ _ => ?_)
    | with_reducible refine pl_jI (fun _ => ?_) (fun _ _ => ?_)
    | with_reducible refine pl_jU (fun _ => ?_) (fun _ _ => ?_)
    | with_reducible refine pl_jN (fun _ => ?_) (fun _ _ => ?_)
    | with_reducible refine pl_jIM (w := w) (fun _ _ _ => ?_) (fun _ _ => ?_)
    | with_reducible refine pl_fM (w := w) (fun _ => pc_none) (fun _ _ _ _ => ?_) (by assumption)
    | with_reducible refine pl_f1 (w := w) (fun _ _ => pc_none) (fun _ _ _ _ _ => ?_) (by assumption)
    | with_reducible refine pl_f2 (w := w) (fun _ _ _ => pc_none) (fun _ _ _ _ _ _ => ?_) (by assumption)
    | with_reducible refine pl_n1 (fun _ => pc_none) (fun _ _ _ => ?_)
    | with_reducible refine pl_n2 (fun _ _ => pc_none) (fun _ _ _ _ => ?_)
    | with_reducible refine pl_n3 (fun _ _ _ => pc_none) (fun _ _ _ _ _ => ?_)
    | with_reducible refine pc_lt0 (fun _ => ?_)
    | with_reducible (apply_assumption <;> assumption)
    | with_reducible apply_assumption)
theorem l_X8_fadeOf {w : LG} {y : Lay} {a0 : Nat} {a1 : Int32} {M : Mem} (h : M.2.1 = w) : pc (f_X8_fadeOf y a0 a1 M) (L1 w) := by
  unfold f_X8_fadeOf
  repeat' (first
    | with_reducible exact pc_none
    | with_reducible exact pl_some (by assumption)
    | with_reducible refine pc_gd (fun _ => ?_)
    | with_reducible refine pc_gK (fun _ => ?_)
    | with_reducible refine pc_gA (fun _ => ?_)
    | with_reducible refine pc_gN ?_
    | with_reducible refine pl_gT ?_
    | with_reducible refine pl_gC ?_
    | with_reducible refine pc_br ?_ ?_
    | with_reducible refine pc_cp (fun _ => ?_)
    | with_reducible refine pl_wI (by assumption) (fun _ _ => ?_)
    | with_reducible refine pl_cI (by assumption) (fun _ _ => ?_)
    | with_reducible refine pl_wR (by assumption) (fun _ _ => ?_)
    | with_reducible refine pl_jM (w := w) (fun _ _ => ?_) (fun _ _ => ?_)
    | with_reducible refine pl_jI (fun _ => ?_) (fun _ _ => ?_)
    | with_reducible refine pl_jU (fun _ => ?_) (fun _ _ => ?_)
    | with_reducible refine pl_jN (fun _ => ?_) (fun _ _ => ?_)
    | with_reducible refine pl_jIM (w := w) (fun _ _ _ => ?_) (fun _ _ => ?_)
    | with_reducible refine pl_fM (w := w) (fun _ => pc_none) (fun _ _ _ _ => ?_) (by assumption)
    | with_reducible refine pl_f1 (w := w) (fun _ _ => pc_none) (fun _ _ _ _ _ => ?_) (by assumption)
    | with_reducible refine pl_f2 (w := w) (fun _ _ _ => pc_none) (fun _ _ _ _ _ _ => ?_) (by assumption)
    | with_reducible refine pl_n1 (fun _ => pc_none) (fun _ _ _ => ?_)
    | with_reducible refine pl_n2 (fun _ _ => pc_none) (fun _ _ _ _ => ?_)
    | with_reducible refine pl_n3 (fun _ _ _ => pc_none) (fun _ _ _ _ _ => ?_)
    | with_reducible refine pl_c0 (w := w) (l_X8_setValues (by assumption)) (fun _ _ _ => ?_)
    | with_reducible refine pl_c0 (w := w) (l_X5_worth (by assumption)) (fun _ _ _ => ?_)
    | with_reducible refine pc_lt0 (fun _ => ?_)
    | with_reducible (apply_assumption <;> assumption)
    | with_reducible apply_assumption)
theorem l_X8_fade {w : LG} {y : Lay} {a0 : Nat} {M : Mem} (h : M.2.1 = w) : pc (f_X8_fade y a0 M) (L1 w) := by
  unfold f_X8_fade
  repeat' (first
    | with_reducible exact pc_none
    | with_reducible exact pl_some (by assumption)
    | with_reducible refine pc_gd (fun _ => ?_)
    | with_reducible refine pc_gK (fun _ => ?_)
    | with_reducible refine pc_gA (fun _ => ?_)
    | with_reducible refine pc_gN ?_
    | with_reducible refine pl_gT ?_
    | with_reducible refine pl_gC ?_
    | with_reducible refine pc_br ?_ ?_
    | with_reducible refine pc_cp (fun _ => ?_)
    | with_reducible refine pl_wI (by assumption) (fun _ _ => ?_)
    | with_reducible refine pl_cI (by assumption) (fun _ _ => ?_)
    | with_reducible refine pl_wR (by assumption) (fun _ _ => ?_)
    | with_reducible refine pl_jM (w := w) (fun _ _ => ?_) (fun _ _ => ?_)
    | with_reducible refine pl_jI (fun _ => ?_) (fun _ _ => ?_)
    | with_reducible refine pl_jU (fun _ => ?_) (fun _ _ => ?_)
    | with_reducible refine pl_jN (fun _ => ?_) (fun _ _ => ?_)
    | with_reducible refine pl_jIM (w := w) (fun _ _ _ => ?_) (fun _ _ => ?_)
    | with_reducible refine pl_fM (w := w) (fun _ => pc_none) (fun _ _ _ _ => ?_) (by assumption)
    | with_reducible refine pl_f1 (w := w) (fun _ _ => pc_none) (fun _ _ _ _ _ => ?_) (by assumption)
    | with_reducible refine pl_f2 (w := w) (fun _ _ _ => pc_none) (fun _ _ _ _ _ _ => ?_) (by assumption)
    | with_reducible refine pl_n1 (fun _ => pc_none) (fun _ _ _ => ?_)
    | with_reducible refine pl_n2 (fun _ _ => pc_none) (fun _ _ _ _ => ?_)
    | with_reducible refine pl_n3 (fun _ _ _ => pc_none) (fun _ _ _ _ _ => ?_)
    | with_reducible refine pl_c0 (w := w) (l_X8_fadeOf (by assumption)) (fun _ _ _ => ?_)
    | with_reducible refine pc_lt0 (fun _ => ?_)
    | with_reducible (apply_assumption <;> assumption)
    | with_reducible apply_assumption)
theorem l_X8_dyeOf {w : LG} {y : Lay} {a0 : Nat} {a1 : Int32} {a2 : Int32} {M : Mem} (h : M.2.1 = w) : pc (f_X8_dyeOf y a0 a1 a2 M) (L1 w) := by
  unfold f_X8_dyeOf
  repeat' (first
    | with_reducible exact pc_none
    | with_reducible exact pl_some (by assumption)
    | with_reducible refine pc_gd (fun _ => ?_)
    | with_reducible refine pc_gK (fun _ => ?_)
    | with_reducible refine pc_gA (fun _ => ?_)
    | with_reducible refine pc_gN ?_
    | with_reducible refine pl_gT ?_
    | with_reducible refine pl_gC ?_
    | with_reducible refine pc_br ?_ ?_
    | with_reducible refine pc_cp (fun _ => ?_)
    | with_reducible refine pl_wI (by assumption) (fun _ _ => ?_)
    | with_reducible refine pl_cI (by assumption) (fun _ _ => ?_)
    | with_reducible refine pl_wR (by assumption) (fun _ _ => ?_)
    | with_reducible refine pl_jM (w := w) (fun _ _ => ?_) (fun _ _ => ?_)
    | with_reducible refine pl_jI (fun _ => ?_) (fun _ _ => ?_)
    | with_reducible refine pl_jU (fun _ => ?_) (fun _ _ => ?_)
    | with_reducible refine pl_jN (fun _ => ?_) (fun _ _ => ?_)
    | with_reducible refine pl_jIM (w := w) (fun _ _ _ => ?_) (fun _ _ => ?_)
    | with_reducible refine pl_fM (w := w) (fun _ => pc_none) (fun _ _ _ _ => ?_) (by assumption)
    | with_reducible refine pl_f1 (w := w) (fun _ _ => pc_none) (fun _ _ _ _ _ => ?_) (by assumption)
    | with_reducible refine pl_f2 (w := w) (fun _ _ _ => pc_none) (fun _ _ _ _ _ _ => ?_) (by assumption)
    | with_reducible refine pl_n1 (fun _ => pc_none) (fun _ _ _ => ?_)
    | with_reducible refine pl_n2 (fun _ _ => pc_none) (fun _ _ _ _ => ?_)
    | with_reducible refine pl_n3 (fun _ _ _ => pc_none) (fun _ _ _ _ _ => ?_)
    | with_reducible refine pl_c0 (w := w) (l_X8_setValues (by assumption)) (fun _ _ _ => ?_)
    | with_reducible refine pl_c0 (w := w) (l_X5_worth (by assumption)) (fun _ _ _ => ?_)
    | with_reducible refine pc_lt0 (fun _ => ?_)
    | with_reducible (apply_assumption <;> assumption)
    | with_reducible apply_assumption)
theorem l_X8_addBlue {w : LG} {y : Lay} {a0 : Nat} {a1 : Int32} {a2 : Int32} {M : Mem} (h : M.2.1 = w) : pc (f_X8_addBlue y a0 a1 a2 M) (L1 w) := by
  unfold f_X8_addBlue
  repeat' (first
    | with_reducible exact pc_none
    | with_reducible exact pl_some (by assumption)
    | with_reducible refine pc_gd (fun _ => ?_)
    | with_reducible refine pc_gK (fun _ => ?_)
    | with_reducible refine pc_gA (fun _ => ?_)
    | with_reducible refine pc_gN ?_
    | with_reducible refine pl_gT ?_
    | with_reducible refine pl_gC ?_
    | with_reducible refine pc_br ?_ ?_
    | with_reducible refine pc_cp (fun _ => ?_)
    | with_reducible refine pl_wI (by assumption) (fun _ _ => ?_)
    | with_reducible refine pl_cI (by assumption) (fun _ _ => ?_)
    | with_reducible refine pl_wR (by assumption) (fun _ _ => ?_)
    | with_reducible refine pl_jM (w := w) (fun _ _ => ?_) (fun _ _ => ?_)
    | with_reducible refine pl_jI (fun _ => ?_) (fun _ _ => ?_)
    | with_reducible refine pl_jU (fun _ => ?_) (fun _ _ => ?_)
    | with_reducible refine pl_jN (fun _ => ?_) (fun _ _ => ?_)
    | with_reducible refine pl_jIM (w := w) (fun _ _ _ => ?_) (fun _ _ => ?_)
    | with_reducible refine pl_fM (w := w) (fun _ => pc_none) (fun _ _ _ _ => ?_) (by assumption)
    | with_reducible refine pl_f1 (w := w) (fun _ _ => pc_none) (fun _ _ _ _ _ => ?_) (by assumption)
    | with_reducible refine pl_f2 (w := w) (fun _ _ _ => pc_none) (fun _ _ _ _ _ _ => ?_) (by assumption)
    | with_reducible refine pl_n1 (fun _ => pc_none) (fun _ _ _ => ?_)
    | with_reducible refine pl_n2 (fun _ _ => pc_none) (fun _ _ _ _ => ?_)
    | with_reducible refine pl_n3 (fun _ _ _ => pc_none) (fun _ _ _ _ _ => ?_)
    | with_reducible refine pc_lt0 (fun _ => ?_)
    | with_reducible (apply_assumption <;> assumption)
    | with_reducible apply_assumption)
theorem l_X8_drip {w : LG} {y : Lay} {a0 : Nat} {a1 : Int32} {a2 : Int32} {M : Mem} (h : M.2.1 = w) : pc (f_X8_drip y a0 a1 a2 M) (L1 w) := by
  unfold f_X8_drip
  repeat' (first
    | with_reducible exact pc_none
    | with_reducible exact pl_some (by assumption)
    | with_reducible refine pc_gd (fun _ => ?_)
    | with_reducible refine pc_gK (fun _ => ?_)
    | with_reducible refine pc_gA (fun _ => ?_)
    | with_reducible refine pc_gN ?_
    | with_reducible refine pl_gT ?_
    | with_reducible refine pl_gC ?_
    | with_reducible refine pc_br ?_ ?_
    | with_reducible refine pc_cp (fun _ => ?_)
    | with_reducible refine pl_wI (by assumption) (fun _ _ => ?_)
    | with_reducible refine pl_cI (by assumption) (fun _ _ => ?_)
    | with_reducible refine pl_wR (by assumption) (fun _ _ => ?_)
    | with_reducible refine pl_jM (w := w) (fun _ _ => ?_) (fun _ _ => ?_)
    | with_reducible refine pl_jI (fun _ => ?_) (fun _ _ => ?_)
    | with_reducible refine pl_jU (fun _ => ?_) (fun _ _ => ?_)
    | with_reducible refine pl_jN (fun _ => ?_) (fun _ _ => ?_)
    | with_reducible refine pl_jIM (w := w) (fun _ _ _ => ?_) (fun _ _ => ?_)
    | with_reducible refine pl_fM (w := w) (fun _ => pc_none) (fun _ _ _ _ => ?_) (by assumption)
    | with_reducible refine pl_f1 (w := w) (fun _ _ => pc_none) (fun _ _ _ _ _ => ?_) (by assumption)
    | with_reducible refine pl_f2 (w := w) (fun _ _ _ => pc_none) (fun _ _ _ _ _ _ => ?_) (by assumption)
    | with_reducible refine pl_n1 (fun _ => pc_none) (fun _ _ _ => ?_)
    | with_reducible refine pl_n2 (fun _ _ => pc_none) (fun _ _ _ _ => ?_)
    | with_reducible refine pl_n3 (fun _ _ _ => pc_none) (fun _ _ _ _ _ => ?_)
    | with_reducible refine pl_c0 (w := w) (l_X8_addBlue (by assumption)) (fun _ _ _ => ?_)
    | with_reducible refine pc_lt0 (fun _ => ?_)
    | with_reducible (apply_assumption <;> assumption)
    | with_reducible apply_assumption)
theorem l_X8_swish {w : LG} {y : Lay} {a0 : Nat} {a1 : Int32} {a2 : Int32} {M : Mem} (h : M.2.1 = w) : pc (f_X8_swish y a0 a1 a2 M) (L1 w) := by
  unfold f_X8_swish
  repeat' (first
    | with_reducible exact pc_none
    | with_reducible exact pl_some (by assumption)
    | with_reducible refine pc_gd (fun _ => ?_)
    | with_reducible refine pc_gK (fun _ => ?_)
    | with_reducible refine pc_gA (fun _ => ?_)
    | with_reducible refine pc_gN ?_
    | with_reducible refine pl_gT ?_
    | with_reducible refine pl_gC ?_
    | with_reducible refine pc_br ?_ ?_
    | with_reducible refine pc_cp (fun _ => ?_)
    | with_reducible refine pl_wI (by assumption) (fun _ _ => ?_)
    | with_reducible refine pl_cI (by assumption) (fun _ _ => ?_)
    | with_reducible refine pl_wR (by assumption) (fun _ _ => ?_)
    | with_reducible refine pl_jM (w := w) (fun _ _ => ?_) (fun _ _ => ?_)
    | with_reducible refine pl_jI (fun _ => ?_) (fun _ _ => ?_)
    | with_reducible refine pl_jU (fun _ => ?_) (fun _ _ => ?_)
    | with_reducible refine pl_jN (fun _ => ?_) (fun _ _ => ?_)
    | with_reducible refine pl_jIM (w := w) (fun _ _ _ => ?_) (fun _ _ => ?_)
    | with_reducible refine pl_fM (w := w) (fun _ => pc_none) (fun _ _ _ _ => ?_) (by assumption)
    | with_reducible refine pl_f1 (w := w) (fun _ _ => pc_none) (fun _ _ _ _ _ => ?_) (by assumption)
    | with_reducible refine pl_f2 (w := w) (fun _ _ _ => pc_none) (fun _ _ _ _ _ _ => ?_) (by assumption)
    | with_reducible refine pl_n1 (fun _ => pc_none) (fun _ _ _ => ?_)
    | with_reducible refine pl_n2 (fun _ _ => pc_none) (fun _ _ _ _ => ?_)
    | with_reducible refine pl_n3 (fun _ _ _ => pc_none) (fun _ _ _ _ _ => ?_)
    | with_reducible refine pl_c0 (w := w) (l_X8_dyeOf (by assumption)) (fun _ _ _ => ?_)
    | with_reducible refine pl_c0 (w := w) (l_X8_addBlue (by assumption)) (fun _ _ _ => ?_)
    | with_reducible refine pl_c0 (w := w) (l_X8_drip (by assumption)) (fun _ _ _ => ?_)
    | with_reducible refine pc_lt0 (fun _ => ?_)
    | with_reducible (apply_assumption <;> assumption)
    | with_reducible apply_assumption)
theorem l_X8_passDay {w : LG} {y : Lay} {a0 : Nat} {M : Mem} (h : M.2.1 = w) : pc (f_X8_passDay y a0 M) (L1 w) := by
  unfold f_X8_passDay
  repeat' (first
    | with_reducible exact pc_none
    | with_reducible exact pl_some (by assumption)
    | with_reducible refine pc_gd (fun _ => ?_)
    | with_reducible refine pc_gK (fun _ => ?_)
    | with_reducible refine pc_gA (fun _ => ?_)
    | with_reducible refine pc_gN ?_
    | with_reducible refine pl_gT ?_
    | with_reducible refine pl_gC ?_
    | with_reducible refine pc_br ?_ ?_
    | with_reducible refine pc_cp (fun _ => ?_)
    | with_reducible refine pl_wI (by assumption) (fun _ _ => ?_)
    | with_reducible refine pl_cI (by assumption) (fun _ _ => ?_)
    | with_reducible refine pl_wR (by assumption) (fun _ _ => ?_)
    | with_reducible refine pl_jM (w := w) (fun _ _ => ?_) (fun _ _ => ?_)
    | with_reducible refine pl_jI (fun _ => ?_) (fun _ _ => ?_)
    | with_reducible refine pl_jU (fun _ => ?_) (fun _ _ => ?_)
    | with_reducible refine pl_jN (fun _ => ?_) (fun _ _ => ?_)
    | with_reducible refine pl_jIM (w := w) (fun _ _ _ => ?_) (fun _ _ => ?_)
    | with_reducible refine pl_fM (w := w) (fun _ => pc_none) (fun _ _ _ _ => ?_) (by assumption)
    | with_reducible refine pl_f1 (w := w) (fun _ _ => pc_none) (fun _ _ _ _ _ => ?_) (by assumption)
    | with_reducible refine pl_f2 (w := w) (fun _ _ _ => pc_none) (fun _ _ _ _ _ _ => ?_) (by assumption)
    | with_reducible refine pl_n1 (fun _ => pc_none) (fun _ _ _ => ?_)
    | with_reducible refine pl_n2 (fun _ _ => pc_none) (fun _ _ _ _ => ?_)
    | with_reducible refine pl_n3 (fun _ _ _ => pc_none) (fun _ _ _ _ _ => ?_)
    | with_reducible refine pl_c0 (w := w) (l_X8_markOverdone (by assumption)) (fun _ _ _ => ?_)
    | with_reducible refine pl_c0 (w := w) (l_X8_fade (by assumption)) (fun _ _ _ => ?_)
    | with_reducible refine pl_c0 (w := w) (l_X8_swish (by assumption)) (fun _ _ _ => ?_)
    | with_reducible refine pc_lt0 (fun _ => ?_)
    | with_reducible (apply_assumption <;> assumption)
    | with_reducible apply_assumption)
theorem l_X11_wouldFit {w : LG} {y : Lay} {a0 : Nat} {a1 : Int32} {a2 : Int32} {M : Mem} (h : M.2.1 = w) : pc (f_X11_wouldFit y a0 a1 a2 M) (L1 w) := by
  unfold f_X11_wouldFit
  repeat' (first
    | with_reducible exact pc_none
    | with_reducible exact pl_some (by assumption)
    | with_reducible refine pc_gd (fun _ => ?_)
    | with_reducible refine pc_gK (fun _ => ?_)
    | with_reducible refine pc_gA (fun _ => ?_)
    | with_reducible refine pc_gN ?_
    | with_reducible refine pl_gT ?_
    | with_reducible refine pl_gC ?_
    | with_reducible refine pc_br ?_ ?_
    | with_reducible refine pc_cp (fun _ => ?_)
    | with_reducible refine pl_wI (by assumption) (fun _ _ => ?_)
    | with_reducible refine pl_cI (by assumption) (fun _ _ => ?_)
    | with_reducible refine pl_wR (by assumption) (fun _ _ => ?_)
    | with_reducible refine pl_jM (w := w) (fun _ _ => ?_) (fun _ _ => ?_)
    | with_reducible refine pl_jI (fun _ => ?_) (fun _ _ => ?_)
    | with_reducible refine pl_jU (fun _ => ?_) (fun _ _ => ?_)
    | with_reducible refine pl_jN (fun _ => ?_) (fun _ _ => ?_)
    | with_reducible refine pl_jIM (w := w) (fun _ _ _ => ?_) (fun _ _ => ?_)
    | with_reducible refine pl_fM (w := w) (fun _ => pc_none) (fun _ _ _ _ => ?_) (by assumption)
    | with_reducible refine pl_f1 (w := w) (fun _ _ => pc_none) (fun _ _ _ _ _ => ?_) (by assumption)
    | with_reducible refine pl_f2 (w := w) (fun _ _ _ => pc_none) (fun _ _ _ _ _ _ => ?_) (by assumption)
    | with_reducible refine pl_n1 (fun _ => pc_none) (fun _ _ _ => ?_)
    | with_reducible refine pl_n2 (fun _ _ => pc_none) (fun _ _ _ _ => ?_)
    | with_reducible refine pl_n3 (fun _ _ _ => pc_none) (fun _ _ _ _ _ => ?_)
    | with_reducible refine pl_c0 (w := w) (l_X8_copyFrom (by assumption)) (fun _ _ _ => ?_)
    | with_reducible refine pl_c0 (w := w) (l_X8_setSkill (by assumption)) (fun _ _ _ => ?_)
    | with_reducible refine pl_c0 (w := w) (l_X8_passDay (by assumption)) (fun _ _ _ => ?_)
    | with_reducible refine pc_lt0 (fun _ => ?_)
    | with_reducible (apply_assumption <;> assumption)
    | with_reducible apply_assumption)
theorem fit_l {y : Lay} {g s : Int32} {M : Mem} {o : Int32 × Mem} (h : f_X11_wouldFit y 1 g s M = some o) : o.2.2.1 = M.2.1 := l_X11_wouldFit (w := M.2.1) rfl o h
