/-! ===== behind the constructors: places past an array's end are never written ===== -/
def pc {β : Type} (x : Option β) (Q : β → Prop) : Prop := ∀ o, x = some o → Q o
section PCC
variable {β : Type} {Q : β → Prop}
theorem pc_some {o : β} (h : Q o) : pc (some o) Q := fun _ e => by cases e; exact h
theorem pc_none : pc (none : Option β) Q := fun _ e => by cases e
theorem pc_gd {P : Prop} [Decidable P] {k : Option β} (h : P → pc k Q) : pc (gd P k) Q := fun o e => h (gd_e e).1 o (gd_e e).2
theorem pc_gK {y : Lay} {r : Nat} {c : Nat × Nat} {k : Option β} (h : kd y r = c → pc k Q) : pc (gK y r c k) Q := fun o e => h (gK_e e).1 o (gK_e e).2
theorem pc_gA {y : Lay} {r t : Nat} {i : Int32} {k : Option β} (h : ((kd y r).1 = t ∧ ¬ (i < 0 ∨ (kd y r).2 ≤ i.toNatClampNeg)) → pc k Q) : pc (gA y r t i k) Q := fun o e => h (gA_e e).1 o (gA_e e).2
theorem pc_gN {r : Nat} {k : Option β} (h : pc k Q) : pc (gN r k) Q := fun o e => h o (gN_e e).2
theorem pc_br {P : Prop} [Decidable P] {a b : Option β} (h1 : pc a Q) (h2 : pc b Q) : pc (br P a b) Q := by
  intro o e
  by_cases h : P
  · exact h1 o ((br_e e).1 h)
  · exact h2 o ((br_e e).2 h)
theorem pc_lt {α : Type} {e : α} {k : α → Option β} (R : α → Prop) (h : R e) (hk : ∀ v, R v → pc (k v) Q) : pc (lt e k) Q := fun o q => hk e h o q
theorem pc_lt0 {α : Type} {e : α} {k : α → Option β} (hk : ∀ v, pc (k v) Q) : pc (lt e k) Q := fun o q => hk e o q
theorem pc_jn {κ : Type} {K : κ} {b : κ → Option β} (h : pc (b K) Q) : pc (jn K b) Q := h
theorem pc_c0 {x : Option (Int32 × Mem)} {k : Int32 → Mem → Option β} (R : Int32 × Mem → Prop) (hx : pc x R) (hk : ∀ r M, R (r, M) → pc (k r M) Q) : pc (c0 x k) Q := by
  intro o e
  obtain ⟨r, M, h1, h2⟩ := c0_e e
  exact hk r M (hx _ h1) o h2
theorem pc_cp {x : Option Int32} {k : Int32 → Option β} (hk : ∀ r, pc (k r) Q) : pc (cp x k) Q := by
  intro o e
  obtain ⟨r, h1, h2⟩ := cp_e e
  exact hk r o h2
theorem pc_ci {x : Option (Lay × Mem)} {k : Lay → Mem → Option β} (R : Lay × Mem → Prop) (hx : pc x R) (hk : ∀ r M, R (r, M) → pc (k r M) Q) : pc (ci x k) Q := by
  intro o e
  obtain ⟨r, M, h1, h2⟩ := ci_e e
  exact hk r M (hx _ h1) o h2
end PCC
def capy (y : Lay) (p : Nat) : Nat := if (y.1 p).1 = 0 then 64 else (y.1 p).2
def ZZ (y : Lay) (M : Mem) : Prop := ∀ p k, p ≤ y.2.2 → capy y p ≤ k → M.1 p k = 0
theorem kd_1 {y : Lay} {p : Nat} {t : Nat} (h : (kd y p).1 = t) (ht : t ≠ 9) : kd y p = y.1 p := by
  unfold kd at h ⊢
  split at h
  · rename_i hr; rw [if_pos hr]
  · exact absurd h.symm ht
theorem ZZ_wA {y : Lay} {M : Mem} {p : Nat} {i v : Int32} (h : ZZ y M) (g : (kd y p).1 = 1 ∧ ¬ (i < 0 ∨ (kd y p).2 ≤ i.toNatClampNeg)) : ZZ y (wI M p i.toNatClampNeg v) := by
  intro q k hq hk
  show (if q = p ∧ k = i.toNatClampNeg then v else M.1 q k) = 0
  have e := kd_1 g.1 (by decide)
  rw [if_neg, h q k hq hk]
  rintro ⟨rfl, rfl⟩
  unfold capy at hk
  rw [← e, g.1, if_neg (by decide)] at hk
  exact g.2 (Or.inr hk)
theorem ZZ_wK {y : Lay} {M : Mem} {p n j : Nat} {v : Int32} (h : ZZ y M) (g : kd y p = (0, n)) (hj : Nat.blt j 64 = true) : ZZ y (wI M p j v) := by
  intro q k hq hk
  have hj : j < 64 := Nat.le_of_ble_eq_true hj
  show (if q = p ∧ k = j then v else M.1 q k) = 0
  have e := kd_1 (show (kd y p).1 = 0 by rw [g]) (by decide)
  rw [if_neg, h q k hq hk]
  rintro ⟨rfl, rfl⟩
  unfold capy at hk
  rw [← e, g, if_pos rfl] at hk
  omega
theorem ZZ_R {y : Lay} {M : Mem} {p k v : Nat} (h : ZZ y M) : ZZ y (wR M p k v) := h
theorem ZZ_F {y : Lay} {M : Mem} {p k v : Nat} (h : ZZ y M) : ZZ (wF y p k v) M := h
theorem ZZ_psh {y : Lay} {M : Mem} (c : Nat × Nat) (h : ZZ y M) : ZZ (psh y c) (zM M (y.2.2 + 1)) := by
  intro q k hq hk
  show (if q = y.2.2 + 1 then 0 else M.1 q k) = 0
  by_cases e : q = y.2.2 + 1
  · rw [if_pos e]
  · rw [if_neg e]
    have hq : q ≤ y.2.2 + 1 := hq
    refine h q k (by omega) ?_
    have e2 : (psh y c).1 q = y.1 q := if_neg e
    unfold capy at hk
    rw [e2] at hk
    exact hk
/-- what a constructor leaves -/
abbrev QZ (o : Lay × Mem) : Prop := ZZ o.1 o.2
theorem z_bitsBeside : True := trivial
theorem z_shape {y : Lay} {a : Nat} {b c : Int32} {M : Mem} (h : ZZ y M) : pc (f_X1_shape y a b c M) (fun o => ZZ y o.2) := by
  unfold f_X1_shape
  repeat' (first
    | with_reducible exact pc_none
    | with_reducible refine pc_gd (fun _ => ?_)
    | with_reducible refine pc_gK (fun _ => ?_)
    | with_reducible refine pc_gA (fun _ => ?_)
    | with_reducible refine pc_gN ?_
    | with_reducible refine pc_jn ?_
    | with_reducible refine pc_br ?_ ?_
    | with_reducible refine pc_cp (fun _ => ?_)
    | with_reducible refine pc_lt (ZZ _) (ZZ_wA (by assumption) (by assumption)) (fun _ _ => ?_)
    | with_reducible refine pc_lt (ZZ _) (ZZ_wK (by assumption) (by assumption) (by decide)) (fun _ _ => ?_)
    | with_reducible refine pc_lt (ZZ _) (ZZ_R (by assumption)) (fun _ _ => ?_)
    | with_reducible refine pc_lt (fun z => ZZ z _) (ZZ_F (by assumption)) (fun _ _ => ?_)
    
    | with_reducible refine pc_lt0 (fun _ => ?_)
    | with_reducible refine pc_some (show ZZ _ _ by assumption))
  refine fix_i (P := fun (f : Int32 → Mem → Option (Int32 × Mem)) => ∀ (v : Int32) (N : Mem), ZZ y N → pc (f v N) (fun o => ZZ y o.2)) (fun _ _ _ => pc_none) (fun s hs v N hN => ?_) FUEL _ _ (by assumption)
  repeat' (first
    | with_reducible exact pc_none
    | with_reducible refine pc_gd (fun _ => ?_)
    | with_reducible refine pc_gK (fun _ => ?_)
    | with_reducible refine pc_gA (fun _ => ?_)
    | with_reducible refine pc_gN ?_
    | with_reducible refine pc_jn ?_
    | with_reducible refine pc_br ?_ ?_
    | with_reducible refine pc_cp (fun _ => ?_)
    | with_reducible refine pc_lt (ZZ _) (ZZ_wA (by assumption) (by assumption)) (fun _ _ => ?_)
    | with_reducible refine pc_lt (ZZ _) (ZZ_wK (by assumption) (by assumption) (by decide)) (fun _ _ => ?_)
    | with_reducible refine pc_lt (ZZ _) (ZZ_R (by assumption)) (fun _ _ => ?_)
    | with_reducible refine pc_lt (fun z => ZZ z _) (ZZ_F (by assumption)) (fun _ _ => ?_)
    | with_reducible exact hs _ _ (by assumption)
    | with_reducible refine pc_lt0 (fun _ => ?_)
    | with_reducible refine pc_some (show ZZ _ _ by assumption))
theorem z_rclear {y : Lay} {a : Nat} {M : Mem} (h : ZZ y M) : pc (f_X5_clear y a M) (fun o => ZZ y o.2) := by
  unfold f_X5_clear
  repeat' (first
    | with_reducible exact pc_none
    | with_reducible refine pc_gd (fun _ => ?_)
    | with_reducible refine pc_gK (fun _ => ?_)
    | with_reducible refine pc_gA (fun _ => ?_)
    | with_reducible refine pc_gN ?_
    | with_reducible refine pc_jn ?_
    | with_reducible refine pc_br ?_ ?_
    | with_reducible refine pc_cp (fun _ => ?_)
    | with_reducible refine pc_lt (ZZ _) (ZZ_wA (by assumption) (by assumption)) (fun _ _ => ?_)
    | with_reducible refine pc_lt (ZZ _) (ZZ_wK (by assumption) (by assumption) (by decide)) (fun _ _ => ?_)
    | with_reducible refine pc_lt (ZZ _) (ZZ_R (by assumption)) (fun _ _ => ?_)
    | with_reducible refine pc_lt (fun z => ZZ z _) (ZZ_F (by assumption)) (fun _ _ => ?_)
    
    | with_reducible refine pc_lt0 (fun _ => ?_)
    | with_reducible refine pc_some (show ZZ _ _ by assumption))
theorem z_cbegin {y : Lay} {a : Nat} {M : Mem} (h : ZZ y M) : pc (f_X1_begin y a M) (fun o => ZZ y o.2) := by
  unfold f_X1_begin
  repeat' (first
    | with_reducible exact pc_none
    | with_reducible refine pc_gd (fun _ => ?_)
    | with_reducible refine pc_gK (fun _ => ?_)
    | with_reducible refine pc_gA (fun _ => ?_)
    | with_reducible refine pc_gN ?_
    | with_reducible refine pc_jn ?_
    | with_reducible refine pc_br ?_ ?_
    | with_reducible refine pc_cp (fun _ => ?_)
    | with_reducible refine pc_lt (ZZ _) (ZZ_wA (by assumption) (by assumption)) (fun _ _ => ?_)
    | with_reducible refine pc_lt (ZZ _) (ZZ_wK (by assumption) (by assumption) (by decide)) (fun _ _ => ?_)
    | with_reducible refine pc_lt (ZZ _) (ZZ_R (by assumption)) (fun _ _ => ?_)
    | with_reducible refine pc_lt (fun z => ZZ z _) (ZZ_F (by assumption)) (fun _ _ => ?_)
    | with_reducible refine pc_c0 (fun o => ZZ y o.2) (z_shape (by assumption)) (fun _ _ _ => ?_) | with_reducible refine pc_c0 (fun o => ZZ y o.2) (z_rclear (by assumption)) (fun _ _ _ => ?_)
    | with_reducible refine pc_lt0 (fun _ => ?_)
    | with_reducible refine pc_some (show ZZ _ _ by assumption))
theorem z_sbegin {y : Lay} {a : Nat} {M : Mem} (h : ZZ y M) : pc (f_X8_begin y a M) (fun o => ZZ y o.2) := by
  unfold f_X8_begin
  refine fix_i (P := fun (f : Int32 → Mem → Option (Int32 × Mem)) => ∀ (v : Int32) (N : Mem), ZZ y N → pc (f v N) (fun o => ZZ y o.2)) (fun _ _ _ => pc_none) (fun s hs v N hN => ?_) FUEL _ _ (by assumption)
  repeat' (first
    | with_reducible exact pc_none
    | with_reducible refine pc_gd (fun _ => ?_)
    | with_reducible refine pc_gK (fun _ => ?_)
    | with_reducible refine pc_gA (fun _ => ?_)
    | with_reducible refine pc_gN ?_
    | with_reducible refine pc_jn ?_
    | with_reducible refine pc_br ?_ ?_
    | with_reducible refine pc_cp (fun _ => ?_)
    | with_reducible refine pc_lt (ZZ _) (ZZ_wA (by assumption) (by assumption)) (fun _ _ => ?_)
    | with_reducible refine pc_lt (ZZ _) (ZZ_wK (by assumption) (by assumption) (by decide)) (fun _ _ => ?_)
    | with_reducible refine pc_lt (ZZ _) (ZZ_R (by assumption)) (fun _ _ => ?_)
    | with_reducible refine pc_lt (fun z => ZZ z _) (ZZ_F (by assumption)) (fun _ _ => ?_)
    | with_reducible exact hs _ _ (by assumption)
    | with_reducible refine pc_lt0 (fun _ => ?_)
    | with_reducible refine pc_some (show ZZ _ _ by assumption))
  refine fix_i (P := fun (f : Int32 → Mem → Option (Int32 × Mem)) => ∀ (v : Int32) (N : Mem), ZZ y N → pc (f v N) (fun o => ZZ y o.2)) (fun _ _ _ => pc_none) (fun s hs v N hN => ?_) FUEL _ _ (by assumption)
  repeat' (first
    | with_reducible exact pc_none
    | with_reducible refine pc_gd (fun _ => ?_)
    | with_reducible refine pc_gK (fun _ => ?_)
    | with_reducible refine pc_gA (fun _ => ?_)
    | with_reducible refine pc_gN ?_
    | with_reducible refine pc_jn ?_
    | with_reducible refine pc_br ?_ ?_
    | with_reducible refine pc_cp (fun _ => ?_)
    | with_reducible refine pc_lt (ZZ _) (ZZ_wA (by assumption) (by assumption)) (fun _ _ => ?_)
    | with_reducible refine pc_lt (ZZ _) (ZZ_wK (by assumption) (by assumption) (by decide)) (fun _ _ => ?_)
    | with_reducible refine pc_lt (ZZ _) (ZZ_R (by assumption)) (fun _ _ => ?_)
    | with_reducible refine pc_lt (fun z => ZZ z _) (ZZ_F (by assumption)) (fun _ _ => ?_)
    | with_reducible exact hs _ _ (by assumption)
    | with_reducible refine pc_lt0 (fun _ => ?_)
    | with_reducible refine pc_some (show ZZ _ _ by assumption))
theorem z_mbegin {y : Lay} {a : Nat} {b : Int32} {M : Mem} (h : ZZ y M) : pc (f_X12_begin y a b M) (fun o => ZZ y o.2) := by
  unfold f_X12_begin
  repeat' (first
    | with_reducible exact pc_none
    | with_reducible refine pc_gd (fun _ => ?_)
    | with_reducible refine pc_gK (fun _ => ?_)
    | with_reducible refine pc_gA (fun _ => ?_)
    | with_reducible refine pc_gN ?_
    | with_reducible refine pc_jn ?_
    | with_reducible refine pc_br ?_ ?_
    | with_reducible refine pc_cp (fun _ => ?_)
    | with_reducible refine pc_lt (ZZ _) (ZZ_wA (by assumption) (by assumption)) (fun _ _ => ?_)
    | with_reducible refine pc_lt (ZZ _) (ZZ_wK (by assumption) (by assumption) (by decide)) (fun _ _ => ?_)
    | with_reducible refine pc_lt (ZZ _) (ZZ_R (by assumption)) (fun _ _ => ?_)
    | with_reducible refine pc_lt (fun z => ZZ z _) (ZZ_F (by assumption)) (fun _ _ => ?_)
    
    | with_reducible refine pc_lt0 (fun _ => ?_)
    | with_reducible refine pc_some (show ZZ _ _ by assumption))
  refine fix_i (P := fun (f : Int32 → Mem → Option (Int32 × Mem)) => ∀ (v : Int32) (N : Mem), ZZ y N → pc (f v N) (fun o => ZZ y o.2)) (fun _ _ _ => pc_none) (fun s hs v N hN => ?_) FUEL _ _ (by assumption)
  repeat' (first
    | with_reducible exact pc_none
    | with_reducible refine pc_gd (fun _ => ?_)
    | with_reducible refine pc_gK (fun _ => ?_)
    | with_reducible refine pc_gA (fun _ => ?_)
    | with_reducible refine pc_gN ?_
    | with_reducible refine pc_jn ?_
    | with_reducible refine pc_br ?_ ?_
    | with_reducible refine pc_cp (fun _ => ?_)
    | with_reducible refine pc_lt (ZZ _) (ZZ_wA (by assumption) (by assumption)) (fun _ _ => ?_)
    | with_reducible refine pc_lt (ZZ _) (ZZ_wK (by assumption) (by assumption) (by decide)) (fun _ _ => ?_)
    | with_reducible refine pc_lt (ZZ _) (ZZ_R (by assumption)) (fun _ _ => ?_)
    | with_reducible refine pc_lt (fun z => ZZ z _) (ZZ_F (by assumption)) (fun _ _ => ?_)
    | with_reducible exact hs _ _ (by assumption)
    | with_reducible refine pc_lt0 (fun _ => ?_)
    | with_reducible refine pc_some (show ZZ _ _ by assumption))
theorem pc_lt2 {y : Lay} {M : Mem} {c : Nat × Nat} {Q : Lay × Mem → Prop} {k : Lay → Mem → Option (Lay × Mem)} (h : ZZ y M) (hk : ∀ z N, ZZ z N → pc (k z N) Q) : pc (lt (psh y c) fun (y2 : Lay) => lt (zM M (y.2.2 + 1)) fun (N : Mem) => k y2 N) Q := hk _ _ (ZZ_psh c h)
theorem z_X9_init {y : Lay} {a0 : Nat} {M : Mem} (h : ZZ y M) : pc (f_X9_init y a0 M) QZ := by
  unfold f_X9_init QZ
  repeat' (first
    | with_reducible exact pc_none
    | with_reducible refine pc_gd (fun _ => ?_)
    | with_reducible refine pc_gK (fun _ => ?_)
    | with_reducible refine pc_gA (fun _ => ?_)
    | with_reducible refine pc_gN ?_
    | with_reducible refine pc_jn ?_
    | with_reducible refine pc_lt2 (by assumption) (fun _ _ _ => ?_)
    | with_reducible refine pc_lt (ZZ _) (ZZ_wA (by assumption) (by assumption)) (fun _ _ => ?_)
    | with_reducible refine pc_lt (ZZ _) (ZZ_wK (by assumption) (by assumption) (by decide)) (fun _ _ => ?_)
    | with_reducible refine pc_lt (ZZ _) (ZZ_R (by assumption)) (fun _ _ => ?_)
    | with_reducible refine pc_lt (fun z => ZZ z _) (ZZ_F (by assumption)) (fun _ _ => ?_)
    
    | with_reducible refine pc_some (show ZZ _ _ by assumption))
theorem z_X5_init {y : Lay} {a0 : Nat} {M : Mem} (h : ZZ y M) : pc (f_X5_init y a0 M) QZ := by
  unfold f_X5_init QZ
  repeat' (first
    | with_reducible exact pc_none
    | with_reducible refine pc_gd (fun _ => ?_)
    | with_reducible refine pc_gK (fun _ => ?_)
    | with_reducible refine pc_gA (fun _ => ?_)
    | with_reducible refine pc_gN ?_
    | with_reducible refine pc_jn ?_
    | with_reducible refine pc_lt2 (by assumption) (fun _ _ _ => ?_)
    | with_reducible refine pc_lt (ZZ _) (ZZ_wA (by assumption) (by assumption)) (fun _ _ => ?_)
    | with_reducible refine pc_lt (ZZ _) (ZZ_wK (by assumption) (by assumption) (by decide)) (fun _ _ => ?_)
    | with_reducible refine pc_lt (ZZ _) (ZZ_R (by assumption)) (fun _ _ => ?_)
    | with_reducible refine pc_lt (fun z => ZZ z _) (ZZ_F (by assumption)) (fun _ _ => ?_)
    
    | with_reducible refine pc_some (show ZZ _ _ by assumption))
theorem z_X1_init {y : Lay} {a0 : Nat} {M : Mem} (h : ZZ y M) : pc (f_X1_init y a0 M) QZ := by
  unfold f_X1_init QZ
  repeat' (first
    | with_reducible exact pc_none
    | with_reducible refine pc_gd (fun _ => ?_)
    | with_reducible refine pc_gK (fun _ => ?_)
    | with_reducible refine pc_gA (fun _ => ?_)
    | with_reducible refine pc_gN ?_
    | with_reducible refine pc_jn ?_
    | with_reducible refine pc_lt2 (by assumption) (fun _ _ _ => ?_)
    | with_reducible refine pc_lt (ZZ _) (ZZ_wA (by assumption) (by assumption)) (fun _ _ => ?_)
    | with_reducible refine pc_lt (ZZ _) (ZZ_wK (by assumption) (by assumption) (by decide)) (fun _ _ => ?_)
    | with_reducible refine pc_lt (ZZ _) (ZZ_R (by assumption)) (fun _ _ => ?_)
    | with_reducible refine pc_lt (fun z => ZZ z _) (ZZ_F (by assumption)) (fun _ _ => ?_)
    | with_reducible refine pc_ci QZ (z_X5_init (by assumption)) (fun _ _ _ => ?_) | with_reducible refine pc_c0 (fun o => ZZ _ o.2) (z_cbegin (by assumption)) (fun _ _ _ => ?_)
    | with_reducible refine pc_some (show ZZ _ _ by assumption))
theorem z_X8_init {y : Lay} {a0 : Nat} {a1 : Nat} {M : Mem} (h : ZZ y M) : pc (f_X8_init y a0 a1 M) QZ := by
  unfold f_X8_init QZ
  repeat' (first
    | with_reducible exact pc_none
    | with_reducible refine pc_gd (fun _ => ?_)
    | with_reducible refine pc_gK (fun _ => ?_)
    | with_reducible refine pc_gA (fun _ => ?_)
    | with_reducible refine pc_gN ?_
    | with_reducible refine pc_jn ?_
    | with_reducible refine pc_lt2 (by assumption) (fun _ _ _ => ?_)
    | with_reducible refine pc_lt (ZZ _) (ZZ_wA (by assumption) (by assumption)) (fun _ _ => ?_)
    | with_reducible refine pc_lt (ZZ _) (ZZ_wK (by assumption) (by assumption) (by decide)) (fun _ _ => ?_)
    | with_reducible refine pc_lt (ZZ _) (ZZ_R (by assumption)) (fun _ _ => ?_)
    | with_reducible refine pc_lt (fun z => ZZ z _) (ZZ_F (by assumption)) (fun _ _ => ?_)
    | with_reducible refine pc_c0 (fun o => ZZ _ o.2) (z_sbegin (by assumption)) (fun _ _ _ => ?_)
    | with_reducible refine pc_some (show ZZ _ _ by assumption))
theorem z_X10_init {y : Lay} {a0 : Nat} {a1 : Nat} {M : Mem} (h : ZZ y M) : pc (f_X10_init y a0 a1 M) QZ := by
  unfold f_X10_init QZ
  repeat' (first
    | with_reducible exact pc_none
    | with_reducible refine pc_gd (fun _ => ?_)
    | with_reducible refine pc_gK (fun _ => ?_)
    | with_reducible refine pc_gA (fun _ => ?_)
    | with_reducible refine pc_gN ?_
    | with_reducible refine pc_jn ?_
    | with_reducible refine pc_lt2 (by assumption) (fun _ _ _ => ?_)
    | with_reducible refine pc_lt (ZZ _) (ZZ_wA (by assumption) (by assumption)) (fun _ _ => ?_)
    | with_reducible refine pc_lt (ZZ _) (ZZ_wK (by assumption) (by assumption) (by decide)) (fun _ _ => ?_)
    | with_reducible refine pc_lt (ZZ _) (ZZ_R (by assumption)) (fun _ _ => ?_)
    | with_reducible refine pc_lt (fun z => ZZ z _) (ZZ_F (by assumption)) (fun _ _ => ?_)
    
    | with_reducible refine pc_some (show ZZ _ _ by assumption))
theorem z_X6_init {y : Lay} {a0 : Nat} {a1 : Nat} {a2 : Nat} {M : Mem} (h : ZZ y M) : pc (f_X6_init y a0 a1 a2 M) QZ := by
  unfold f_X6_init QZ
  repeat' (first
    | with_reducible exact pc_none
    | with_reducible refine pc_gd (fun _ => ?_)
    | with_reducible refine pc_gK (fun _ => ?_)
    | with_reducible refine pc_gA (fun _ => ?_)
    | with_reducible refine pc_gN ?_
    | with_reducible refine pc_jn ?_
    | with_reducible refine pc_lt2 (by assumption) (fun _ _ _ => ?_)
    | with_reducible refine pc_lt (ZZ _) (ZZ_wA (by assumption) (by assumption)) (fun _ _ => ?_)
    | with_reducible refine pc_lt (ZZ _) (ZZ_wK (by assumption) (by assumption) (by decide)) (fun _ _ => ?_)
    | with_reducible refine pc_lt (ZZ _) (ZZ_R (by assumption)) (fun _ _ => ?_)
    | with_reducible refine pc_lt (fun z => ZZ z _) (ZZ_F (by assumption)) (fun _ _ => ?_)
    
    | with_reducible refine pc_some (show ZZ _ _ by assumption))
theorem z_X2_init {y : Lay} {a0 : Nat} {a1 : Nat} {M : Mem} (h : ZZ y M) : pc (f_X2_init y a0 a1 M) QZ := by
  unfold f_X2_init QZ
  repeat' (first
    | with_reducible exact pc_none
    | with_reducible refine pc_gd (fun _ => ?_)
    | with_reducible refine pc_gK (fun _ => ?_)
    | with_reducible refine pc_gA (fun _ => ?_)
    | with_reducible refine pc_gN ?_
    | with_reducible refine pc_jn ?_
    | with_reducible refine pc_lt2 (by assumption) (fun _ _ _ => ?_)
    | with_reducible refine pc_lt (ZZ _) (ZZ_wA (by assumption) (by assumption)) (fun _ _ => ?_)
    | with_reducible refine pc_lt (ZZ _) (ZZ_wK (by assumption) (by assumption) (by decide)) (fun _ _ => ?_)
    | with_reducible refine pc_lt (ZZ _) (ZZ_R (by assumption)) (fun _ _ => ?_)
    | with_reducible refine pc_lt (fun z => ZZ z _) (ZZ_F (by assumption)) (fun _ _ => ?_)
    | with_reducible refine pc_ci QZ (z_X1_init (by assumption)) (fun _ _ _ => ?_) | with_reducible refine pc_ci QZ (z_X8_init (by assumption)) (fun _ _ _ => ?_) | with_reducible refine pc_ci QZ (z_X10_init (by assumption)) (fun _ _ _ => ?_) | with_reducible refine pc_ci QZ (z_X6_init (by assumption)) (fun _ _ _ => ?_)
    | with_reducible refine pc_some (show ZZ _ _ by assumption))
theorem z_X0_init {y : Lay} {a0 : Nat} {M : Mem} (h : ZZ y M) : pc (f_X0_init y a0 M) QZ := by
  unfold f_X0_init QZ
  repeat' (first
    | with_reducible exact pc_none
    | with_reducible refine pc_gd (fun _ => ?_)
    | with_reducible refine pc_gK (fun _ => ?_)
    | with_reducible refine pc_gA (fun _ => ?_)
    | with_reducible refine pc_gN ?_
    | with_reducible refine pc_jn ?_
    | with_reducible refine pc_lt2 (by assumption) (fun _ _ _ => ?_)
    | with_reducible refine pc_lt (ZZ _) (ZZ_wA (by assumption) (by assumption)) (fun _ _ => ?_)
    | with_reducible refine pc_lt (ZZ _) (ZZ_wK (by assumption) (by assumption) (by decide)) (fun _ _ => ?_)
    | with_reducible refine pc_lt (ZZ _) (ZZ_R (by assumption)) (fun _ _ => ?_)
    | with_reducible refine pc_lt (fun z => ZZ z _) (ZZ_F (by assumption)) (fun _ _ => ?_)
    
    | with_reducible refine pc_some (show ZZ _ _ by assumption))
theorem z_X4_init {y : Lay} {a0 : Nat} {a1 : Nat} {M : Mem} (h : ZZ y M) : pc (f_X4_init y a0 a1 M) QZ := by
  unfold f_X4_init QZ
  repeat' (first
    | with_reducible exact pc_none
    | with_reducible refine pc_gd (fun _ => ?_)
    | with_reducible refine pc_gK (fun _ => ?_)
    | with_reducible refine pc_gA (fun _ => ?_)
    | with_reducible refine pc_gN ?_
    | with_reducible refine pc_jn ?_
    | with_reducible refine pc_lt2 (by assumption) (fun _ _ _ => ?_)
    | with_reducible refine pc_lt (ZZ _) (ZZ_wA (by assumption) (by assumption)) (fun _ _ => ?_)
    | with_reducible refine pc_lt (ZZ _) (ZZ_wK (by assumption) (by assumption) (by decide)) (fun _ _ => ?_)
    | with_reducible refine pc_lt (ZZ _) (ZZ_R (by assumption)) (fun _ _ => ?_)
    | with_reducible refine pc_lt (fun z => ZZ z _) (ZZ_F (by assumption)) (fun _ _ => ?_)
    | with_reducible refine pc_ci QZ (z_X0_init (by assumption)) (fun _ _ _ => ?_) | with_reducible refine pc_ci QZ (z_X8_init (by assumption)) (fun _ _ _ => ?_)
    | with_reducible refine pc_some (show ZZ _ _ by assumption))
theorem z_X7_init {y : Lay} {a0 : Nat} {a1 : Nat} {M : Mem} (h : ZZ y M) : pc (f_X7_init y a0 a1 M) QZ := by
  unfold f_X7_init QZ
  repeat' (first
    | with_reducible exact pc_none
    | with_reducible refine pc_gd (fun _ => ?_)
    | with_reducible refine pc_gK (fun _ => ?_)
    | with_reducible refine pc_gA (fun _ => ?_)
    | with_reducible refine pc_gN ?_
    | with_reducible refine pc_jn ?_
    | with_reducible refine pc_lt2 (by assumption) (fun _ _ _ => ?_)
    | with_reducible refine pc_lt (ZZ _) (ZZ_wA (by assumption) (by assumption)) (fun _ _ => ?_)
    | with_reducible refine pc_lt (ZZ _) (ZZ_wK (by assumption) (by assumption) (by decide)) (fun _ _ => ?_)
    | with_reducible refine pc_lt (ZZ _) (ZZ_R (by assumption)) (fun _ _ => ?_)
    | with_reducible refine pc_lt (fun z => ZZ z _) (ZZ_F (by assumption)) (fun _ _ => ?_)
    
    | with_reducible refine pc_some (show ZZ _ _ by assumption))
theorem z_X3_init {y : Lay} {a0 : Nat} {M : Mem} (h : ZZ y M) : pc (f_X3_init y a0 M) QZ := by
  unfold f_X3_init QZ
  repeat' (first
    | with_reducible exact pc_none
    | with_reducible refine pc_gd (fun _ => ?_)
    | with_reducible refine pc_gK (fun _ => ?_)
    | with_reducible refine pc_gA (fun _ => ?_)
    | with_reducible refine pc_gN ?_
    | with_reducible refine pc_jn ?_
    | with_reducible refine pc_lt2 (by assumption) (fun _ _ _ => ?_)
    | with_reducible refine pc_lt (ZZ _) (ZZ_wA (by assumption) (by assumption)) (fun _ _ => ?_)
    | with_reducible refine pc_lt (ZZ _) (ZZ_wK (by assumption) (by assumption) (by decide)) (fun _ _ => ?_)
    | with_reducible refine pc_lt (ZZ _) (ZZ_R (by assumption)) (fun _ _ => ?_)
    | with_reducible refine pc_lt (fun z => ZZ z _) (ZZ_F (by assumption)) (fun _ _ => ?_)
    
    | with_reducible refine pc_some (show ZZ _ _ by assumption))
theorem z_X11_init {y : Lay} {a0 : Nat} {M : Mem} (h : ZZ y M) : pc (f_X11_init y a0 M) QZ := by
  unfold f_X11_init QZ
  repeat' (first
    | with_reducible exact pc_none
    | with_reducible refine pc_gd (fun _ => ?_)
    | with_reducible refine pc_gK (fun _ => ?_)
    | with_reducible refine pc_gA (fun _ => ?_)
    | with_reducible refine pc_gN ?_
    | with_reducible refine pc_jn ?_
    | with_reducible refine pc_lt2 (by assumption) (fun _ _ _ => ?_)
    | with_reducible refine pc_lt (ZZ _) (ZZ_wA (by assumption) (by assumption)) (fun _ _ => ?_)
    | with_reducible refine pc_lt (ZZ _) (ZZ_wK (by assumption) (by assumption) (by decide)) (fun _ _ => ?_)
    | with_reducible refine pc_lt (ZZ _) (ZZ_R (by assumption)) (fun _ _ => ?_)
    | with_reducible refine pc_lt (fun z => ZZ z _) (ZZ_F (by assumption)) (fun _ _ => ?_)
    | with_reducible refine pc_ci QZ (z_X9_init (by assumption)) (fun _ _ _ => ?_) | with_reducible refine pc_ci QZ (z_X1_init (by assumption)) (fun _ _ _ => ?_) | with_reducible refine pc_ci QZ (z_X2_init (by assumption)) (fun _ _ _ => ?_) | with_reducible refine pc_ci QZ (z_X4_init (by assumption)) (fun _ _ _ => ?_) | with_reducible refine pc_ci QZ (z_X8_init (by assumption)) (fun _ _ _ => ?_) | with_reducible refine pc_ci QZ (z_X7_init (by assumption)) (fun _ _ _ => ?_) | with_reducible refine pc_ci QZ (z_X3_init (by assumption)) (fun _ _ _ => ?_)
    | with_reducible refine pc_some (show ZZ _ _ by assumption))
theorem z_X12_init {y : Lay} {a0 : Nat} {M : Mem} (h : ZZ y M) : pc (f_X12_init y a0 M) QZ := by
  unfold f_X12_init QZ
  repeat' (first
    | with_reducible exact pc_none
    | with_reducible refine pc_gd (fun _ => ?_)
    | with_reducible refine pc_gK (fun _ => ?_)
    | with_reducible refine pc_gA (fun _ => ?_)
    | with_reducible refine pc_gN ?_
    | with_reducible refine pc_jn ?_
    | with_reducible refine pc_lt2 (by assumption) (fun _ _ _ => ?_)
    | with_reducible refine pc_lt (ZZ _) (ZZ_wA (by assumption) (by assumption)) (fun _ _ => ?_)
    | with_reducible refine pc_lt (ZZ _) (ZZ_wK (by assumption) (by assumption) (by decide)) (fun _ _ => ?_)
    | with_reducible refine pc_lt (ZZ _) (ZZ_R (by assumption)) (fun _ _ => ?_)
    | with_reducible refine pc_lt (fun z => ZZ z _) (ZZ_F (by assumption)) (fun _ _ => ?_)
    | with_reducible refine pc_c0 (fun o => ZZ _ o.2) (z_mbegin (by assumption)) (fun _ _ _ => ?_)
    | with_reducible refine pc_some (show ZZ _ _ by assumption))
/-! ===== their outcome, by evaluation ===== -/
def i1 : Option (Lay × Mem) := f_X11_init (psh y_0 (0, 11)) 1 (zM M_0 1)
def o1 : Lay × Mem := i1.getD (y_0, M_0)
def i2 : Option (Lay × Mem) := f_X12_init (psh o1.1 (0, 12)) 73 (zM o1.2 73)
def o2 : Lay × Mem := i2.getD (y_0, M_0)
def yS : Lay := psh o2.1 (3, 1)
def MZ : Mem := zM o2.2 110
