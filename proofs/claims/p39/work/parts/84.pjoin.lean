/-! ===== both sides at once ===== -/
def J {α β : Type} (X : Option α) (Z : Option β) (Q : α → β → Prop) : Prop := ∃ a b, X = some a ∧ Z = some b ∧ Q a b
section JC
variable {α β : Type} {Q : α → β → Prop} {X : Option α} {Z : Option β}
theorem J_s {a : α} {b : β} (h : Q a b) : J (some a) (some b) Q := ⟨a, b, rfl, rfl, h⟩
theorem J_mono {R : α → β → Prop} (h : J X Z R) (g : ∀ a b, R a b → Q a b) : J X Z Q := by
  obtain ⟨a, b, e, f, h⟩ := h
  exact ⟨a, b, e, f, g a b h⟩
theorem J_cc {R : Int32 × Mem → Int32 × Mem → Prop} {A B : Option (Int32 × Mem)} {k : Int32 → Mem → Option α} {l : Int32 → Mem → Option β} (h : J A B R) (g : ∀ r M s N, R (r, M) (s, N) → J (k r M) (l s N) Q) : J (c0 A k) (c0 B l) Q := by
  obtain ⟨⟨r, M⟩, ⟨s, N⟩, e, f, h⟩ := h
  rw [e, f]
  exact g r M s N h
theorem J_lc {R : Int32 × Mem → Prop} {A : Option (Int32 × Mem)} {k : Int32 → Mem → Option α} (h : wp A R) (g : ∀ r M, R (r, M) → J (k r M) Z Q) : J (c0 A k) Z Q := by
  obtain ⟨⟨r, M⟩, e, h⟩ := h
  rw [e]
  exact g r M h
theorem J_rc {R : Int32 × Mem → Prop} {A : Option (Int32 × Mem)} {k : Int32 → Mem → Option β} (h : wp A R) (g : ∀ r M, R (r, M) → J X (k r M) Q) : J X (c0 A k) Q := by
  obtain ⟨⟨r, M⟩, e, h⟩ := h
  rw [e]
  exact g r M h
theorem J_lj {κ : Type} {K : κ} {b : κ → Option α} (h : J (b K) Z Q) : J (jn K b) Z Q := h
theorem J_rj {κ : Type} {K : κ} {b : κ → Option β} (h : J X (b K) Q) : J X (jn K b) Q := h
theorem J_ll {κ : Type} {K : κ} {b : κ → Option α} (h : J (b K) Z Q) : J (lt K b) Z Q := h
theorem J_rl {κ : Type} {K : κ} {b : κ → Option β} (h : J X (b K) Q) : J X (lt K b) Q := h
theorem J_lt {P : Prop} [Decidable P] {a b : Option α} (h : P) (g : J a Z Q) : J (br P a b) Z Q := by rw [bR_t h]; exact g
theorem J_lf {P : Prop} [Decidable P] {a b : Option α} (h : ¬ P) (g : J b Z Q) : J (br P a b) Z Q := by rw [bR_f h]; exact g
theorem J_rt {P : Prop} [Decidable P] {a b : Option β} (h : P) (g : J X a Q) : J X (br P a b) Q := by rw [bR_t h]; exact g
theorem J_rf {P : Prop} [Decidable P] {a b : Option β} (h : ¬ P) (g : J X b Q) : J X (br P a b) Q := by rw [bR_f h]; exact g
theorem J_lg {P : Prop} [Decidable P] {a : Option α} (h : P) (g : J a Z Q) : J (gd P a) Z Q := by rw [gd_t h]; exact g
theorem J_rg {P : Prop} [Decidable P] {a : Option β} (h : P) (g : J X a Q) : J X (gd P a) Q := by rw [gd_t h]; exact g
/-- two loops: the class counts, both go over the text -/
theorem J_loop {b1 : Int32 → Mem → Option α} {b2 : Mem → Option β} {F : (Int32 → Mem → Option α) → Int32 → Mem → Option α} {G : (Mem → Option β) → Mem → Option β} (I : Nat → Nat → Mem → Mem → Prop) (K : Nat) (hK : K < FUEL) {p0 n0 : Nat} {M0 N0 : Mem} {c : Int32} (hc : c = n2 n0) (h0 : p0 ≤ K ∧ I p0 n0 M0 N0) (hs : ∀ f g p n M N, p ≤ K → I p n M N → (∀ p' M' N', p < p' → p' ≤ K → I p' (n + 1) M' N' → J (f (n2 (n + 1)) M') (g N') Q) → J (F f (n2 n) M) (G g N) Q) : J (fixN b1 F FUEL c M0) (fixN b2 G FUEL N0) Q := by
  subst hc
  have key : ∀ m p n M N, K - p < m → p ≤ K → I p n M N → J (fixN b1 F m (n2 n) M) (fixN b2 G m N) Q := by
    intro m
    induction m with
    | zero => intro p n M N h; exact absurd h (Nat.not_lt_zero _)
    | succ m ih =>
      intro p n M N h1 h2 h3
      exact hs _ _ p n M N h2 h3 (fun p' M' N' h4 h5 h6 => ih p' (n + 1) M' N' (by omega) h5 h6)
  exact key FUEL p0 n0 M0 N0 (by omega) h0.1 h0.2
/-- both count -/
theorem J_loop2 {b1 : Int32 → Mem → Option α} {b2 : Int32 → Mem → Option β} {F : (Int32 → Mem → Option α) → Int32 → Mem → Option α} {G : (Int32 → Mem → Option β) → Int32 → Mem → Option β} (I : Nat → Nat → Mem → Mem → Prop) (K : Nat) (hK : K < FUEL) {p0 n0 : Nat} {M0 N0 : Mem} {c d : Int32} (hc : c = n2 n0) (hd : d = n2 n0) (h0 : p0 ≤ K ∧ I p0 n0 M0 N0) (hs : ∀ f g p n M N, p ≤ K → I p n M N → (∀ p' M' N', p < p' → p' ≤ K → I p' (n + 1) M' N' → J (f (n2 (n + 1)) M') (g (n2 (n + 1)) N') Q) → J (F f (n2 n) M) (G g (n2 n) N) Q) : J (fixN b1 F FUEL c M0) (fixN b2 G FUEL d N0) Q := by
  subst hc
  subst hd
  have key : ∀ m p n M N, K - p < m → p ≤ K → I p n M N → J (fixN b1 F m (n2 n) M) (fixN b2 G m (n2 n) N) Q := by
    intro m
    induction m with
    | zero => intro p n M N h; exact absurd h (Nat.not_lt_zero _)
    | succ m ih =>
      intro p n M N h1 h2 h3
      exact hs _ _ p n M N h2 h3 (fun p' M' N' h4 h5 h6 => ih p' (n + 1) M' N' (by omega) h5 h6)
  exact key FUEL p0 n0 M0 N0 (by omega) h0.1 h0.2
end JC
theorem wp_gN {β : Type} {Q : β → Prop} {r : Nat} {k : Option β} (h : ¬ r = 0) (g : wp k Q) : wp (gN r k) Q := by rw [gN_t h]; exact g
/-! a rule as it is read: dyes or fades -/
def ro (e : Bool) : Nat := if e = true then 15 else 18
def co (e : Bool) : Nat := if e = true then 16 else 19
def lf (e : Bool) : Nat := if e = true then 15 else 16
def sg (e : Bool) : Nat := if e = true then 82 else 83
def tb (e : Bool) : Nat := if e = true then 75 else 76
def mm (e : Bool) : Nat := if e = true then 6 else 4
def de (e : Bool) : Int32 := if e = true then 1 else 0
def fe (e : Bool) : Int32 := if e = true then 0 else 1
theorem k_ro {y : Lay} (hy : LY y) (e : Bool) : kd y (ro e) = (0, 5) := by cases e; exact k_18 hy; exact k_15 hy
theorem k_co {y : Lay} (hy : LY y) (e : Bool) : kd y (co e) = (1, 700) := by cases e; exact k_19 hy; exact k_16 hy
theorem r_ro {y : Lay} (hy : LY y) (e : Bool) : y.2.1 (ro e) 0 = co e := by cases e; exact r_18_0 hy; exact r_15_0 hy
theorem k_sg {y : Lay} (hy : LY y) (e : Bool) : kd y (sg e) = (1, 1400) := by cases e; exact k_83 hy; exact k_82 hy
theorem WFP0 : True := trivial
def WFP (m : Nat) (C : Row) (L d : Nat) : Prop := (∀ i, i < L → okC m (C i) ∧ (C i = -13 → 1 ≤ dpt C i) ∧ (isB (C i) = true → 2 ≤ dpt C i) ∧ dpt C i < 40) ∧ dpt C L = d
theorem dpt_eq {C D : Row} : ∀ n, (∀ i, i < n → D i = C i) → dpt D n = dpt C n := by
  intro n
  induction n with
  | zero => intro _; rfl
  | succ n ih =>
    intro h
    show (if D n = -13 then dpt D n else if isB (D n) = true then dpt D n - 1 else dpt D n + 1) = (if C n = -13 then dpt C n else if isB (C n) = true then dpt C n - 1 else dpt C n + 1)
    rw [ih (fun i hi => h i (by omega)), h n (by omega)]
theorem WFP.push {m : Nat} {C : Row} {L d d' : Nat} {c : Int32} (h : WFP m C L d) (hd : d < 40) (hc : okC m c) (h1 : c = -13 → 1 ≤ d ∧ d' = d) (h2 : ¬ c = -13 → isB c = true → 2 ≤ d ∧ d' = d - 1) (h3 : ¬ c = -13 → ¬ isB c = true → d' = d + 1) (h4 : isB (-13) = false) : WFP m (up C L c) (L + 1) d' := by
  have e : ∀ i, i ≤ L → dpt (up C L c) i = dpt C i := fun i hi => dpt_eq i (fun j hj => up_ne (by omega))
  refine ⟨fun i hi => ?_, ?_⟩
  · rw [e i (by omega)]
    by_cases q : i = L
    · subst q
      rw [up_eq, h.2]
      refine ⟨hc, fun w => (h1 w).1, fun w => ?_, hd⟩
      by_cases z : c = -13
      · rw [z, h4] at w; exact absurd w (by decide)
      · exact (h2 z w).1
    · rw [up_ne q]
      exact h.1 i (by omega)
  · show (if up C L c L = -13 then dpt (up C L c) L else if isB (up C L c L) = true then dpt (up C L c) L - 1 else dpt (up C L c) L + 1) = d'
    rw [e L (Nat.le_refl _), up_eq, h.2]
    by_cases z : c = -13
    · rw [if_pos z]; exact (h1 z).2.symm
    · rw [if_neg z]
      by_cases w : isB c = true
      · rw [if_pos w]; exact (h2 z w).2.symm
      · rw [if_neg w]; exact (h3 z w).symm
def EC (e : Bool) (T : Tx) (M0 : Mem) (p L : Nat) (C : Row) (M : Mem) : Prop := TC T M p ∧ M.1 28 6 = 0 ∧ (Eqx [28, ro e, co e] M0 M ∧ M0.2.2 29 1 = ro e ∧ M0.1 29 2 = de e) ∧ M.1 (ro e) 2 = n2 L ∧ ∀ i, i < L → M.1 (co e) i = C i
def FMe (e : Bool) (N0 N : Mem) : Prop := Eqx [73, 77, sg e] N0 N ∧ (∀ f, f < 16 ∨ f = 17 ∨ 24 ≤ f → N.1 73 f = N0.1 73 f) ∧ (∀ f, ¬ f = lf e → N.1 77 f = N0.1 77 f) ∧ ∀ k, k < 700 → N.1 (sg e) k = N0.1 (sg e) k
def EM (e : Bool) (T : Tx) (N0 : Mem) (p L : Nat) (C : Row) (N : Mem) : Prop := TM T N p ∧ N.1 73 22 = 0 ∧ (FMe e N0 N ∧ N0.2.2 73 3 = tb e ∧ N0.1 73 27 = fe e) ∧ N.1 77 (lf e) = n2 L ∧ ∀ i, i < L → N.1 (sg e) (700 + i) = mc (C i)
theorem TC.frame {T : Tx} {M N : Mem} {p : Nat} (h : TC T M p) (a : N.1 28 = M.1 28) (b : N.1 2 = M.1 2) (c : N.1 3 = M.1 3) : TC T N p := by
  unfold TC TXC at h ⊢
  rw [a, b, c]
  exact h
theorem TM.frame {T : Tx} {M N : Mem} {p : Nat} (h : TM T M p) (a : N.1 73 = M.1 73) (b : N.1 86 = M.1 86) : TM T N p := by
  unfold TM TXM at h ⊢
  rw [a, b]
  exact h
theorem EC.ref {e : Bool} {T : Tx} {M0 M : Mem} {p L : Nat} {C : Row} (h : EC e T M0 p L C M) : M.2.2 29 1 = ro e := by rw [h.2.2.1.1.1]; exact h.2.2.1.2.1
theorem EC.dy {e : Bool} {T : Tx} {M0 M : Mem} {p L : Nat} {C : Row} (h : EC e T M0 p L C M) : M.1 29 2 = de e := by rw [h.2.2.1.1.2 29 (by cases e <;> decide)]; exact h.2.2.1.2.2
theorem ro_n0 (e : Bool) : ¬ ro e = 0 := by cases e <;> decide
theorem co_n0 (e : Bool) : ¬ co e = 0 := by cases e <;> decide
theorem sg_n0 (e : Bool) : ¬ sg e = 0 := by cases e <;> decide
theorem put_c {y : Lay} (hy : LY y) {e : Bool} {T : Tx} {M0 M : Mem} {p L : Nat} {C : Row} (h : EC e T M0 p L C M) (hL : L < 700) (c : Int32) : wp (f_X5_put y (ro e) c M) (fun o => EC e T M0 p (L + 1) (up C L c) o.2) := by
  obtain ⟨h1, h2, ⟨h3, h3', h3''⟩, h4, h5⟩ := h
  have d1 : ¬ ro e = co e := by cases e <;> decide
  have d2 : ¬ 28 = ro e ∧ ¬ 28 = co e := by cases e <;> decide
  have d3 : ¬ 2 = ro e ∧ ¬ 2 = co e ∧ ¬ 3 = ro e ∧ ¬ 3 = co e := by cases e <;> decide
  unfold f_X5_put
  rw [gK_t (k_ro hy e), h4]
  refine wp_jn (wp_brf (n2_n0 (by omega)) ?_)
  rw [r_ro hy, gN_t (co_n0 e), gT_t (by rw [k_co hy])]
  refine wp_brf (by rw [k_co hy]; show ¬ n2 700 ≤ n2 L; rw [n2_le (by decide) (by omega)]; omega) ?_
  rw [gA_n (k_co hy e) hL (by omega)]
  refine wp_lt (wp_lt ?_)
  rw [n2_nat (by omega), wI_sr, wI_sr, sr_1, if_neg d1, h4, n2_s]
  refine wp_some ⟨?_, ?_, ⟨(h3.sr (by cases e <;> decide)).sr (by cases e <;> decide), h3', h3''⟩, ?_, fun i hi => ?_⟩
  · refine h1.frame ?_ ?_ ?_
    · rw [sr_1, if_neg d2.1, sr_1, if_neg d2.2]
    · rw [sr_1, if_neg d3.1, sr_1, if_neg d3.2.1]
    · rw [sr_1, if_neg d3.2.2.1, sr_1, if_neg d3.2.2.2]
  · rw [sr_1, if_neg d2.1, sr_1, if_neg d2.2]; exact h2
  · rw [sr_ap, up_eq]
  · rw [sr_1, if_neg (Ne.symm d1), sr_ap]
    by_cases q : i = L
    · rw [q, up_eq, up_eq]
    · rw [up_ne q, up_ne q]; exact h5 i (by omega)
theorem lay_m {y : Lay} (hy : LY y) {e : Bool} {T : Tx} {N0 N : Mem} {p L : Nat} {C : Row} (h : EM e T N0 p L C N) (hL : L < 700) (c : Int32) : wp (f_X12_lay y 73 (mc c) N) (fun o => EM e T N0 p (L + 1) (up C L c) o.2) := by
  obtain ⟨h1, h2, ⟨⟨h3, h3a, h3b, h3c⟩, h3', h3''⟩, h4, h5⟩ := h
  have d1 : ¬ 77 = sg e := by cases e <;> decide
  have d2 : ¬ 73 = sg e ∧ ¬ 86 = sg e := by cases e <;> decide
  have d4 : lf e < 18 := by cases e <;> decide
  have g27 : N.1 73 27 = fe e := by rw [h3a 27 (by omega)]; exact h3''
  have fin : ∀ k : Nat, k + 9 = lf e → wp (lt ((9 : Int32) + n2 k) fun (v6 : Int32) => gN 77 (gA y 77 1 v6 (gA y (sg e) 1 ((700 : Int32) + (N.1 77 v6.toNatClampNeg)) (lt (wI N (sg e) ((700 : Int32) + (N.1 77 v6.toNatClampNeg)).toNatClampNeg (mc c)) fun (M12 : Mem) => gA y 77 1 v6 (gA y 77 1 v6 (lt (wI M12 77 v6.toNatClampNeg ((M12.1 77 v6.toNatClampNeg) + (1 : Int32))) fun (M15 : Mem) => some ((0 : Int32), M15))))))) (fun o => EM e T N0 p (L + 1) (up C L c) o.2) := by
    intro k hk
    refine wp_lt ?_
    rw [show (9 : Int32) = n2 9 from rfl, n2_add, show 9 + k = lf e by omega, gN_t (by decide), gA_n (k_77 hy) d4 (by omega), n2_nat (by omega), h4, show (700 : Int32) = n2 700 from rfl, n2_add, gA_n (k_sg hy e) (by omega) (by omega), n2_nat (by omega)]
    refine wp_lt ?_
    rw [gA_n (k_77 hy) d4 (by omega), gA_n (k_77 hy) d4 (by omega)]
    refine wp_lt ?_
    rw [wI_sr, wI_sr, sr_1, if_neg d1, h4, n2_s]
    refine wp_some ⟨?_, ?_, ⟨⟨(h3.sr (by cases e <;> decide)).sr (by cases e <;> decide), fun f hf => ?_, fun f hf => ?_, fun k hk => ?_⟩, h3', h3''⟩, ?_, fun i hi => ?_⟩
    · refine h1.frame ?_ ?_
      · rw [sr_1, if_neg (by decide), sr_1, if_neg d2.1]
      · rw [sr_1, if_neg (by decide), sr_1, if_neg d2.2]
    · rw [sr_1, if_neg (by decide), sr_1, if_neg d2.1]; exact h2
    · rw [sr_1, if_neg (by decide), sr_1, if_neg d2.1]; exact h3a f hf
    · rw [sr_ap, up_ne hf]; exact h3b f hf
    · rw [sr_1, if_neg (Ne.symm d1), sr_ap, up_ne (by omega)]; exact h3c k hk
    · rw [sr_ap, up_eq]
    · rw [sr_1, if_neg (Ne.symm d1), sr_ap]
      by_cases q : i = L
      · rw [q, up_eq, up_eq]
      · rw [up_ne (by omega), up_ne q]; exact h5 i (by omega)
  unfold f_X12_lay
  rw [gK_t (k_73 hy), r_73_5 hy, r_73_10 hy, r_73_11 hy]
  refine wp_brt h2 (wp_jn ?_)
  rw [g27]
  cases e with
  | true => exact wp_brt rfl (wp_jn (wp_brt rfl (wp_gN (by decide) (fin 6 rfl))))
  | false => exact wp_brf (by decide) (wp_jn (wp_brf (by decide) (wp_gN (by decide) (fin 7 rfl))))
