/-! ===== views, skies kept, what both sides hold ===== -/
abbrev sB (S : Sk) : Row := S.1
abbrev sSp (S : Sk) : Row := S.2.1
abbrev sSk (S : Sk) : Row := S.2.2.1
abbrev sPg (S : Sk) : Int32 := S.2.2.2.1
abbrev sRs (S : Sk) : Int32 := S.2.2.2.2.1
abbrev sKn (S : Sk) : Int32 := S.2.2.2.2.2.1
abbrev sMa (S : Sk) : Int32 := S.2.2.2.2.2.2.1
abbrev sDy (S : Sk) : Int32 := S.2.2.2.2.2.2.2.1
abbrev sOv (S : Sk) : Int32 := S.2.2.2.2.2.2.2.2
/-- but what was overdone -/
def vo (S : Sk) : Sk := (sB S, sSp S, sSk S, sPg S, sRs S, sKn S, sMa S, sDy S, 0)
/-- with other skills -/
def vk (S : Sk) (sk : Row) : Sk := (sB S, sSp S, sk, sPg S, sRs S, sKn S, sMa S, sDy S, 0)
theorem pDay_vo (K : KG) (S : Sk) : pDay K (vo S) = pDay K S := rfl
theorem vo_vo (S : Sk) : vo (vo S) = vo S := rfl
def pDays (K : KG) (S : Sk) (d : Nat) : Sk := it (fun _ => pDay K) S d
theorem pDays_s (K : KG) (S : Sk) (d : Nat) : pDays K S (d + 1) = pDay K (pDays K S d) := rfl
theorem pDays_vo (K : KG) (S : Sk) (d : Nat) : vo (pDays K (vo S) d) = vo (pDays K S d) := by
  cases d with
  | zero => rfl
  | succ d =>
    have key : ∀ d, pDays K (vo S) (d + 1) = pDays K S (d + 1) := by
      intro d
      induction d with
      | zero => rfl
      | succ d ih => rw [pDays_s, ih, ← pDays_s]
    rw [key]
theorem vo_pDay {K : KG} {S T : Sk} (h : vo S = vo T) : pDay K S = pDay K T := by
  rw [← pDay_vo, h, pDay_vo]
theorem vo_pDays {K : KG} {S T : Sk} (h : vo S = vo T) : ∀ d, 0 < d → pDays K S d = pDays K T d := by
  intro d
  induction d with
  | zero => intro h; omega
  | succ d ih =>
    intro _
    rw [pDays_s, pDays_s]
    by_cases q : 0 < d
    · rw [ih q]
    · have : d = 0 := by omega
      subst this
      exact vo_pDay h
/-- the sky's own -/
def AOK (K : KG) (S : Sk) : Prop := SOK K S ∧ ∃ d, d ≤ 999 ∧ sDy S = n2 d
theorem SOK_vo {K : KG} {S : Sk} (h : SOK K S) : SOK K (vo S) := h
theorem SOK.eqo {K : KG} {S T : Sk} (h : SOK K S) (e : vo S = vo T) : SOK K T := by
  have h1 : SOK K (vo S) := h
  rw [e] at h1
  exact h1
theorem AOK.eqo {K : KG} {S T : Sk} (h : AOK K S) (e : vo S = vo T) : AOK K T := by
  have h1 : AOK K (vo S) := h
  rw [e] at h1
  exact h1
theorem SOK.b {K : KG} {S : Sk} (hK : KOK K) (h : SOK K S) : ∀ k, 30 ≤ k → sB S k = 0 := fun k hk => h.1.1.2 k (Nat.le_trans hK.n30 hk)
theorem SOK.sp {K : KG} {S : Sk} (h : SOK K S) : ∀ k, 6 ≤ k → sSp S k = 0 := h.2.1.2
theorem SOK.sk {K : KG} {S : Sk} (h : SOK K S) : ∀ k, 6 ≤ k → sSk S k = 0 := h.2.2.1.2
/-- kept skies, class and model -/
def PKC (R : Row) (f : Nat) (S : Sk) : Prop := (R (f + 36) = sPg S ∧ R (f + 37) = sRs S ∧ R (f + 38) = sKn S ∧ R (f + 39) = sMa S ∧ R (f + 40) = sDy S) ∧ (∀ k, k < 30 → R (f + k) = sB S k) ∧ ∀ k, k < 6 → R (f + 30 + k) = sSp S k
def PKD (R : Row) (f : Nat) (S : Sk) : Prop := (R f = sDy S ∧ R (f + 1) = sKn S ∧ R (f + 2) = sMa S ∧ R (f + 3) = sPg S ∧ R (f + 4) = sRs S) ∧ (∀ k, k < 30 → R (f + 5 + k) = sB S k) ∧ ∀ k, k < 6 → R (f + 35 + k) = sSp S k
theorem PKC.frame {R R' : Row} {f g : Nat} {S : Sk} (h : PKC R f S) (e : ∀ k, k < 41 → R' (g + k) = R (f + k)) : PKC R' g S := by
  obtain ⟨⟨a, b, c, d, i⟩, h2, h3⟩ := h
  refine ⟨⟨?_, ?_, ?_, ?_, ?_⟩, fun k hk => ?_, fun k hk => ?_⟩
  · rw [e 36 (by decide)]; exact a
  · rw [e 37 (by decide)]; exact b
  · rw [e 38 (by decide)]; exact c
  · rw [e 39 (by decide)]; exact d
  · rw [e 40 (by decide)]; exact i
  · rw [e k (by omega)]; exact h2 k hk
  · rw [show g + 30 + k = g + (30 + k) by omega, e (30 + k) (by omega), show f + (30 + k) = f + 30 + k by omega]; exact h3 k hk
theorem PKD.frame {R R' : Row} {f g : Nat} {S : Sk} (h : PKD R f S) (e : ∀ k, k < 41 → R' (g + k) = R (f + k)) : PKD R' g S := by
  obtain ⟨⟨a, b, c, d, i⟩, h2, h3⟩ := h
  refine ⟨⟨?_, ?_, ?_, ?_, ?_⟩, fun k hk => ?_, fun k hk => ?_⟩
  · have := e 0 (by decide); rw [Nat.add_zero, Nat.add_zero] at this; rw [this]; exact a
  · rw [e 1 (by decide)]; exact b
  · rw [e 2 (by decide)]; exact c
  · rw [e 3 (by decide)]; exact d
  · rw [e 4 (by decide)]; exact i
  · rw [show g + 5 + k = g + (5 + k) by omega, e (5 + k) (by omega), show f + (5 + k) = f + 5 + k by omega]; exact h2 k hk
  · rw [show g + 35 + k = g + (35 + k) by omega, e (35 + k) (by omega), show f + (35 + k) = f + 35 + k by omega]; exact h3 k hk
/-! all that a script can tell: kept acts; seen; a memory; the whole -/
abbrev Ac : Type := Nat × (Nat → Sk)
abbrev Sn : Type := Nat × Row × Row × Row
abbrev Mm : Type := Sk × Ac × Sn × Row
abbrev St : Type := KG × Mm × (Bool × Mm) × (Nat × Row) × Int32
abbrev aK (A : St) : KG := A.1
abbrev aM (A : St) : Mm := A.2.1
abbrev aS (A : St) : Sk := A.2.1.1
abbrev aI (A : St) : Bool × Mm := A.2.2.1
abbrev aT (A : St) : Nat × Row := A.2.2.2.1
abbrev aF (A : St) : Int32 := A.2.2.2.2
def NOK (K : KG) (s : Sn) : Prop := s.1 ≤ 8 ∧ ∀ k, k < s.1 → (∃ c, c < kn K ∧ s.2.1 k = n2 c) ∧ (∃ d, d ≤ 20 ∧ s.2.2.1 k = n2 d) ∧ ∃ b, b ≤ 99 ∧ s.2.2.2 k = n2 b
def MOK (K : KG) (m : Mm) : Prop := AOK K m.1 ∧ (m.2.1.1 ≤ 40 ∧ ∀ j, j < m.2.1.1 → AOK K (m.2.1.2 j)) ∧ NOK K m.2.2.1
/-- what always holds -/
def VAL (A : St) : Prop := KOK (aK A) ∧ MOK (aK A) (aM A) ∧ ((aI A).1 = true → MOK (aK A) (aI A).2 ∧ sSk (aI A).2.1 = sSk (aS A)) ∧ (aT A).1 ≤ 700 ∧ ∀ k, k < (aT A).1 → ∃ v, v < 256 ∧ (aT A).2 k = n2 v
/-- rows of the class beyond their ends -/
def ZR (M : Mem) (b sp sk : Nat) : Prop := (∀ k, 30 ≤ k → M.1 b k = 0) ∧ (∀ k, 6 ≤ k → M.1 sp k = 0) ∧ ∀ k, 6 ≤ k → M.1 sk k = 0
/-- a memory of the class: its row, sky, acts, what is seen, status -/
def CMM (M : Mem) (mm s b sp sk a r sc sd sb st : Nat) (m : Mm) : Prop := vo (skV M s b sp sk) = vo m.1 ∧ (M.1 a 1 = n2 m.2.1.1 ∧ ∀ j, j < m.2.1.1 → PKC (M.1 r) (41 * j) (m.2.1.2 j)) ∧ (M.1 mm 6 = n2 m.2.2.1.1 ∧ ∀ k, k < m.2.2.1.1 → M.1 sc k = m.2.2.1.2.1 k ∧ M.1 sd k = m.2.2.1.2.2.1 k ∧ M.1 sb k = m.2.2.1.2.2.2 k) ∧ ∀ k, k < 3 → M.1 st k = m.2.2.2 k
def CPR (M : Mem) (m : Mm) : Prop := CMM M 30 37 38 41 42 31 32 33 34 35 36 m
def CPI (M : Mem) (m : Mm) : Prop := CMM M 44 51 52 55 56 45 46 47 48 49 50 m
def CTP (M : Mem) (t : Nat × Row) : Prop := M.1 2 1 = n2 t.1 ∧ ∀ k, k < t.1 → M.1 3 k &&& 255 = t.2 k
/-- the class holds it -/
def CR (A : St) (M : Mem) : Prop := COA (aK A) M ∧ CPR M (aM A) ∧ (ZR M 52 55 56 ∧ ZR M 59 62 63) ∧ (M.1 1 11 = (if (aI A).1 = true then 1 else 0) ∧ ((aI A).1 = true → CPI M (aI A).2)) ∧ CTP M (aT A) ∧ M.1 1 12 = aF A
/-- a memory of the model -/
def MPR (M : Mem) (m : Mm) : Prop := vo (moV M) = vo m.1 ∧ (M.1 73 36 = n2 m.2.1.1 ∧ ∀ j, j < m.2.1.1 → PKD (M.1 89) (41 * j) (m.2.1.2 j)) ∧ (M.1 73 37 = n2 m.2.2.1.1 ∧ ∀ k, k < m.2.2.1.1 → M.1 97 k = m.2.2.1.2.1 k ∧ M.1 98 k = m.2.2.1.2.2.1 k ∧ M.1 99 k = m.2.2.1.2.2.2 k) ∧ ∀ k, k < 3 → M.1 84 k = m.2.2.2 k
def MPI (M : Mem) (m : Mm) : Prop := PKD (M.1 104) 0 m.1 ∧ (M.1 73 56 = n2 m.2.1.1 ∧ ∀ j, j < m.2.1.1 → PKD (M.1 105) (41 * j) (m.2.1.2 j)) ∧ (M.1 73 57 = n2 m.2.2.1.1 ∧ ∀ k, k < m.2.2.1.1 → M.1 106 k = m.2.2.1.2.1 k ∧ M.1 107 k = m.2.2.1.2.2.1 k ∧ M.1 108 k = m.2.2.1.2.2.2 k) ∧ ∀ k, k < 3 → M.1 109 k = m.2.2.2 k
/-- the model holds it -/
def MR (A : St) (M : Mem) : Prop := COM (aK A) M ∧ MPR M (aM A) ∧ (M.1 73 55 = (if (aI A).1 = true then 1 else 0) ∧ ((aI A).1 = true → MPI M (aI A).2)) ∧ (M.1 73 15 = n2 (aT A).1 ∧ ∀ k, k < (aT A).1 → M.1 86 k = (aT A).2 k) ∧ M.1 73 24 = aF A
/-! frames -/
def kC1 (M N : Mem) : Prop := ∀ p, p < 73 → N.1 p = M.1 p
def kC (M N : Mem) : Prop := N.2.1 = M.2.1 ∧ kC1 M N
def kM (M N : Mem) : Prop := ∀ p, 73 ≤ p → N.1 p = M.1 p
theorem kM.trans {M N P : Mem} (h : kM M N) (g : kM N P) : kM M P := fun p hp => (g p hp).trans (h p hp)
theorem kC.trans {M N P : Mem} (h : kC M N) (g : kC N P) : kC M P := ⟨g.1.trans h.1, fun p hp => (g.2 p hp).trans (h.2 p hp)⟩
theorem kM.refl (M : Mem) : kM M M := fun _ _ => rfl
theorem kC.refl (M : Mem) : kC M M := ⟨rfl, fun _ _ => rfl⟩
theorem Eqx.kM {ps : List Nat} {M N : Mem} (h : Eqx ps M N) (d : ps.all (fun p => decide (p < 73)) = true) : kM M N := fun p hp => h.2 p (fun q => by
  have := of_decide_eq_true (List.all_eq_true.mp d p q)
  omega)
theorem Eqx.kC {ps : List Nat} {M N : Mem} (h : Eqx ps M N) (d : ps.all (fun p => decide (73 ≤ p)) = true) : kC M N := ⟨congrArg Prod.fst h.1, fun p hp => h.2 p (fun q => by
  have := of_decide_eq_true (List.all_eq_true.mp d p q)
  omega)⟩
theorem CMM.frame {M N : Mem} {mm s b sp sk a r sc sd sb st : Nat} {m : Mm} (h : CMM M mm s b sp sk a r sc sd sb st m) (e : ∀ p, p ∈ [mm, s, b, sp, sk, a, r, sc, sd, sb, st] → N.1 p = M.1 p) : CMM N mm s b sp sk a r sc sd sb st m := by
  unfold CMM skV at h ⊢
  rw [e mm (by simp), e s (by simp), e b (by simp), e sp (by simp), e sk (by simp), e a (by simp), e r (by simp), e sc (by simp), e sd (by simp), e sb (by simp), e st (by simp)]
  exact h
theorem CR.kC1 {A : St} {M N : Mem} (h : CR A M) (e : kC1 M N) : CR A N := by
  obtain ⟨h1, h2, h3, h4, h5, h6⟩ := h
  refine ⟨h1.frame (e 4 (by decide)) (e 5 (by decide)) (e 6 (by decide)) (e 7 (by decide)) (e 9 (by decide)) (e 10 (by decide)), CMM.frame h2 (fun p hp => e p ?_), ?_, ?_, ?_, ?_⟩
  · simp only [List.mem_cons, List.not_mem_nil, or_false] at hp; omega
  · unfold ZR at h3 ⊢
    rw [e 52 (by decide), e 55 (by decide), e 56 (by decide), e 59 (by decide), e 62 (by decide), e 63 (by decide)]
    exact h3
  · rw [e 1 (by decide)]
    refine ⟨h4.1, fun q => CMM.frame (h4.2 q) (fun p hp => e p ?_)⟩
    simp only [List.mem_cons, List.not_mem_nil, or_false] at hp; omega
  · unfold CTP at h5 ⊢
    rw [e 2 (by decide), e 3 (by decide)]
    exact h5
  · rw [e 1 (by decide)]; exact h6
theorem CR.kC {A : St} {M N : Mem} (h : CR A M) (e : kC M N) : CR A N := h.kC1 e.2
theorem MR.kM {A : St} {M N : Mem} (h : MR A M) (e : kM M N) : MR A N := by
  unfold MR MPR MPI moV at h ⊢
  rw [e 73 (by decide), e 84 (by decide), e 85 (by decide), e 86 (by decide), e 87 (by decide), e 88 (by decide), e 89 (by decide), e 97 (by decide), e 98 (by decide), e 99 (by decide), e 104 (by decide), e 105 (by decide), e 106 (by decide), e 107 (by decide), e 108 (by decide), e 109 (by decide)]
  exact ⟨h.1.frame (e 77 (by decide)) (e 79 (by decide)) (e 82 (by decide)) (e 83 (by decide)), h.2⟩
/-! the class looks ahead: its trial sky is none of what it holds -/
theorem CR.trial {A : St} {M N : Mem} (h : CR A M) (e : Eqx [58, 59, 60, 61, 62, 63, 64, 8, 11] M N) (z : ZR N 59 62 63) : CR A N := by
  obtain ⟨h1, h2, h3, h4, h5, h6⟩ := h
  have k : ∀ p, [1, 2, 3, 4, 5, 6, 7, 9, 10, 30, 37, 38, 41, 42, 31, 32, 33, 34, 35, 36, 44, 51, 52, 55, 56, 45, 46, 47, 48, 49, 50].contains p = true → N.1 p = M.1 p := fun p hp => e.2 p (fun hq => by
    simp only [List.mem_cons, List.not_mem_nil, or_false] at hq
    rcases hq with rfl | rfl | rfl | rfl | rfl | rfl | rfl | rfl | rfl <;> cases hp)
  refine ⟨h1.eqx e (by decide), CMM.frame h2 (fun p hp => k p ?_), ⟨?_, z⟩, ?_, ?_, ?_⟩
  · simp only [List.mem_cons, List.not_mem_nil, or_false] at hp
    rcases hp with rfl | rfl | rfl | rfl | rfl | rfl | rfl | rfl | rfl | rfl | rfl <;> rfl
  · unfold ZR at h3 ⊢
    rw [k 52 (by decide), k 55 (by decide), k 56 (by decide)]
    exact h3.1
  · rw [k 1 (by decide)]
    refine ⟨h4.1, fun q => CMM.frame (h4.2 q) (fun p hp => k p ?_)⟩
    simp only [List.mem_cons, List.not_mem_nil, or_false] at hp
    rcases hp with rfl | rfl | rfl | rfl | rfl | rfl | rfl | rfl | rfl | rfl | rfl <;> rfl
  · unfold CTP at h5 ⊢
    rw [k 2 (by decide), k 3 (by decide)]
    exact h5
  · rw [k 1 (by decide)]; exact h6
theorem SOK.zr {K : KG} {M : Mem} {s b sp sk : Nat} (hK : KOK K) (h : SOK K (skV M s b sp sk)) : ZR M b sp sk := ⟨h.b hK, h.sp, h.sk⟩
theorem CR.sok {A : St} {M : Mem} (h : CR A M) (v : VAL A) : SOK (aK A) (skV M 37 38 41 42) := SOK.eqo v.2.1.1.1 h.2.1.1.symm
/-! copies -/
theorem cpy_eq {f g : Row} {n : Nat} (h : ∀ k, n ≤ k → f k = g k) : va_cpy f g 0 0 n = f := by
  funext k
  show (if 0 ≤ k ∧ k < 0 + n then f (0 + (k - 0)) else g k) = f k
  by_cases q : k < n
  · rw [if_pos ⟨Nat.zero_le _, by omega⟩]
    congr 1
    omega
  · rw [if_neg (by omega), h k (by omega)]
theorem z030 : ((0 : Int32).toNatClampNeg = 0) ∧ ((30 : Int32).toNatClampNeg = 30) ∧ ((6 : Int32).toNatClampNeg = 6) := ⟨rfl, rfl, rfl⟩
theorem copyFrom_58_37 {y : Lay} (hy : LY y) {M : Mem} (z : ZR M 59 62 63) (z' : ZR M 38 41 42) : wp (f_X8_copyFrom y 58 37 M) (fun o => o.1 = 0 ∧ Eqx [58, 59, 62, 63] M o.2 ∧ skV o.2 58 59 62 63 = skV M 37 38 41 42 ∧ ∀ k, k < 7 → o.2.1 58 k = M.1 58 k) := by
  have z1 : ∀ k, 30 ≤ k → M.1 38 k = M.1 59 k := fun k hk => (z'.1 k hk).trans (z.1 k hk).symm
  have z2 : ∀ k, 6 ≤ k → M.1 41 k = M.1 62 k := fun k hk => (z'.2.1 k hk).trans (z.2.1 k hk).symm
  have z3 : ∀ k, 6 ≤ k → M.1 42 k = M.1 63 k := fun k hk => (z'.2.2 k hk).trans (z.2.2 k hk).symm
  unfold f_X8_copyFrom
  simp only [lT_s, jn_s, c0_s, cp_s, cx_s, cx_t, gK_t (k_58 hy), gN_t (r := 58) (by decide), r_58_0 hy, r_58_1 hy, r_58_2 hy, r_58_3 hy, r_58_4 hy, r_58_5 hy, r_58_6 hy, gN_t (r := 59) (by decide), gN_t (r := 62) (by decide), gN_t (r := 63) (by decide), gK_t (k_37 hy), gN_t (r := 37) (by decide), r_37_0 hy, r_37_1 hy, r_37_2 hy, r_37_3 hy, r_37_4 hy, r_37_5 hy, r_37_6 hy, gN_t (r := 38) (by decide), gN_t (r := 41) (by decide), gN_t (r := 42) (by decide), z030.1, z030.2.1, z030.2.2]
  rw [gC_t (k_38 hy) (k_59 hy) (by decide), gC_t (k_41 hy) (k_62 hy) (by decide), gC_t (k_42 hy) (k_63 hy) (by decide)]
  simp only [cpI_sr, wI_sr, sr_1, Nat.reduceEqDiff, if_false, if_true, ↓reduceIte, sr_sr]
  refine wp_some ⟨rfl, ⟨rfl, ?_⟩, ?_, ?_⟩
  · intro p hp
    simp only [List.mem_cons, List.not_mem_nil, not_or, or_false] at hp
    simp only [sr_1, if_neg hp.1, if_neg hp.2.1, if_neg hp.2.2.1, if_neg hp.2.2.2]
  · unfold skV
    simp only [sr_1, Nat.reduceEqDiff, if_false, if_true, ↓reduceIte, up]
    rw [cpy_eq z1, cpy_eq z2, cpy_eq z3]
  · intro k hk
    have q7 : ¬ k = 7 := by omega
    have q8 : ¬ k = 8 := by omega
    have q9 : ¬ k = 9 := by omega
    have q10 : ¬ k = 10 := by omega
    have q11 : ¬ k = 11 := by omega
    have q12 : ¬ k = 12 := by omega
    simp only [sr_1, Nat.reduceEqDiff, if_false, if_true, ↓reduceIte, up, if_neg q7, if_neg q8, if_neg q9, if_neg q10, if_neg q11, if_neg q12]
theorem copyFrom_37_21 {y : Lay} (hy : LY y) {M : Mem} (z : ZR M 38 41 42) (z' : ZR M 22 25 26) : wp (f_X8_copyFrom y 37 21 M) (fun o => o.1 = 0 ∧ Eqx [37, 38, 41, 42] M o.2 ∧ skV o.2 37 38 41 42 = skV M 21 22 25 26 ∧ ∀ k, k < 7 → o.2.1 37 k = M.1 37 k) := by
  have z1 : ∀ k, 30 ≤ k → M.1 22 k = M.1 38 k := fun k hk => (z'.1 k hk).trans (z.1 k hk).symm
  have z2 : ∀ k, 6 ≤ k → M.1 25 k = M.1 41 k := fun k hk => (z'.2.1 k hk).trans (z.2.1 k hk).symm
  have z3 : ∀ k, 6 ≤ k → M.1 26 k = M.1 42 k := fun k hk => (z'.2.2 k hk).trans (z.2.2 k hk).symm
  unfold f_X8_copyFrom
  simp only [lT_s, jn_s, c0_s, cp_s, cx_s, cx_t, gK_t (k_37 hy), gN_t (r := 37) (by decide), r_37_0 hy, r_37_1 hy, r_37_2 hy, r_37_3 hy, r_37_4 hy, r_37_5 hy, r_37_6 hy, gN_t (r := 38) (by decide), gN_t (r := 41) (by decide), gN_t (r := 42) (by decide), gK_t (k_21 hy), gN_t (r := 21) (by decide), r_21_0 hy, r_21_1 hy, r_21_2 hy, r_21_3 hy, r_21_4 hy, r_21_5 hy, r_21_6 hy, gN_t (r := 22) (by decide), gN_t (r := 25) (by decide), gN_t (r := 26) (by decide), z030.1, z030.2.1, z030.2.2]
  rw [gC_t (k_22 hy) (k_38 hy) (by decide), gC_t (k_25 hy) (k_41 hy) (by decide), gC_t (k_26 hy) (k_42 hy) (by decide)]
  simp only [cpI_sr, wI_sr, sr_1, Nat.reduceEqDiff, if_false, if_true, ↓reduceIte, sr_sr]
  refine wp_some ⟨rfl, ⟨rfl, ?_⟩, ?_, ?_⟩
  · intro p hp
    simp only [List.mem_cons, List.not_mem_nil, not_or, or_false] at hp
    simp only [sr_1, if_neg hp.1, if_neg hp.2.1, if_neg hp.2.2.1, if_neg hp.2.2.2]
  · unfold skV
    simp only [sr_1, Nat.reduceEqDiff, if_false, if_true, ↓reduceIte, up]
    rw [cpy_eq z1, cpy_eq z2, cpy_eq z3]
  · intro k hk
    have q7 : ¬ k = 7 := by omega
    have q8 : ¬ k = 8 := by omega
    have q9 : ¬ k = 9 := by omega
    have q10 : ¬ k = 10 := by omega
    have q11 : ¬ k = 11 := by omega
    have q12 : ¬ k = 12 := by omega
    simp only [sr_1, Nat.reduceEqDiff, if_false, if_true, ↓reduceIte, up, if_neg q7, if_neg q8, if_neg q9, if_neg q10, if_neg q11, if_neg q12]
theorem copyFrom_51_37 {y : Lay} (hy : LY y) {M : Mem} (z : ZR M 52 55 56) (z' : ZR M 38 41 42) : wp (f_X8_copyFrom y 51 37 M) (fun o => o.1 = 0 ∧ Eqx [51, 52, 55, 56] M o.2 ∧ skV o.2 51 52 55 56 = skV M 37 38 41 42 ∧ ∀ k, k < 7 → o.2.1 51 k = M.1 51 k) := by
  have z1 : ∀ k, 30 ≤ k → M.1 38 k = M.1 52 k := fun k hk => (z'.1 k hk).trans (z.1 k hk).symm
  have z2 : ∀ k, 6 ≤ k → M.1 41 k = M.1 55 k := fun k hk => (z'.2.1 k hk).trans (z.2.1 k hk).symm
  have z3 : ∀ k, 6 ≤ k → M.1 42 k = M.1 56 k := fun k hk => (z'.2.2 k hk).trans (z.2.2 k hk).symm
  unfold f_X8_copyFrom
  simp only [lT_s, jn_s, c0_s, cp_s, cx_s, cx_t, gK_t (k_51 hy), gN_t (r := 51) (by decide), r_51_0 hy, r_51_1 hy, r_51_2 hy, r_51_3 hy, r_51_4 hy, r_51_5 hy, r_51_6 hy, gN_t (r := 52) (by decide), gN_t (r := 55) (by decide), gN_t (r := 56) (by decide), gK_t (k_37 hy), gN_t (r := 37) (by decide), r_37_0 hy, r_37_1 hy, r_37_2 hy, r_37_3 hy, r_37_4 hy, r_37_5 hy, r_37_6 hy, gN_t (r := 38) (by decide), gN_t (r := 41) (by decide), gN_t (r := 42) (by decide), z030.1, z030.2.1, z030.2.2]
  rw [gC_t (k_38 hy) (k_52 hy) (by decide), gC_t (k_41 hy) (k_55 hy) (by decide), gC_t (k_42 hy) (k_56 hy) (by decide)]
  simp only [cpI_sr, wI_sr, sr_1, Nat.reduceEqDiff, if_false, if_true, ↓reduceIte, sr_sr]
  refine wp_some ⟨rfl, ⟨rfl, ?_⟩, ?_, ?_⟩
  · intro p hp
    simp only [List.mem_cons, List.not_mem_nil, not_or, or_false] at hp
    simp only [sr_1, if_neg hp.1, if_neg hp.2.1, if_neg hp.2.2.1, if_neg hp.2.2.2]
  · unfold skV
    simp only [sr_1, Nat.reduceEqDiff, if_false, if_true, ↓reduceIte, up]
    rw [cpy_eq z1, cpy_eq z2, cpy_eq z3]
  · intro k hk
    have q7 : ¬ k = 7 := by omega
    have q8 : ¬ k = 8 := by omega
    have q9 : ¬ k = 9 := by omega
    have q10 : ¬ k = 10 := by omega
    have q11 : ¬ k = 11 := by omega
    have q12 : ¬ k = 12 := by omega
    simp only [sr_1, Nat.reduceEqDiff, if_false, if_true, ↓reduceIte, up, if_neg q7, if_neg q8, if_neg q9, if_neg q10, if_neg q11, if_neg q12]
theorem copyFrom_37_51 {y : Lay} (hy : LY y) {M : Mem} (z : ZR M 38 41 42) (z' : ZR M 52 55 56) : wp (f_X8_copyFrom y 37 51 M) (fun o => o.1 = 0 ∧ Eqx [37, 38, 41, 42] M o.2 ∧ skV o.2 37 38 41 42 = skV M 51 52 55 56 ∧ ∀ k, k < 7 → o.2.1 37 k = M.1 37 k) := by
  have z1 : ∀ k, 30 ≤ k → M.1 52 k = M.1 38 k := fun k hk => (z'.1 k hk).trans (z.1 k hk).symm
  have z2 : ∀ k, 6 ≤ k → M.1 55 k = M.1 41 k := fun k hk => (z'.2.1 k hk).trans (z.2.1 k hk).symm
  have z3 : ∀ k, 6 ≤ k → M.1 56 k = M.1 42 k := fun k hk => (z'.2.2 k hk).trans (z.2.2 k hk).symm
  unfold f_X8_copyFrom
  simp only [lT_s, jn_s, c0_s, cp_s, cx_s, cx_t, gK_t (k_37 hy), gN_t (r := 37) (by decide), r_37_0 hy, r_37_1 hy, r_37_2 hy, r_37_3 hy, r_37_4 hy, r_37_5 hy, r_37_6 hy, gN_t (r := 38) (by decide), gN_t (r := 41) (by decide), gN_t (r := 42) (by decide), gK_t (k_51 hy), gN_t (r := 51) (by decide), r_51_0 hy, r_51_1 hy, r_51_2 hy, r_51_3 hy, r_51_4 hy, r_51_5 hy, r_51_6 hy, gN_t (r := 52) (by decide), gN_t (r := 55) (by decide), gN_t (r := 56) (by decide), z030.1, z030.2.1, z030.2.2]
  rw [gC_t (k_52 hy) (k_38 hy) (by decide), gC_t (k_55 hy) (k_41 hy) (by decide), gC_t (k_56 hy) (k_42 hy) (by decide)]
  simp only [cpI_sr, wI_sr, sr_1, Nat.reduceEqDiff, if_false, if_true, ↓reduceIte, sr_sr]
  refine wp_some ⟨rfl, ⟨rfl, ?_⟩, ?_, ?_⟩
  · intro p hp
    simp only [List.mem_cons, List.not_mem_nil, not_or, or_false] at hp
    simp only [sr_1, if_neg hp.1, if_neg hp.2.1, if_neg hp.2.2.1, if_neg hp.2.2.2]
  · unfold skV
    simp only [sr_1, Nat.reduceEqDiff, if_false, if_true, ↓reduceIte, up]
    rw [cpy_eq z1, cpy_eq z2, cpy_eq z3]
  · intro k hk
    have q7 : ¬ k = 7 := by omega
    have q8 : ¬ k = 8 := by omega
    have q9 : ¬ k = 9 := by omega
    have q10 : ¬ k = 10 := by omega
    have q11 : ¬ k = 11 := by omega
    have q12 : ¬ k = 12 := by omega
    simp only [sr_1, Nat.reduceEqDiff, if_false, if_true, ↓reduceIte, up, if_neg q7, if_neg q8, if_neg q9, if_neg q10, if_neg q11, if_neg q12]
