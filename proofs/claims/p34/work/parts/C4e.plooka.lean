/-! ===== look, its answers ===== -/
def sn (R : Nat → Nat) (x : Nat) : Nat → Bool
  | 0 => false
  | k + 1 => sn R x k || decide (R k = x)
theorem sn_mono (R : Nat → Nat) (x : Nat) {j : Nat} : ∀ i, j ≤ i → sn R x j = true → sn R x i = true := by
  intro i
  induction i with
  | zero => intro h q; have e : j = 0 := by omega
            rw [e] at q; exact q
  | succ i ih =>
    intro h q
    by_cases e : j = i + 1
    · rw [← e]; exact q
    · show (sn R x i || decide (R i = x)) = true
      rw [ih (by omega) q]; rfl
def um (R : Nat → Nat) : Nat → Nat
  | 0 => 0
  | i + 1 => if sn R (R i) i = true then um R i else um R i + 1
theorem um_s (R : Nat → Nat) (i : Nat) : um R (i + 1) = if sn R (R i) i = true then um R i else um R i + 1 := rfl
theorem um_le (R : Nat → Nat) : ∀ i, um R i ≤ i := by
  intro i
  induction i with
  | zero => exact Nat.le_refl 0
  | succ i ih => rw [um_s]; split <;> omega
def lkS (F : Nat → Bool) (u : Nat → Nat) : Nat → Nat × Nat
  | 0 => (0, 0)
  | t + 1 => if F t = true then (if 64 ≤ u t then ((lkS F u t).1, (lkS F u t).2 ||| 2 ^ (u t - 64)) else ((lkS F u t).1 ||| 2 ^ u t, (lkS F u t).2)) else lkS F u t
theorem lkS_n {F : Nat → Bool} {u : Nat → Nat} {t : Nat} (h : ¬ F t = true) : lkS F u (t + 1) = lkS F u t := by
  show (if F t = true then _ else _) = _
  rw [if_neg h]
theorem lkS_h {F : Nat → Bool} {u : Nat → Nat} {t : Nat} (h : F t = true) (q : 64 ≤ u t) : lkS F u (t + 1) = ((lkS F u t).1, (lkS F u t).2 ||| 2 ^ (u t - 64)) := by
  show (if F t = true then _ else _) = _
  rw [if_pos h, if_pos q]
theorem lkS_l {F : Nat → Bool} {u : Nat → Nat} {t : Nat} (h : F t = true) (q : ¬ 64 ≤ u t) : lkS F u (t + 1) = ((lkS F u t).1 ||| 2 ^ u t, (lkS F u t).2) := by
  show (if F t = true then _ else _) = _
  rw [if_pos h, if_neg q]
def lkC (F : Nat → Bool) (u : Nat → Nat) (t : Nat) : Nat := pcF 64 (lkS F u t).1 + pcF 64 (lkS F u t).2
theorem pcF_or : ∀ (k n x : Nat), x < k → pcF k (n ||| 2 ^ x) = if n.testBit x = true then pcF k n else pcF k n + 1 := by
  intro k
  induction k with
  | zero => intro n x h; omega
  | succ k ih =>
    intro n x h
    show (n ||| 2 ^ x) % 2 + pcF k ((n ||| 2 ^ x) / 2) = if n.testBit x = true then n % 2 + pcF k (n / 2) else n % 2 + pcF k (n / 2) + 1
    have e1 : (n ||| 2 ^ x) % 2 = (n % 2) ||| (2 ^ x % 2) := by
      have := @Nat.or_mod_two_pow n (2 ^ x) 1
      simpa using this
    rw [e1, Nat.or_div_two]
    cases x with
    | zero =>
      rw [Nat.testBit_zero, show (2 : Nat) ^ 0 % 2 = 1 by decide, show (2 : Nat) ^ 0 / 2 = 0 by decide, Nat.or_zero]
      rcases Nat.mod_two_eq_zero_or_one n with q | q
      · rw [q, show (0 : Nat) ||| 1 = 1 from rfl, if_neg (by decide)]; omega
      · rw [q, show (1 : Nat) ||| 1 = 1 from rfl, if_pos (by decide)]
    | succ x =>
      have e2 : 2 ^ (x + 1) % 2 = 0 := by rw [Nat.pow_succ]; omega
      have e3 : 2 ^ (x + 1) / 2 = 2 ^ x := by rw [Nat.pow_succ]; omega
      rw [e2, e3, Nat.or_zero, ih (n / 2) x (by omega), Nat.testBit_succ]
      split <;> omega
theorem lk_lt {F : Nat → Bool} {u : Nat → Nat} {T : Nat} (hu : ∀ t, t < T → u t < 100) : ∀ t, t ≤ T → (lkS F u t).1 < 2 ^ 64 ∧ (lkS F u t).2 < 2 ^ 64 := by
  intro t
  induction t with
  | zero =>
    intro _
    show (0 : Nat) < 2 ^ 64 ∧ (0 : Nat) < 2 ^ 64
    decide
  | succ t ih =>
    intro h
    obtain ⟨i1, i2⟩ := ih (by omega)
    have hut := hu t (by omega)
    by_cases f : F t = true
    · by_cases q : 64 ≤ u t
      · rw [lkS_h f q]
        exact ⟨i1, Nat.or_lt_two_pow i2 (Nat.pow_lt_pow_right (by decide) (by omega))⟩
      · rw [lkS_l f q]
        exact ⟨Nat.or_lt_two_pow i1 (Nat.pow_lt_pow_right (by decide) (by omega)), i2⟩
    · rw [lkS_n f]; exact ⟨i1, i2⟩
/-- the bits set are the blues seen; their number is that of unlike blues -/
theorem lk_key {F : Nat → Bool} {u R : Nat → Nat} {T : Nat} (hR : ∀ t, t < T → F t = true → R (ctB F t) = u t) (hu : ∀ t, t < T → u t < 100) : ∀ t, t ≤ T → (∀ b, b < 64 → (lkS F u t).1.testBit b = sn R b (ctB F t)) ∧ (∀ b, b < 64 → (lkS F u t).2.testBit b = sn R (b + 64) (ctB F t)) ∧ lkC F u t = um R (ctB F t) := by
  intro t
  induction t with
  | zero =>
    intro _
    exact ⟨fun b _ => Nat.zero_testBit b, fun b _ => Nat.zero_testBit b, (by decide : pcF 64 0 + pcF 64 0 = 0)⟩
  | succ t ih =>
    intro h
    obtain ⟨i1, i2, i3⟩ := ih (by omega)
    have hut := hu t (by omega)
    by_cases f : F t = true
    · have e := hR t (by omega) f
      have ec : ctB F (t + 1) = ctB F t + 1 := by rw [ctB_s, if_pos f]
      have es : ∀ b, sn R b (ctB F t + 1) = (sn R b (ctB F t) || decide (u t = b)) := fun b => by rw [← e]; rfl
      rw [ec]
      by_cases q : 64 ≤ u t
      · refine ⟨fun b hb => ?_, fun b hb => ?_, ?_⟩
        · rw [lkS_h f q, i1 b hb, es, decide_eq_false (by omega), Bool.or_false]
        · rw [lkS_h f q, es]
          show ((lkS F u t).2 ||| 2 ^ (u t - 64)).testBit b = _
          have e3 : decide (u t - 64 = b) = decide (u t = b + 64) := decide_eq_decide.mpr ⟨fun z => by omega, fun z => by omega⟩
          rw [Nat.testBit_or, i2 b hb, Nat.testBit_two_pow, e3]
        · unfold lkC at i3 ⊢
          rw [lkS_h f q]
          show pcF 64 (lkS F u t).1 + pcF 64 ((lkS F u t).2 ||| 2 ^ (u t - 64)) = _
          rw [pcF_or 64 _ _ (by omega), i2 _ (by omega), um_s, e, show u t - 64 + 64 = u t by omega]
          split <;> omega
      · refine ⟨fun b hb => ?_, fun b hb => ?_, ?_⟩
        · rw [lkS_l f q, es]
          show ((lkS F u t).1 ||| 2 ^ u t).testBit b = _
          rw [Nat.testBit_or, i1 b hb, Nat.testBit_two_pow]
        · rw [lkS_l f q, i2 b hb, es, decide_eq_false (by omega), Bool.or_false]
        · unfold lkC at i3 ⊢
          rw [lkS_l f q]
          show pcF 64 ((lkS F u t).1 ||| 2 ^ u t) + pcF 64 (lkS F u t).2 = _
          rw [pcF_or 64 _ _ (by omega), i1 _ (by omega), um_s, e]
          split <;> omega
    · rw [ctB_s, if_neg f]
      unfold lkC at i3 ⊢
      rw [lkS_n f]
      exact ⟨i1, i2, i3⟩
/-- the blue of cell c, five days on, where t fits -/
def uK (K : KG) (S : Sk) (c t : Nat) : Nat := (sB (pDays K (skS S (t / 10) (t % 10)) 5) c).toNatClampNeg
theorem uK_s {A : St} (v : VAL A) (c : Nat) {t : Nat} (ht : t < 10 * kg (aK A)) : uK (aK A) (aS A) c t < 100 ∧ sB (pDays (aK A) (skS (aS A) (t / 10) (t % 10)) 5) c = n2 (uK (aK A) (aS A) c t) := by
  have hg6 : kg (aK A) ≤ 6 := v.1.2.1.2.2
  have hS : SOK (aK A) (pDays (aK A) (skS (aS A) (t / 10) (t % 10)) 5) := pDays_ok v.1 (aok_sk v.2.1.1 (show t / 10 < 6 by omega) (show t % 10 ≤ 9 by omega)).1 5
  obtain ⟨b, hb, e⟩ := hS.1.1.1 c
  have e : sB (pDays (aK A) (skS (aS A) (t / 10) (t % 10)) 5) c = n2 b := e
  unfold uK
  rw [e, n2_nat (by omega)]
  exact ⟨hb, rfl⟩
/-- the best cell: how unlike, which -/
def lkQ (f : Nat → Nat) : Nat → Int32 × Nat
  | 0 => (-1, 0)
  | c + 1 => if (lkQ f c).2 < f c then (n2 c, f c) else lkQ f c
theorem lkQ_p {f : Nat → Nat} {c : Nat} (h : (lkQ f c).2 < f c) : lkQ f (c + 1) = (n2 c, f c) := if_pos h
theorem lkQ_n {f : Nat → Nat} {c : Nat} (h : ¬ (lkQ f c).2 < f c) : lkQ f (c + 1) = lkQ f c := if_neg h
theorem lkQ_le {f : Nat → Nat} {m : Nat} (h : ∀ c, f c ≤ m) : ∀ c, (lkQ f c).2 ≤ m := by
  intro c
  induction c with
  | zero => exact Nat.zero_le m
  | succ c ih =>
    by_cases q : (lkQ f c).2 < f c
    · rw [lkQ_p q]; exact h c
    · rw [lkQ_n q]; exact ih
def lkF (A : St) (c : Nat) : Nat := lkC (ftB (aK A) (mN (aM A)) (aS A)) (uK (aK A) (aS A) c) (10 * kg (aK A))
theorem lkF_le (A : St) (c : Nat) : lkF A c ≤ 128 := Nat.add_le_add (pcF_le 64 _) (pcF_le 64 _)
def lokP (A : St) (w : Int32) : Nat × Int32 := if inR 0 1 w then (0, if w = 0 then (lkQ (lkF A) (kn (aK A))).1 else n2 (lkQ (lkF A) (kn (aK A))).2) else (1, 0)
/-! the class -/
theorem one_sh : ∀ b : Fin 64, (1 : Int64) <<< ((n2 b.val).toInt64 &&& 63) = l2 (2 ^ b.val) := by decide +kernel
def CLK (A : St) (F : Nat → Bool) (M : Mem) (t : Nat) : Prop := ∀ c, c < 30 → M.2.1 70 c = l2 (lkS F (uK (aK A) (aS A) c) t).1 ∧ M.2.1 71 c = l2 (lkS F (uK (aK A) (aS A) c) t).2
theorem CLK.no {A : St} {F : Nat → Bool} {M N : Mem} {t : Nat} (h : CLK A F M t) (f : ¬ F t = true) (e : N.2.1 = M.2.1) : CLK A F N (t + 1) := fun c hc => by
  rw [e, lkS_n f]; exact h c hc
theorem CLK.yes {A : St} (v : VAL A) {F : Nat → Bool} {M N : Mem} {t : Nat} (h : CLK A F M t) (f : F t = true) (ht : t < 10 * kg (aK A)) (b : BLS M.2.1 N.2.1 (sB (pDays (aK A) (skS (aS A) (t / 10) (t % 10)) 5))) : CLK A F N (t + 1) := fun c hc => by
  have g := b c hc
  obtain ⟨u1, u2⟩ := uK_s v c ht
  obtain ⟨h1, h2⟩ := h c hc
  rw [u2, h1, h2] at g
  have i64 : (64 : Int32) = n2 64 := rfl
  by_cases q : 64 ≤ uK (aK A) (aS A) c t
  · rw [if_pos (by rw [i64, n2_le (by omega) (by omega)]; exact q)] at g
    rw [lkS_h f q, g.1, g.2, i64, n2_sub q]
    have := one_sh ⟨uK (aK A) (aS A) c t - 64, by omega⟩
    dsimp only at this
    rw [this, l_or]
    exact ⟨rfl, rfl⟩
  · rw [if_neg (by rw [i64, n2_le (by omega) (by omega)]; exact q)] at g
    rw [lkS_l f q, g.1, g.2]
    have := one_sh ⟨uK (aK A) (aS A) c t, by omega⟩
    dsimp only at this
    rw [this, l_or]
    exact ⟨rfl, rfl⟩
theorem unlike_cs {y : Lay} (hy : LY y) {M : Mem} {c a b : Nat} (hc : c < 30) (ha : a < 2 ^ 64) (hb : b < 2 ^ 64) (h1 : M.2.1 70 c = l2 a) (h2 : M.2.1 71 c = l2 b) : f_X11_unlikeBlues y 1 (n2 c) M = some (n2 (pcF 64 a + pcF 64 b)) := by
  have p : (2 : Nat) ^ 64 = 18446744073709551616 := by decide
  rw [p] at ha hb
  unfold f_X11_unlikeBlues
  rw [jn_s, bR_f (n2_n0 (by omega)), bR_t (by rw [show (30 : Int32) = n2 30 from rfl, n2_lt (by omega) (by decide)]; exact hc), gK_t (k_1 hy), r_1_8 hy, r_1_9 hy, gN_t (by decide), gA_n (k_70 hy) hc (by omega), n2_nat (show c < 2147483648 by omega), h1, h2, bc64_s y ha, cp_s, gN_t (by decide), gA_n (k_71 hy) hc (by omega), bc64_s y hb, cp_s, n2_add]
theorem look_ca {y : Lay} (hy : LY y) {A : St} {M : Mem} (h : CR A M) (v : VAL A) (w : Int32) : wp (f_X11_look y 1 w M) (OC A (lokP A w) M) := by
  unfold f_X11_look lokP
  have hg6 : kg (aK A) ≤ 6 := v.1.2.1.2.2
  have h30 := v.1.n30
  rw [gK_t (k_1 hy)]
  rcases needWhat_s (y := y) (M := M) (m := 1) (by decide) w with ⟨q, e⟩ | ⟨q, e⟩
  · have e : f_X11_needWhat y 1 w 1 M = some (0, 0, M) := e
    have qq : inR 0 1 w := ⟨q.1, by have := q.2; omega⟩
    rw [e, cx_s, if_pos qq]
    refine wp_c0 _ (clearBlues_c hy) (fun r M1 p => ?_)
    have p1 : M1.1 = M.1 := p.1
    have p2 : ∀ c, c < 30 → M1.2.1 70 c = 0 ∧ M1.2.1 71 c = 0 := p.2
    generalize hF : ftB (aK A) (mN (aM A)) (aS A) = F
    refine wp_for (i0 := 0) (kg (aK A)) (fun g s => (CR A s ∧ kM M s) ∧ CLK A F s (10 * g)) (by have : FUEL = 100000 := rfl; omega) rfl (by omega) ⟨⟨h.one p1, kM.one p1⟩, fun c hc => ⟨(p2 c hc).1, (p2 c hc).2⟩⟩ ?_ ?_
    · intro f g s hg hI hk
      obtain ⟨⟨i1, i2⟩, i3⟩ := hI
      have g6 : g < 6 := by omega
      rw [r_1_1 hy, gN_t (by decide), gK_t (k_4 hy), i1.1.1.2.2.2.2.1]
      refine wp_brf (by rw [n2_le (by omega) (by omega)]; omega) ?_
      refine wp_for (i0 := 0) 10 (fun i z => (CR A z ∧ kM M z) ∧ CLK A F z (10 * g + i)) (by decide) rfl (by decide) ⟨⟨i1, i2⟩, i3⟩ ?_ ?_
      · intro f2 i z hi hJ hk2
        obtain ⟨⟨j1, j2⟩, j3⟩ := hJ
        have hFv : F (10 * g + i) = (decide (¬ sSk (aS A) g = n2 i) && decide (fitV (aK A) (mN (aM A)) (skS (aS A) g i) = 1)) := by
          rw [← hF]; unfold ftB
          rw [show (10 * g + i) / 10 = g by omega, show (10 * g + i) % 10 = i by omega]
        refine wp_brf (by rw [show (9 : Int32) = n2 9 from rfl, n2_lt (by decide) (by omega)]; omega) ?_
        rw [r_1_3 hy, gN_t (by decide), gK_t (k_30 hy), r_30_0 hy, gN_t (by decide), gK_t (k_37 hy), skillOf_37 hy g6, cp_s, j1.v.1.2.2]
        refine wp_jn ?_
        have nx : ∀ N, CR A N → kM M N → CLK A F N (10 * g + i + 1) → wp (lt (n2 i + 1) fun v48 => f2 v48 N) (OC A (0, if w = 0 then (lkQ (lkF A) (kn (aK A))).1 else n2 (lkQ (lkF A) (kn (aK A))).2) M) := fun N n1 n2' n3 => by
          rw [lT_s, n2_s]; exact hk2 N ⟨⟨n1, n2'⟩, n3⟩
        refine wp_br (fun zz => nx z j1 j2 (j3.no (fun u => ?_) rfl)) (fun zz => ?_)
        · rw [hFv, Bool.and_eq_true, decide_eq_true_eq] at u
          exact u.1 zz.symm
        obtain ⟨⟨r, M2⟩, er, p1, p2, p3⟩ := wouldFit_c hy j1 v g6 (show i ≤ 9 by omega)
        have pl := fit_l er
        dsimp only at p1 p2 p3 pl
        rw [er, c0_s]
        refine wp_br (fun z2 => nx M2 p2 (j2.trans p3) (j3.no (fun u => ?_) pl)) (fun z2 => ?_)
        · rw [hFv, Bool.and_eq_true, decide_eq_true_eq, decide_eq_true_eq, ← p1] at u
          rw [z2] at u
          exact absurd u.2 (by decide)
        have hT : F (10 * g + i) = true := by
          rw [hFv, Bool.and_eq_true, decide_eq_true_eq, decide_eq_true_eq, ← p1]
          refine ⟨fun u => zz u.symm, ?_⟩
          rcases fitV01 (aK A) (mN (aM A)) (skS (aS A) g i) with u | u
          · rw [← p1] at u; exact absurd u z2
          · rw [← p1] at u; exact u
        refine wp_c0 _ (gatherBlues_c hy p2 v g6 (show i ≤ 9 by omega)) (fun r M3 p => ?_)
        obtain ⟨u2', u3, u4⟩ := p
        dsimp only at u2' u3 u4
        refine nx M3 u2' ((j2.trans p3).trans u3) (j3.yes v hT (by omega) ?_)
        rw [show (10 * g + i) / 10 = g by omega, show (10 * g + i) % 10 = i by omega, ← pl]
        exact u4
      · intro f2 z hJ
        refine wp_brt (by decide) (wp_lt ?_)
        rw [n2_s]
        refine hk z ⟨hJ.1, ?_⟩
        rw [show 10 * (g + 1) = 10 * g + 10 by omega]
        exact hJ.2
    · intro f s hI
      obtain ⟨⟨i1, i2⟩, i3⟩ := hI
      rw [r_1_1 hy, gN_t (by decide), gK_t (k_4 hy), i1.1.1.2.2.2.2.1]
      refine wp_brt (Int32.le_refl _) (wp_lt ?_)
      refine wp_for3 (i0 := 0) (kn (aK A)) (fun c a b => a = (lkQ (lkF A) c).1 ∧ b = n2 (lkQ (lkF A) c).2) (by have : FUEL = 100000 := rfl; omega) rfl (by omega) ⟨rfl, rfl⟩ ?_ ?_
      · intro f2 c a b hc hL hk2
        obtain ⟨l1, l2'⟩ := hL
        rw [cells_4 hy (i1.1.geo v.1), cp_s]
        refine wp_brf (by show ¬ n2 (kn (aK A)) ≤ n2 c; rw [n2_le (by omega) (by omega)]; omega) ?_
        obtain ⟨x1, x2⟩ := i3 c (by omega)
        obtain ⟨y1, y2⟩ := lk_lt (F := F) (u := uK (aK A) (aS A) c) (T := 10 * kg (aK A)) (fun t ht => (uK_s v c ht).1) (10 * kg (aK A)) (Nat.le_refl _)
        have hr : f_X11_unlikeBlues y 1 (n2 c) s = some (n2 (lkF A c)) := by
          unfold lkF lkC
          rw [hF]
          exact unlike_cs hy (by omega) y1 y2 x1 x2
        have k1 := lkF_le A c
        have k2 := lkQ_le (lkF_le A) c
        rw [hr, cp_s]
        refine wp_jn (wp_br (fun z => wp_lt ?_) (fun z => wp_lt ?_))
        · rw [n2_s]
          refine hk2 _ _ ?_
          rw [l2', n2_le (by omega) (by omega)] at z
          rw [lkQ_n (by omega)]
          exact ⟨l1, l2'⟩
        · rw [n2_s]
          refine hk2 _ _ ?_
          rw [l2', n2_le (by omega) (by omega)] at z
          rw [lkQ_p (by omega)]
          exact ⟨rfl, rfl⟩
      · intro f2 a b hL
        obtain ⟨l1, l2'⟩ := hL
        rw [cells_4 hy (i1.1.geo v.1), cp_s]
        refine wp_brt (Int32.le_refl _) (wp_jn ?_)
        exact wp_br (fun z => OC.ret' (by rw [if_pos z]; exact l1) i1 i2) (fun z => OC.ret' (by rw [if_neg z]; exact l2') i1 i2)
  · have e : f_X11_needWhat y 1 w 1 M = some (1, 0, M) := e
    have qq : ¬ inR 0 1 w := fun z => q ⟨z.1, by have := z.2; omega⟩
    rw [e, if_neg qq]
    exact OC.thr h (by decide)
/-! the model -/
theorem unlike_ms {y : Lay} (hy : LY y) {M : Mem} {m c : Nat} (hm : M.1 73 52 = n2 m) (hm60 : m ≤ 60) (hc : c < 30) {R : Nat → Nat} (hR : ∀ i, i < m → R i < 100 ∧ M.1 102 (30 * i + c) = n2 (R i)) : f_X12_unlike y 73 (n2 c) M = some (n2 (um R m)) := by
  refine wp_eq ?_
  unfold f_X12_unlike
  refine wp_for2 (i0 := 0) m (fun i a => a = n2 (um R i)) (by have : FUEL = 100000 := rfl; omega) rfl (by omega) rfl ?_ ?_
  · intro f i a hi hI hk
    rw [gK_t (k_73 hy), hm]
    refine wp_brf (by rw [n2_le (by omega) (by omega)]; omega) ?_
    have out : ∀ x : Int32, x = (if sn R (R i) i = true then 0 else 1) → wp (jn (fun (v13 : Int32) => lt (a + v13) fun (v15 : Int32) => lt (n2 i + (1 : Int32)) fun (v16 : Int32) => f v15 v16) fun j14 => br (x = 0) (j14 (0 : Int32)) (j14 (1 : Int32))) (fun z => z = n2 (um R m)) := fun x hx => by
      refine wp_jn (wp_br (fun z => wp_lt (wp_lt ?_)) (fun z => wp_lt (wp_lt ?_)))
      · rw [n2_s]
        refine hk _ ?_
        rw [um_s]
        by_cases s : sn R (R i) i = true
        · rw [if_pos s, hI]; exact n2_add _ 0
        · rw [if_neg s] at hx
          rw [hx] at z
          exact absurd z (by decide)
      · rw [n2_s]
        refine hk _ ?_
        rw [um_s]
        by_cases s : sn R (R i) i = true
        · rw [if_pos s] at hx
          exact absurd hx z
        · rw [if_neg s, hI]; exact n2_s _
    refine wp_for2 (i0 := 0) i (fun j x => x = (if sn R (R i) j = true then 0 else 1)) (by have : FUEL = 100000 := rfl; omega) rfl (by omega) rfl ?_ ?_
    · intro f2 j x hj hJ hk2
      refine wp_jn ?_
      refine wp_brf (by rw [n2_le (by omega) (by omega)]; omega) ?_
      refine wp_br (fun z => out x ?_) (fun z => ?_)
      · by_cases s : sn R (R i) j = true
        · rw [if_pos (sn_mono R (R i) i (by omega) s)]; exact z
        · rw [if_neg s] at hJ
          rw [hJ] at z
          exact absurd z (by decide)
      obtain ⟨r1, r2⟩ := hR i hi
      obtain ⟨r3, r4⟩ := hR j (by omega)
      have ns : ¬ sn R (R i) j = true := fun s => by rw [if_pos s] at hJ; exact z hJ
      rw [r_73_51 hy, gN_t (by decide), show (30 : Int32) * n2 j = n2 (30 * j) from n2_mul 30 j, show (30 : Int32) * n2 i = n2 (30 * i) from n2_mul 30 i, n2_add, n2_add, gA_n (k_102 hy) (show 30 * j + c < 1800 by omega) (by omega), gA_n (k_102 hy) (show 30 * i + c < 1800 by omega) (by omega), n2_nat (show 30 * j + c < 2147483648 by omega), n2_nat (show 30 * i + c < 2147483648 by omega), r2, r4]
      have es : sn R (R i) (j + 1) = decide (R j = R i) := by
        show (sn R (R i) j || decide (R j = R i)) = _
        rw [Bool.not_eq_true] at ns
        rw [ns, Bool.false_or]
      refine wp_jn (wp_br (fun z => wp_lt ?_) (fun z => wp_lt ?_))
      · rw [n2_s]
        refine hk2 _ ?_
        rw [es, decide_eq_true ((n2_inj (by omega) (by omega)).mp z)]
        rfl
      · rw [n2_s]
        refine hk2 _ ?_
        rw [es, decide_eq_false (fun q => z (by rw [q]))]
        rfl
    · intro f2 x hJ
      exact wp_jn (wp_brt (Int32.le_refl _) (out x hJ))
  · intro f a hI
    rw [gK_t (k_73 hy), hm]
    exact wp_brt (Int32.le_refl _) (wp_some hI)
theorem look_ma {y : Lay} (hy : LY y) {A : St} {M : Mem} (h : MR A M) (v : VAL A) (w : Int32) : wp (f_X12_look y 73 w M) (OM A (lokP A w) M) := by
  unfold f_X12_look lokP
  have h30 := v.1.n30
  have hg6 : kg (aK A) ≤ 6 := v.1.2.1.2.2
  rw [gK_t (k_73 hy)]
  refine OM.start hy h (fun M0 h0 g0 hc0 => ?_)
  have z0 : (0 : Int32).toInt = 0 := by decide
  have z1 : (1 : Int32).toInt = 1 := by decide
  have hth : ¬ inR 0 1 w → wp (c0 (f_X12_fail y 73 1 M0) fun (r4 : Int32) (M5 : Mem) => some (r4, M5)) (OM A (if inR 0 1 w then (0, if w = 0 then (lkQ (lkF A) (kn (aK A))).1 else n2 (lkQ (lkF A) (kn (aK A))).2) else (1, 0)) M) := fun q => by
    rw [if_neg q]
    exact OM.fail hy rfl (by decide) h0 g0
  refine wp_jn (wp_br (fun q => hth (fun z => by rw [i_lt, z0] at q; have := z.1; omega)) (fun q => wp_br (fun q2 => ?_) (fun q2 => hth (fun z => by rw [i_le, z1] at q2; have := z.2; omega))))
  rw [if_pos (show inR 0 1 w from ⟨by rw [i_lt, z0] at q; omega, by rw [i_le, z1] at q2; omega⟩)]
  refine wp_c0 _ (tellFits_m hy h0 v) (fun r M1 p => ?_)
  obtain ⟨p1, p2, p3, p4⟩ := p
  dsimp only at p1 p2 p3 p4
  have k1 : kC M M1 := g0.trans p2
  have c1 : M1.1 73 4 = 0 := by rw [p3, hc0]
  generalize hF : ftB (aK A) (mN (aM A)) (aS A) = F at p4
  rw [r_73_42 hy, gN_t (by decide)]
  refine wp_c0 _ (pack_93 hy (f := 0) (by decide)) (fun r M2 q => ?_)
  obtain ⟨-, l1, l3, -⟩ := q
  dsimp only at l1 l3
  have hM2 : MR A M2 := by
    refine MR.look p1 (l1.mono (by decide)) ?_ (F73.row (l1.2 73 (by decide)))
    unfold moV
    rw [l1.2 73 (by decide), l1.2 87 (by decide), l1.2 88 (by decide), l1.2 85 (by decide)]
  have hp2 : PKD (M2.1 93) 0 (aS A) := l3.eqo p1.2.1.1
  have k2 : kC M M2 := k1.trans (l1.kC (by decide))
  have c2 : M2.1 73 4 = 0 := by rw [l1.2 73 (by decide), c1]
  have hF2 : FTR F M2 (10 * kg (aK A)) := by
    refine ⟨by rw [l1.2 73 (by decide)]; exact p4.1, fun t a b => ?_⟩
    rw [l1.2 101 (by decide)]; exact p4.2 t a b
  rw [← r_73_42 hy]
  refine blues_m (B0 := fun _ _ => none) hy hM2 v c2 hp2 rfl hF2 (fun z n1 n2' n3 n4 n5 => ?_)
  have hcl := ctB_le F (10 * kg (aK A))
  refine wp_lt ?_
  refine wp_for3 (i0 := 0) (kn (aK A)) (fun c a b => a = (lkQ (lkF A) c).1 ∧ b = n2 (lkQ (lkF A) c).2) (by have : FUEL = 100000 := rfl; omega) rfl (by omega) ⟨rfl, rfl⟩ ?_ ?_
  · intro f2 c a b hc hL hk2
    obtain ⟨x1, x2⟩ := hL
    rw [cellsG hy (n1.1.geo v.1), cp_s]
    refine wp_brf (by show ¬ n2 (kn (aK A)) ≤ n2 c; rw [n2_le (by omega) (by omega)]; omega) ?_
    have hrow : ∀ t, t < 10 * kg (aK A) → F t = true → z.1 102 (30 * ctB F t + c) = n2 (uK (aK A) (aS A) c t) := fun t ht hf => by
      have hlt : ctB F t < ctB F (10 * kg (aK A)) := by
        have mono : ∀ b, t < b → ctB F t < ctB F b := by
          intro b
          induction b with
          | zero => intro q; omega
          | succ b ih =>
            intro q
            rw [ctB_s]
            by_cases eb : t = b
            · rw [← eb, if_pos hf]; omega
            · have := ih (by omega)
              split <;> omega
        exact mono _ ht
      rw [n5 t ht hf hlt c (by omega)]
      exact (uK_s v c ht).2
    have hR : ∀ t, t < 10 * kg (aK A) → F t = true → (fun i => (z.1 102 (30 * i + c)).toNatClampNeg) (ctB F t) = uK (aK A) (aS A) c t := fun t ht hf => by
      show (z.1 102 (30 * ctB F t + c)).toNatClampNeg = _
      have := (uK_s v c ht).1
      rw [hrow t ht hf, n2_nat (by omega)]
    have key := (lk_key (F := F) (u := uK (aK A) (aS A) c) (R := fun i => (z.1 102 (30 * i + c)).toNatClampNeg) (T := 10 * kg (aK A)) hR (fun t ht => (uK_s v c ht).1) (10 * kg (aK A)) (Nat.le_refl _)).2.2
    have hr : f_X12_unlike y 73 (n2 c) z = some (n2 (lkF A c)) := by
      rw [unlike_ms hy n4.1 (by omega) (show c < 30 by omega) (R := fun i => (z.1 102 (30 * i + c)).toNatClampNeg) (fun i hi => ?_)]
      · unfold lkF
        rw [hF, key]
      · obtain ⟨t, t1, t2, t3⟩ := ctB_sur F _ i hi
        have := hrow t t1 t2
        have u := (uK_s v c t1).1
        rw [t3] at this
        rw [this, n2_nat (by omega)]
        exact ⟨u, rfl⟩
    have k1 := lkF_le A c
    have k2 := lkQ_le (lkF_le A) c
    rw [hr, cp_s]
    refine wp_jn (wp_br (fun q => wp_lt ?_) (fun q => wp_lt ?_))
    · rw [n2_s]
      refine hk2 _ _ ?_
      rw [x2, n2_lt (by omega) (by omega)] at q
      rw [lkQ_p q]
      exact ⟨rfl, rfl⟩
    · rw [n2_s]
      refine hk2 _ _ ?_
      rw [x2, n2_lt (by omega) (by omega)] at q
      rw [lkQ_n q]
      exact ⟨x1, x2⟩
  · intro f2 a b hL
    obtain ⟨x1, x2⟩ := hL
    rw [cellsG hy (n1.1.geo v.1), cp_s]
    refine wp_brt (Int32.le_refl _) (wp_jn ?_)
    exact wp_br (fun q => OM.ret' (by rw [if_pos q]; exact x1) n1 (k2.trans n2') n3) (fun q => OM.ret' (by rw [if_neg q]; exact x2) n1 (k2.trans n2') n3)
theorem b_look (A : St) (w : Int32) : (lokP A w).1 ≤ 1 := by
  unfold lokP
  repeat' split
  all_goals first | exact Nat.zero_le _ | exact Nat.le_refl _
theorem c_look {y : Lay} (hy : LY y) {A : St} {M : Mem} (h : HR A M) (w : Int32) {Q : Int32 → Prop} {J : Mem → Option Int32} (hJ : ∀ N, HX N → wp (J N) Q) :
    wp (c0 (f_L_look y 1 w 110 M) (fun (r : Int32) (M1 : Mem) => gK y 73 (0, 12) (c0 (f_X12_look y 73 w M1) fun (b : Int32) (M2 : Mem) => cp (f_X12_thrown y 73 M2) fun (t : Int32) => br (t = r) (jn (fun (_u : Unit) => J M2) fun j => br (r = 0) (gA y 110 3 (0 : Int32) (br ((lg_cmp (M2.2.1 110 (0 : Int32).toNatClampNeg) (b.toInt64)) = 0) (j ()) (some (0 : Int32)))) (j ())) (some (0 : Int32))))) Q := by
  unfold f_L_look
  exact chC hy h.2.2 h.1 (c := (lokP A w).1) (R := (lokP A w).2) (Nat.le_succ_of_le (b_look A w)) (lop1 hy (look_ca hy h.2.1 h.1 w) (b_look A w)) (fun N hN => look_ma hy hN h.1 w) hJ
