/-! ===== what is seen: skilled ===== -/
def skS (S : Sk) (g v : Nat) : Sk := (sB S, sSp S, up (sSk S) g (n2 v), sPg S, sRs S, sKn S, sMa S, sDy S, 0)
theorem skk_up {sk : Row} {g v : Nat} (h : SKK sk) (hg : g < 6) (hv : v ≤ 9) : SKK (up sk g (n2 v)) := by
  refine ⟨fun k => ?_, fun k hk => ?_⟩
  · by_cases e : k = g
    · exact ⟨v, hv, by rw [e, up_eq]⟩
    · rw [up_ne e]; exact h.1 k
  · rw [up_ne (by omega)]; exact h.2 k hk
theorem aok_sk {K : KG} {S : Sk} (h : AOK K S) {g v : Nat} (hg : g < 6) (hv : v ≤ 9) : AOK K (skS S g v) := ⟨⟨h.1.1, h.1.2.1, skk_up h.1.2.2.1 hg hv, h.1.2.2.2⟩, h.2⟩
/-- the last day of which something is seen -/
def lstD (s : Sn) (n : Nat) : Int32 := it (fun k m => jmax m (s.2.2.1 k)) 0 n
theorem jmax_n {a b : Nat} (ha : a < 2147483648) (hb : b < 2147483648) : jmax (n2 a) (n2 b) = n2 (max a b) := by
  unfold jmax
  by_cases h : n2 a < n2 b
  · rw [if_pos h]; rw [n2_lt ha hb] at h; rw [show max a b = b by omega]
  · rw [if_neg h]; rw [n2_lt ha hb] at h; rw [show max a b = a by omega]
theorem lstD_n {K : KG} {s : Sn} (h : NOK K s) : ∀ n, n ≤ s.1 → ∃ d, d ≤ 20 ∧ lstD s n = n2 d := by
  intro n
  induction n with
  | zero => intro _; exact ⟨0, by decide, rfl⟩
  | succ n ih =>
    intro hn
    obtain ⟨d, h1, h2⟩ := ih (by omega)
    obtain ⟨-, ⟨e, h3, h4⟩, -⟩ := h.2 n (by omega)
    refine ⟨max d e, by omega, ?_⟩
    show jmax (lstD s n) (s.2.2.1 n) = _
    rw [h2, h4, jmax_n (by omega) (by omega)]
def ls (s : Sn) : Nat := (lstD s s.1).toNatClampNeg
theorem ls_n {K : KG} {s : Sn} (h : NOK K s) : ls s ≤ 20 ∧ lstD s s.1 = n2 (ls s) := by
  obtain ⟨d, h1, h2⟩ := lstD_n h s.1 (Nat.le_refl _)
  unfold ls
  rw [h2, n2_nat (by omega)]
  exact ⟨h1, rfl⟩
abbrev fitP (s : Sn) (B : Row) (d n : Nat) : Prop := ∀ k, k < n → s.2.2.1 k = n2 d → B (s.2.1 k).toNatClampNeg = s.2.2.2 k
def fitQ (K : KG) (s : Sn) (S : Sk) : Nat → Bool := fun d => decide (¬ fitP s (sB (pDays K S d)) d s.1)
def fitO (K : KG) (s : Sn) (S : Sk) : Option Nat := fst (fitQ K s S) (ls s + 1)
def fitV (K : KG) (s : Sn) (S : Sk) : Int32 := if fitO K s S = none then 1 else 0
theorem fitQ_eqo {K : KG} {s : Sn} {S T : Sk} (h : vo S = vo T) : fitQ K s S = fitQ K s T := by
  funext d
  unfold fitQ
  rw [b_eqo (pDays_eqo h d)]
theorem fitV_eqo {K : KG} {s : Sn} {S T : Sk} (h : vo S = vo T) : fitV K s S = fitV K s T := by
  unfold fitV fitO
  rw [fitQ_eqo h]
theorem lastSeen_c {y : Lay} (hy : LY y) {A : St} {M : Mem} (h : CR A M) (v : VAL A) : f_X4_lastSeenDay y 30 M = some (n2 (ls (mN (aM A)))) := by
  unfold f_X4_lastSeenDay
  have h8 : (mN (aM A)).1 ≤ 8 := v.2.1.2.2.1
  have hN : NOK (aK A) (mN (aM A)) := v.2.1.2.2
  obtain ⟨-, -, b3, -⟩ := h.2.1
  have b31 : M.1 30 6 = n2 (mN (aM A)).1 := b3.1
  rw [← (ls_n hN).2]
  refine wp_eq ?_
  refine wp_for2 (i0 := 0) (mN (aM A)).1 (fun i z => z = lstD (mN (aM A)) i) (by have : FUEL = 100000 := rfl; omega) rfl (by omega) rfl ?_ ?_
  · intro f i z hi hI hk
    subst hI
    rw [gK_t (k_30 hy), jn_s, b31]
    refine wp_brf (by rw [n2_le (by omega) (by omega)]; omega) (wp_brf (nle_l (m := 8) rfl (by omega) (by omega)) ?_)
    rw [r_30_3 hy, gN_t (by decide), gA_n (k_34 hy) (show i < 8 by omega) (by omega), lT_s, lT_s, n2_nat (show i < 2147483648 by omega), n2_s, (b3.2 i hi).2.1]
    exact hk _ rfl
  · intro f z hI
    subst hI
    rw [gK_t (k_30 hy), jn_s, b31]
    exact wp_brt (Int32.le_refl _) (wp_some rfl)
theorem fitsSeen_c {y : Lay} (hy : LY y) {A : St} {M : Mem} (h : CR A M) (v : VAL A) (d : Nat) : f_X4_fitsSeen y 30 58 (n2 d) M = some (if fitP (mN (aM A)) (M.1 59) d (mN (aM A)).1 then 1 else 0) := by
  unfold f_X4_fitsSeen
  have h8 : (mN (aM A)).1 ≤ 8 := v.2.1.2.2.1
  have h30 := v.1.n30
  have hN : NOK (aK A) (mN (aM A)) := v.2.1.2.2
  obtain ⟨-, -, b3, -⟩ := h.2.1
  have b31 : M.1 30 6 = n2 (mN (aM A)).1 := b3.1
  refine wp_eq ?_
  refine wp_for0 (i0 := 0) (mN (aM A)).1 (fun i => fitP (mN (aM A)) (M.1 59) d i) (by have : FUEL = 100000 := rfl; omega) rfl (by omega) (fun k hk => absurd hk (Nat.not_lt_zero _)) ?_ ?_
  · intro f i hi hI hk
    obtain ⟨c1, c2, c3⟩ := b3.2 i hi
    obtain ⟨⟨c, hc, hc2⟩, -, -⟩ := hN.2 i hi
    rw [gK_t (k_30 hy), jn_s, b31]
    refine wp_brf (by rw [n2_le (by omega) (by omega)]; omega) (wp_brf (nle_l (m := 8) rfl (by omega) (by omega)) ?_)
    rw [r_30_3 hy, gN_t (by decide), gA_n (k_34 hy) (show i < 8 by omega) (by omega), jn_s, n2_nat (show i < 2147483648 by omega), c2]
    have go : (mN (aM A)).2.2.1 i = n2 d → M.1 59 ((mN (aM A)).2.1 i).toNatClampNeg = (mN (aM A)).2.2.2 i → fitP (mN (aM A)) (M.1 59) d (i + 1) := fun e1 e2 k hk he => by
      by_cases e : k = i
      · rw [e]; exact e2
      · exact hI k (by omega) he
    refine wp_br (fun q => ?_) (fun q => ?_)
    · rw [r_30_2 hy, r_30_4 hy, gN_t (by decide), gA_n (k_33 hy) (show i < 8 by omega) (by omega), gK_t (k_58 hy), c1]
      have hc2' : (mN (aM A)).2.1 i = n2 c := hc2
      rw [hc2', blueOf_58 hy (show c < 30 by omega), cp_s, gN_t (by decide), gA_n (k_35 hy) (show i < 8 by omega) (by omega), c3]
      refine wp_br (fun q2 => ?_) (fun q2 => wp_some ?_)
      · rw [lT_s, n2_s]
        exact hk (go q (by rw [hc2', n2_nat (by omega)]; exact q2))
      · rw [if_neg (fun z => q2 (by have := z i hi q; rw [hc2', n2_nat (by omega)] at this; exact this))]
    · rw [lT_s, n2_s]
      refine hk (fun k hk he => ?_)
      by_cases e : k = i
      · rw [e] at he; exact absurd he q
      · exact hI k (by omega) he
  · intro f hI
    rw [gK_t (k_30 hy), jn_s, b31]
    refine wp_brt (Int32.le_refl _) (wp_some ?_)
    rw [if_pos hI]
/-- the class: would it fit, with that trial sky -/
theorem fitL_c {y : Lay} (hy : LY y) {A : St} {M : Mem} (h : CR A M) (v : VAL A) {S : Sk} (hS : SOK (aK A) S) (hM : vo (skV M 58 59 62 63) = vo S) {M0 : Mem} (hk0 : kM M0 M) : wp (fixN (fun _ _ => none) (fun (s14 : Int32 → Mem → Option (Int32 × Mem)) (v12 : Int32) (M13 : Mem) => br (n2 (ls (mN (aM A))) < v12) (some ((1 : Int32), M13)) (cp (f_X4_fitsSeen y 30 58 v12 M13) fun (r18 : Int32) => br (r18 = 0) (some ((0 : Int32), M13)) (jn (fun (M21 : Mem) => lt (v12 + (1 : Int32)) fun (v23 : Int32) => s14 v23 M21) fun j22 => br (n2 (ls (mN (aM A))) ≤ v12) (j22 M13) (c0 (f_X8_passDay y 58 M13) fun (r26 : Int32) (M27 : Mem) => j22 M27)))) FUEL (0 : Int32) M) (fun o => o.1 = fitV (aK A) (mN (aM A)) S ∧ CR A o.2 ∧ kM M0 o.2) := by
  have hN : NOK (aK A) (mN (aM A)) := v.2.1.2.2
  obtain ⟨hl1, -⟩ := ls_n hN
  generalize hL : ls (mN (aM A)) = L at hl1
  refine wp_for (i0 := 0) (L + 1) (fun d s => CR A s ∧ kM M0 s ∧ vo (skV s 58 59 62 63) = vo (pDays (aK A) S (min d L)) ∧ fst (fitQ (aK A) (mN (aM A)) S) d = none) (by have : FUEL = 100000 := rfl; omega) rfl (by omega) ⟨h, hk0, by rw [Nat.zero_min]; exact hM, rfl⟩ ?_ ?_
  · intro f d s hd hI hk
    obtain ⟨i1, i2, i3, i4⟩ := hI
    rw [show min d L = d by omega] at i3
    refine wp_brf (by rw [n2_lt (by omega) (by omega)]; omega) ?_
    rw [fitsSeen_c hy i1 v d, cp_s]
    have e59 : s.1 59 = sB (pDays (aK A) S d) := b_eqo i3
    rw [e59]
    by_cases q : fitP (mN (aM A)) (sB (pDays (aK A) S d)) d (mN (aM A)).1
    · rw [if_pos q]
      refine wp_brf (by decide) (wp_jn ?_)
      have hno : fst (fitQ (aK A) (mN (aM A)) S) (d + 1) = none := fst_no i4 (fun z => (of_decide_eq_true z) q)
      refine wp_br (fun w => ?_) (fun w => ?_)
      · rw [n2_le (by omega) (by omega)] at w
        refine wp_lt ?_
        rw [n2_s]
        exact hk _ ⟨i1, i2, by rw [show min (d + 1) L = d by omega]; exact i3, hno⟩
      · rw [n2_le (by omega) (by omega)] at w
        have hSd : SOK (aK A) (skV s 58 59 62 63) := SOK.eqo (pDays_ok v.1 hS d) i3.symm
        refine wp_c0 _ (tday_c hy i1 v hSd) (fun r M2 x => ?_)
        obtain ⟨x1, x2, x3, -⟩ := x
        dsimp only at x1 x2 x3
        refine wp_lt ?_
        rw [n2_s]
        refine hk _ ⟨x1, i2.trans x2, ?_, hno⟩
        rw [x3, show min (d + 1) L = d + 1 by omega, pDays_s, vo_pDay i3]
    · rw [if_neg q]
      refine wp_brt rfl (wp_some ⟨?_, i1, i2⟩)
      unfold fitV fitO
      rw [hL, fst_yes i4 (decide_eq_true q) (L + 1) hd, if_neg (by intro z; cases z)]
  · intro f s hI
    obtain ⟨i1, i2, i3, i4⟩ := hI
    refine wp_brt (by rw [n2_lt (by omega) (by omega)]; omega) (wp_some ⟨?_, i1, i2⟩)
    unfold fitV fitO
    rw [hL, if_pos i4]
theorem trial_copy {y : Lay} (hy : LY y) {A : St} {M : Mem} (h : CR A M) (v : VAL A) {β : Type} {k : Int32 → Mem → Option β} {Q : β → Prop} (hk : ∀ r N, CR A N → kM M N → vo (skV N 58 59 62 63) = vo (aS A) → N.2 = M.2 → wp (k r N) Q) : wp (c0 (f_X8_copyFrom y 58 37 M) k) Q := by
  have hS := h.sok v
  refine wp_c0 _ (copyFrom_58_37 hy h.2.2.1.2 (hS.zr v.1)) (fun r M1 h1 => ?_)
  obtain ⟨-, h2, h3, -⟩ := h1
  dsimp only at h2 h3
  have hz1 : SOK (aK A) (skV M1 58 59 62 63) := by rw [h3]; exact hS
  exact hk r M1 (h.trial (h2.mono (by decide)) (SOK.zr (s := 58) v.1 hz1)) (h2.kM (by decide)) (by rw [h3]; exact h.2.1.1) h2.1
theorem setSkill_58 {y : Lay} (hy : LY y) {M : Mem} {g : Nat} (hg : g < 6) (x : Int32) : f_X8_setSkill y 58 (n2 g) x M = some (0, sr M 63 (up (M.1 63) g x)) := by
  unfold f_X8_setSkill
  rw [jn_s, bR_f (n2_n0 (show g < 2147483648 by omega)), bR_f (nle_l (c := 6) (m := 6) rfl hg (by omega)), gK_t (k_58 hy), r_58_5 hy, gN_t (by decide), gA_n (k_63 hy) hg (by omega), lT_s, n2_nat (show g < 2147483648 by omega), wI_sr]
theorem setSkill_58' {y : Lay} {M : Mem} (x : Int32) : f_X8_setSkill y 58 (-1) x M = some (0, M) := by
  unfold f_X8_setSkill
  rw [jn_s, bR_t (by decide)]
theorem skill_c {A : St} {M : Mem} (h : CR A M) (v : VAL A) (hv : vo (skV M 58 59 62 63) = vo (aS A)) {g s : Nat} (hg : g < 6) (hs : s ≤ 9) : CR A (sr M 63 (up (M.1 63) g (n2 s))) ∧ vo (skV (sr M 63 (up (M.1 63) g (n2 s))) 58 59 62 63) = vo (skS (aS A) g s) := by
  have e2 : vo (skV (sr M 63 (up (M.1 63) g (n2 s))) 58 59 62 63) = vo (skS (aS A) g s) := by
    have e : vo (skV (sr M 63 (up (M.1 63) g (n2 s))) 58 59 62 63) = skS (skV M 58 59 62 63) g s := rfl
    rw [e]
    unfold skS
    rw [b_eqo hv, sp_eqo hv, sk_eqo hv, pg_eqo hv, rs_eqo hv, kn_eqo hv, ma_eqo hv, dy_eqo hv]
    rfl
  have hz : SOK (aK A) (skV (sr M 63 (up (M.1 63) g (n2 s))) 58 59 62 63) := SOK.eqo (aok_sk v.2.1.1 hg hs).1 e2.symm
  exact ⟨h.trial ((Eqx.refl _ _).sr (by decide)) (SOK.zr (s := 58) v.1 hz), e2⟩
theorem wouldFit_c {y : Lay} (hy : LY y) {A : St} {M : Mem} (h : CR A M) (v : VAL A) {g s : Nat} (hg : g < 6) (hs : s ≤ 9) : wp (f_X11_wouldFit y 1 (n2 g) (n2 s) M) (fun o => o.1 = fitV (aK A) (mN (aM A)) (skS (aS A) g s) ∧ CR A o.2 ∧ kM M o.2) := by
  unfold f_X11_wouldFit
  rw [gK_t (k_1 hy), r_1_5 hy, r_1_3 hy, gN_t (by decide), gN_t (by decide), gK_t (k_30 hy), r_30_0 hy, gN_t (by decide), gK_t (k_58 hy)]
  refine trial_copy hy h v (fun r M1 a1 a2 a3 _ => ?_)
  rw [setSkill_58 hy hg, c0_s]
  obtain ⟨b1, b2⟩ := skill_c a1 v a3 hg hs
  rw [lastSeen_c hy b1 v, cp_s]
  exact fitL_c hy b1 v (aok_sk v.2.1.1 hg hs).1 b2 (a2.trans (kM_sr (kM.refl M1) (by decide)))
theorem wouldFit_c0 {y : Lay} (hy : LY y) {A : St} {M : Mem} (h : CR A M) (v : VAL A) (x : Int32) : wp (f_X11_wouldFit y 1 (-1) x M) (fun o => o.1 = fitV (aK A) (mN (aM A)) (aS A) ∧ CR A o.2 ∧ kM M o.2) := by
  unfold f_X11_wouldFit
  rw [gK_t (k_1 hy), r_1_5 hy, r_1_3 hy, gN_t (by decide), gN_t (by decide), gK_t (k_30 hy), r_30_0 hy, gN_t (by decide), gK_t (k_58 hy)]
  refine trial_copy hy h v (fun r M1 a1 a2 a3 _ => ?_)
  rw [setSkill_58', c0_s, lastSeen_c hy a1 v, cp_s]
  exact fitL_c hy a1 v v.2.1.1.1 a3 a2
/-! who may have another skill: t = 10 g + s -/
def ftB (K : KG) (s : Sn) (S : Sk) : Nat → Bool := fun t => decide (¬ sSk S (t / 10) = n2 (t % 10)) && decide (fitV K s (skS S (t / 10) (t % 10)) = 1)
def ctB (p : Nat → Bool) (n : Nat) : Nat := it (fun k a => if p k = true then a + 1 else a) 0 n
theorem ctB_s (p : Nat → Bool) (n : Nat) : ctB p (n + 1) = if p n = true then ctB p n + 1 else ctB p n := rfl
theorem ctB_le (p : Nat → Bool) : ∀ n, ctB p n ≤ n := by
  intro n
  induction n with
  | zero => exact Nat.le_refl 0
  | succ n ih => rw [ctB_s]; split <;> omega
theorem ctB_0 (p : Nat → Bool) : ∀ n, ctB p n = 0 ↔ fst p n = none := by
  intro n
  induction n with
  | zero => exact ⟨fun _ => rfl, fun _ => rfl⟩
  | succ n ih =>
    rw [ctB_s, fst_s]
    by_cases q : p n = true
    · rw [if_pos q]
      constructor
      · intro h; omega
      · intro h
        exfalso
        split at h
        · cases h
        · rw [if_pos q] at h; cases h
    · rw [if_neg q, ih]
      constructor
      · intro h; rw [h]; exact if_neg q
      · intro h
        split at h
        · cases h
        · rename_i z; exact z
def skiP (A : St) (w : Int32) : Nat × Int32 := if inR 0 2 w then (0, if w = 2 then fitV (aK A) (mN (aM A)) (aS A) else if w = 0 then n2 (ctB (ftB (aK A) (mN (aM A)) (aS A)) (10 * kg (aK A))) else enc (fst (ftB (aK A) (mN (aM A)) (aS A)) (10 * kg (aK A)))) else (1, 0)
theorem fitV01 (K : KG) (s : Sn) (S : Sk) : fitV K s S = 0 ∨ fitV K s S = 1 := by
  unfold fitV; split
  · right; rfl
  · left; rfl
theorem skilled_c {y : Lay} (hy : LY y) {A : St} {M : Mem} (h : CR A M) (v : VAL A) (w : Int32) : wp (f_X11_skilled y 1 w M) (OC A (skiP A w) M) := by
  unfold f_X11_skilled
  have hg6 := v.1.2.1.2.2
  rw [gK_t (k_1 hy)]
  unfold skiP
  rcases needWhat_s (y := y) (M := M) (m := 2) (by decide) w with ⟨q, e⟩ | ⟨q, e⟩
  · have e : f_X11_needWhat y 1 w 2 M = some (0, 0, M) := e
    have qq : inR 0 2 w := ⟨q.1, by have := q.2; omega⟩
    rw [e, cx_s, if_pos qq]
    refine wp_br (fun q2 => ?_) (fun q2 => ?_)
    · rw [if_pos q2]
      refine wp_c0 _ (wouldFit_c0 hy h v 0) (fun r M1 p => ?_)
      obtain ⟨p1, p2, p3⟩ := p
      dsimp only at p1 p2 p3
      refine wp_jn ?_
      rw [p1]
      rcases fitV01 (aK A) (mN (aM A)) (aS A) with z | z
      · rw [z]; exact wp_brt rfl (OC.ret p2 p3)
      · rw [z]; exact wp_brf (by decide) (OC.ret p2 p3)
    · rw [if_neg q2]
      refine wp_lt ?_
      generalize hF : ftB (aK A) (mN (aM A)) (aS A) = F
      refine wp_fork (κ := Int32 → Int32 → Int32 → Mem → Option (Nat × Int32 × Mem)) (S := Int32 × Int32 × Mem) (fun f j s => f s.1 s.2.1 (n2 j) s.2.2) (fun j s => (CR A s.2.2 ∧ kM M s.2.2) ∧ s.1 = n2 (ctB F (10 * j)) ∧ s.2.1 = enc (fst F (10 * j))) (kg (aK A)) (by have : FUEL = 100000 := rfl; omega) (i0 := 0) (s0 := (0, -1, M)) (by omega) ⟨⟨h, kM.refl M⟩, rfl, rfl⟩ ?_ ?_
      · intro f j s hj hI hk
        obtain ⟨a, b, s⟩ := s
        obtain ⟨⟨i1, i2⟩, i3, i4⟩ := hI
        dsimp only at i1 i2 i3 i4 hk ⊢
        rw [r_1_1 hy, gN_t (by decide), gK_t (k_4 hy), i1.1.1.2.2.2.2.1]
        refine wp_brf (by rw [n2_le (by omega) (by omega)]; omega) ?_
        refine wp_fork (κ := Int32 → Int32 → Int32 → Mem → Option (Nat × Int32 × Mem)) (S := Int32 × Int32 × Mem) (fun f i s => f s.1 s.2.1 (n2 i) s.2.2) (fun i s => (CR A s.2.2 ∧ kM M s.2.2) ∧ s.1 = n2 (ctB F (10 * j + i)) ∧ s.2.1 = enc (fst F (10 * j + i))) 10 (by decide) (i0 := 0) (s0 := (a, b, s)) (by decide) ⟨⟨i1, i2⟩, i3, i4⟩ ?_ ?_
        · intro f2 i s2 hi hJ hk2
          obtain ⟨a2, b2, s2⟩ := s2
          obtain ⟨⟨j1, j2⟩, j3, j4⟩ := hJ
          dsimp only at j1 j2 j3 j4 hk2 ⊢
          have hcl := ctB_le F (10 * j + i)
          have hc0 := ctB_0 F (10 * j + i)
          refine wp_brf (by rw [show (9 : Int32) = n2 9 from rfl, n2_lt (by decide) (by omega)]; omega) ?_
          have g6 : j < 6 := by omega
          rw [r_1_3 hy, gN_t (by decide), gK_t (k_30 hy), r_30_0 hy, gN_t (by decide), gK_t (k_37 hy), skillOf_37 hy g6, cp_s, j1.v.1.2.2]
          refine wp_jn ?_
          have hFv : F (10 * j + i) = (decide (¬ sSk (aS A) j = n2 i) && decide (fitV (aK A) (mN (aM A)) (skS (aS A) j i) = 1)) := by
            rw [← hF]; unfold ftB
            rw [show (10 * j + i) / 10 = j by omega, show (10 * j + i) % 10 = i by omega]
          have stay : ¬ F (10 * j + i) = true → ∀ N, CR A N → kM M N → wp (lt (n2 i + 1) fun v39 => f2 a2 b2 v39 N) (OC A (0, if w = 0 then n2 (ctB F (10 * kg (aK A))) else enc (fst F (10 * kg (aK A)))) M) := fun z N n1 n2' => by
            rw [lT_s, n2_s]
            refine hk2 (a2, b2, N) ⟨⟨n1, n2'⟩, ?_, ?_⟩
            · show a2 = n2 (ctB F (10 * j + i + 1))
              rw [ctB_s, if_neg z]; exact j3
            · show b2 = enc (fst F (10 * j + i + 1))
              rw [fst_s]
              cases hf : fst F (10 * j + i) with
              | none => rw [hf] at j4; rw [if_neg z]; exact j4
              | some t => rw [hf] at j4; exact j4
          refine wp_br (fun z => stay (fun u => ?_) s2 j1 j2) (fun z => ?_)
          · rw [hFv, Bool.and_eq_true, decide_eq_true_eq] at u
            exact u.1 z.symm
          · refine wp_c0 _ (wouldFit_c hy j1 v g6 (show i ≤ 9 by omega)) (fun r M1 p => ?_)
            obtain ⟨p1, p2, p3⟩ := p
            dsimp only at p1 p2 p3
            refine wp_br (fun z2 => stay (fun u => ?_) M1 p2 (j2.trans p3)) (fun z2 => ?_)
            · rw [hFv, Bool.and_eq_true, decide_eq_true_eq, decide_eq_true_eq, ← p1] at u
              rw [z2] at u
              exact absurd u.2 (by decide)
            · have hT : F (10 * j + i) = true := by
                rw [hFv, Bool.and_eq_true, decide_eq_true_eq, decide_eq_true_eq, ← p1]
                refine ⟨fun u => z u.symm, ?_⟩
                rcases fitV01 (aK A) (mN (aM A)) (skS (aS A) j i) with u | u
                · rw [← p1] at u; exact absurd u z2
                · rw [← p1] at u; exact u
              refine wp_jn ?_
              have az : a2 = 0 ↔ ctB F (10 * j + i) = 0 := by rw [j3]; exact n2_inj (j := 0) (by omega) (by decide)
              have fin : ∀ x, x = enc (fst F (10 * j + i + 1)) → wp (lt (a2 + 1) fun v48 => (fun (v35 v36 : Int32) (M37 : Mem) => lt (n2 i + 1) fun v39 => f2 v35 v36 v39 M37) v48 x M1) (OC A (0, if w = 0 then n2 (ctB F (10 * kg (aK A))) else enc (fst F (10 * kg (aK A)))) M) := fun x hx => by
                refine wp_lt (wp_lt ?_)
                rw [n2_s]
                refine hk2 (a2 + 1, x, M1) ⟨⟨p2, j2.trans p3⟩, ?_, hx⟩
                show a2 + 1 = n2 (ctB F (10 * j + i + 1))
                rw [ctB_s, if_pos hT, j3, n2_s]
              refine wp_br (fun z3 => ?_) (fun z3 => ?_)
              · refine wp_lt (fin _ ?_)
                rw [fst_s, hc0.mp (az.mp z3), show (10 : Int32) * n2 j = n2 (10 * j) from n2_mul 10 j, n2_add]
                show _ = enc (if F (10 * j + i) = true then some (10 * j + i) else none)
                rw [if_pos hT]; rfl
              · refine fin b2 ?_
                rw [fst_s]
                cases hf : fst F (10 * j + i) with
                | none => exact absurd (az.mpr (hc0.mpr hf)) z3
                | some t => rw [hf] at j4; exact j4
        · intro f2 s2 hJ
          obtain ⟨a2, b2, s2⟩ := s2
          obtain ⟨⟨j1, j2⟩, j3, j4⟩ := hJ
          dsimp only at j1 j2 j3 j4 ⊢
          refine wp_brt (by decide) (wp_lt ?_)
          rw [n2_s]
          exact hk (a2, b2, s2) ⟨⟨j1, j2⟩, by rw [show 10 * (j + 1) = 10 * j + 10 by omega]; exact j3, by rw [show 10 * (j + 1) = 10 * j + 10 by omega]; exact j4⟩
      · intro f s hI
        obtain ⟨a, b, s⟩ := s
        obtain ⟨⟨i1, i2⟩, i3, i4⟩ := hI
        dsimp only at i1 i2 i3 i4 ⊢
        rw [r_1_1 hy, gN_t (by decide), gK_t (k_4 hy), i1.1.1.2.2.2.2.1]
        refine wp_brt (Int32.le_refl _) (wp_jn ?_)
        exact wp_br (fun z => OC.ret' (by rw [if_pos z]; exact i3) i1 i2) (fun z => OC.ret' (by rw [if_neg z]; exact i4) i1 i2)
  · have e : f_X11_needWhat y 1 w 2 M = some (1, 0, M) := e
    have qq : ¬ inR 0 2 w := fun z => q ⟨z.1, by have := z.2; omega⟩
    rw [e, if_neg qq]
    exact OC.thr h (by decide)
