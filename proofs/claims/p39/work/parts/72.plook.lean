/-! ===== look: that it ends well ===== -/
theorem CR.one {A : St} {M N : Mem} (h : CR A M) (e : N.1 = M.1) : CR A N := h.kC1 (fun p _ => by rw [e])
theorem kM.one {M N : Mem} (e : N.1 = M.1) : kM M N := fun p _ => by rw [e]
theorem clearBlues_c {y : Lay} (hy : LY y) {M : Mem} : wp (f_X11_clearBlues y 1 M) (fun o => o.2.1 = M.1 ∧ ∀ c, c < 30 → o.2.2.1 70 c = 0 ∧ o.2.2.1 71 c = 0) := by
  unfold f_X11_clearBlues
  refine wp_for (i0 := 0) 30 (fun i s => s.1 = M.1 ∧ ∀ c, c < i → s.2.1 70 c = 0 ∧ s.2.1 71 c = 0) (by decide) rfl (by decide) ⟨rfl, fun c hc => absurd hc (Nat.not_lt_zero _)⟩ ?_ ?_
  · intro f i s hi hI hk
    refine wp_brf (nle_l (m := 30) rfl hi (by omega)) ?_
    rw [gK_t (k_1 hy), r_1_8 hy, r_1_9 hy, gN_t (by decide), gA_n (k_70 hy) hi (by omega)]
    refine wp_lt ?_
    rw [gN_t (by decide), gA_n (k_71 hy) hi (by omega)]
    refine wp_lt (wp_lt ?_)
    rw [n2_nat (show i < 2147483648 by omega), n2_s]
    refine hk _ ⟨hI.1, fun c hc => ?_⟩
    show u2 (u2 s.2.1 70 i 0) 71 i 0 70 c = 0 ∧ u2 (u2 s.2.1 70 i 0) 71 i 0 71 c = 0
    unfold u2
    by_cases e : c = i
    · subst e
      simp
    · have := hI.2 c (by omega)
      simp [e, this.1, this.2]
  · intro f s hI
    exact wp_brt (by decide) (wp_some hI)
/-- what one that fits adds to the blues -/
def BLS (R0 R : Nat → Nat → Int64) (B : Row) : Prop := ∀ c, c < 30 → (if 64 ≤ B c then R 71 c = R0 71 c ||| ((1 : Int64) <<< ((B c - 64).toInt64 &&& 63)) ∧ R 70 c = R0 70 c else R 70 c = R0 70 c ||| ((1 : Int64) <<< ((B c).toInt64 &&& 63)) ∧ R 71 c = R0 71 c)
theorem gatherBlues_c {y : Lay} (hy : LY y) {A : St} {M : Mem} (h : CR A M) (v : VAL A) {g s : Nat} (hg : g < 6) (hs : s ≤ 9) : wp (f_X11_gatherBlues y 1 (n2 g) (n2 s) M) (fun o => CR A o.2 ∧ kM M o.2 ∧ BLS M.2.1 o.2.2.1 (sB (pDays (aK A) (skS (aS A) g s) 5))) := by
  unfold f_X11_gatherBlues
  rw [gK_t (k_1 hy), r_1_5 hy, r_1_3 hy, gN_t (by decide), gN_t (by decide), gK_t (k_30 hy), r_30_0 hy, gN_t (by decide), gK_t (k_58 hy)]
  refine trial_copy hy h v (fun r M1 a1 a2 a3 a4 => ?_)
  rw [setSkill_58 hy hg, c0_s]
  obtain ⟨b1, b2⟩ := skill_c a1 v a3 hg hs
  have bm : kM M (sr M1 63 (up (M1.1 63) g (n2 s))) := a2.trans (kM_sr (kM.refl M1) (by decide))
  have b4 : (sr M1 63 (up (M1.1 63) g (n2 s))).2 = M.2 := a4
  generalize sr M1 63 (up (M1.1 63) g (n2 s)) = M2 at b1 b2 bm b4
  have hS := (aok_sk v.2.1.1 hg hs).1
  refine wp_for (i0 := 0) 5 (fun j z => (CR A z ∧ kM M z ∧ z.2 = M.2) ∧ vo (skV z 58 59 62 63) = vo (pDays (aK A) (skS (aS A) g s) j)) (by decide) rfl (by decide) ⟨⟨b1, bm, b4⟩, b2⟩ ?_ ?_
  · intro f j z hj hI hk
    obtain ⟨⟨i1, i2, i3⟩, i4⟩ := hI
    refine wp_brf (nle_l (m := 5) rfl hj (by omega)) ?_
    have hSd : SOK (aK A) (skV z 58 59 62 63) := SOK.eqo (pDays_ok v.1 hS j) i4.symm
    refine wp_c0 _ (passDay_58 hy v.1 i1.1 hSd) (fun r M3 q => ?_)
    obtain ⟨-, q2, q3, -, -⟩ := q
    dsimp only at q2 q3
    have hS' : SOK (aK A) (skV M3 58 59 62 63) := by rw [q3]; exact pDay_ok v.1 hSd
    refine wp_lt ?_
    rw [n2_s]
    refine hk _ ⟨⟨i1.trial (q2.mono (by decide)) (SOK.zr (s := 58) v.1 hS'), i2.trans (q2.kM (by decide)), q2.1.trans i3⟩, ?_⟩
    rw [q3, pDays_s, vo_pDay i4]
  · intro f z hI
    obtain ⟨⟨i1, i2, i3⟩, i4⟩ := hI
    refine wp_brt (by decide) ?_
    have e59 : z.1 59 = sB (pDays (aK A) (skS (aS A) g s) 5) := b_eqo i4
    generalize sB (pDays (aK A) (skS (aS A) g s) 5) = B at e59
    refine wp_for (i0 := 0) 30 (fun c w => w.1 = z.1 ∧ (∀ k, c ≤ k → w.2.1 70 k = M.2.1 70 k ∧ w.2.1 71 k = M.2.1 71 k) ∧ ∀ k, k < c → (if 64 ≤ B k then w.2.1 71 k = M.2.1 71 k ||| ((1 : Int64) <<< ((B k - 64).toInt64 &&& 63)) ∧ w.2.1 70 k = M.2.1 70 k else w.2.1 70 k = M.2.1 70 k ||| ((1 : Int64) <<< ((B k).toInt64 &&& 63)) ∧ w.2.1 71 k = M.2.1 71 k)) (by decide) rfl (by decide) ⟨rfl, fun k _ => by rw [i3]; exact ⟨rfl, rfl⟩, fun k hk => absurd hk (Nat.not_lt_zero _)⟩ ?_ ?_
    · intro f2 c w hc hJ hk2
      obtain ⟨j1, j2, j3⟩ := hJ
      refine wp_brf (nle_l (m := 30) rfl hc (by omega)) ?_
      rw [blueOf_58 hy hc, cp_s, j1, e59]
      obtain ⟨l1, l2⟩ := j2 c (Nat.le_refl c)
      refine wp_jn (wp_br (fun q => ?_) (fun q => ?_))
      · rw [r_1_9 hy, gN_t (by decide), gA_n (k_71 hy) hc (by omega), gA_n (k_71 hy) hc (by omega), n2_nat (show c < 2147483648 by omega)]
        refine wp_lt (wp_lt ?_)
        rw [n2_s]
        refine hk2 _ ⟨j1, fun k hk => ?_, fun k hk => ?_⟩
        · have hne : ¬ k = c := by omega
          have := j2 k (by omega)
          unfold wL u2
          simp [hne, this.1, this.2]
        · by_cases e : k = c
          · subst e
            rw [if_pos q]
            unfold wL u2
            simp [l1, l2]
          · have := j3 k (by omega)
            unfold wL u2
            simpa [e] using this
      · rw [r_1_8 hy, gN_t (by decide), gA_n (k_70 hy) hc (by omega), gA_n (k_70 hy) hc (by omega), n2_nat (show c < 2147483648 by omega)]
        refine wp_lt (wp_lt ?_)
        rw [n2_s]
        refine hk2 _ ⟨j1, fun k hk => ?_, fun k hk => ?_⟩
        · have hne : ¬ k = c := by omega
          have := j2 k (by omega)
          unfold wL u2
          simp [hne, this.1, this.2]
        · by_cases e : k = c
          · subst e
            rw [if_neg q]
            unfold wL u2
            simp [l1, l2]
          · have := j3 k (by omega)
            unfold wL u2
            simpa [e] using this
    · intro f2 w hJ
      obtain ⟨j1, j2, j3⟩ := hJ
      exact wp_brt (by decide) (wp_some ⟨i1.one j1, i2.trans (kM.one j1), j3⟩)
def lookE (w : Int32) : Nat := if inR 0 1 w then 0 else 1
theorem bc64 (y : Lay) (a : Int64) (M : Mem) : ∃ r, f_J13_bitCount_95d88 y a M = some r := by
  unfold f_J13_bitCount_95d88
  exact ⟨_, rfl⟩
theorem unlike_some {y : Lay} (hy : LY y) {M : Mem} {c : Nat} (hc : c < 30) : ∃ r, f_X11_unlikeBlues y 1 (n2 c) M = some r := by
  unfold f_X11_unlikeBlues
  rw [jn_s, bR_f (n2_n0 (by omega)), bR_t (by rw [show (30 : Int32) = n2 30 from rfl, n2_lt (by omega) (by decide)]; exact hc), gK_t (k_1 hy), r_1_8 hy, r_1_9 hy, gN_t (by decide), gA_n (k_70 hy) hc (by omega)]
  obtain ⟨r, hr⟩ := bc64 y (M.2.1 70 (n2 c).toNatClampNeg) M
  obtain ⟨r', hr'⟩ := bc64 y (M.2.1 71 (n2 c).toNatClampNeg) M
  rw [hr, cp_s, gN_t (by decide), gA_n (k_71 hy) hc (by omega), hr', cp_s]
  exact ⟨_, rfl⟩
theorem look_c {y : Lay} (hy : LY y) {A : St} {M : Mem} (h : CR A M) (v : VAL A) (w : Int32) : wp (f_X11_look y 1 w M) (fun o => o.1 = lookE w ∧ CR A o.2.2 ∧ kM M o.2.2) := by
  unfold f_X11_look lookE
  have hg6 := v.1.2.1.2.2
  have h30 := v.1.n30
  rw [gK_t (k_1 hy)]
  rcases needWhat_s (y := y) (M := M) (m := 1) (by decide) w with ⟨q, e⟩ | ⟨q, e⟩
  · have e : f_X11_needWhat y 1 w 1 M = some (0, 0, M) := e
    have qq : inR 0 1 w := ⟨q.1, by have := q.2; omega⟩
    rw [e, cx_s, if_pos qq]
    refine wp_c0 _ (clearBlues_c hy) (fun r M1 p => ?_)
    have p1 : M1.1 = M.1 := p.1
    refine wp_for (i0 := 0) (kg (aK A)) (fun g s => CR A s ∧ kM M s) (by have : FUEL = 100000 := rfl; omega) rfl (by omega) ⟨h.one p1, kM.one p1⟩ ?_ ?_
    · intro f g s hg hI hk
      obtain ⟨i1, i2⟩ := hI
      have g6 : g < 6 := by omega
      rw [r_1_1 hy, gN_t (by decide), gK_t (k_4 hy), i1.1.1.2.2.2.2.1]
      refine wp_brf (by rw [n2_le (by omega) (by omega)]; omega) ?_
      refine wp_for (i0 := 0) 10 (fun i z => CR A z ∧ kM M z) (by decide) rfl (by decide) ⟨i1, i2⟩ ?_ ?_
      · intro f2 i z hi hJ hk2
        obtain ⟨j1, j2⟩ := hJ
        refine wp_brf (by rw [show (9 : Int32) = n2 9 from rfl, n2_lt (by decide) (by omega)]; omega) ?_
        rw [r_1_3 hy, gN_t (by decide), gK_t (k_30 hy), r_30_0 hy, gN_t (by decide), gK_t (k_37 hy), skillOf_37 hy g6, cp_s]
        refine wp_jn ?_
        have nx : ∀ N, CR A N → kM M N → wp (lt (n2 i + 1) fun v48 => f2 v48 N) (fun o => o.1 = 0 ∧ CR A o.2.2 ∧ kM M o.2.2) := fun N n1 n2' => by
          rw [lT_s, n2_s]; exact hk2 N ⟨n1, n2'⟩
        refine wp_br (fun _ => nx z j1 j2) (fun _ => ?_)
        refine wp_c0 _ (wouldFit_c hy j1 v g6 (show i ≤ 9 by omega)) (fun r M2 p => ?_)
        obtain ⟨-, p2, p3⟩ := p
        dsimp only at p2 p3
        refine wp_br (fun _ => nx M2 p2 (j2.trans p3)) (fun _ => ?_)
        refine wp_c0 _ (gatherBlues_c hy p2 v g6 (show i ≤ 9 by omega)) (fun r M3 p => ?_)
        obtain ⟨u2', u3, -⟩ := p
        exact nx M3 u2' ((j2.trans p3).trans u3)
      · intro f2 z hJ
        refine wp_brt (by decide) (wp_lt ?_)
        rw [n2_s]
        exact hk z hJ
    · intro f s hI
      obtain ⟨i1, i2⟩ := hI
      rw [r_1_1 hy, gN_t (by decide), gK_t (k_4 hy), i1.1.1.2.2.2.2.1]
      refine wp_brt (Int32.le_refl _) (wp_lt ?_)
      refine wp_for3 (i0 := 0) (kn (aK A)) (fun _ _ _ => True) (by have : FUEL = 100000 := rfl; omega) rfl (by omega) trivial ?_ ?_
      · intro f2 c a b hc _ hk2
        rw [cells_4 hy (i1.1.geo v.1), cp_s]
        refine wp_brf (by show ¬ n2 (kn (aK A)) ≤ n2 c; rw [n2_le (by omega) (by omega)]; omega) ?_
        obtain ⟨r, hr⟩ := unlike_some hy (M := s) (show c < 30 by omega)
        rw [hr, cp_s]
        refine wp_jn (wp_br (fun _ => wp_lt ?_) (fun _ => wp_lt ?_))
        · rw [n2_s]; exact hk2 _ _ trivial
        · rw [n2_s]; exact hk2 _ _ trivial
      · intro f2 a b _
        rw [cells_4 hy (i1.1.geo v.1), cp_s]
        refine wp_brt (Int32.le_refl _) (wp_jn ?_)
        exact wp_br (fun _ => wp_some ⟨rfl, i1, i2⟩) (fun _ => wp_some ⟨rfl, i1, i2⟩)
  · have e : f_X11_needWhat y 1 w 1 M = some (1, 0, M) := e
    have qq : ¬ inR 0 1 w := fun z => q ⟨z.1, by have := z.2; omega⟩
    rw [e, if_neg qq]
    exact wp_some ⟨rfl, h, kM.refl M⟩
/-! the model -/
theorem ctB_sur (F : Nat → Bool) : ∀ T i, i < ctB F T → ∃ t, t < T ∧ F t = true ∧ ctB F t = i := by
  intro T
  induction T with
  | zero => intro i h; exact absurd h (Nat.not_lt_zero _)
  | succ T ih =>
    intro i h
    rw [ctB_s] at h
    by_cases q : F T = true
    · rw [if_pos q] at h
      by_cases e : i = ctB F T
      · exact ⟨T, Nat.lt_succ_self T, q, e.symm⟩
      · obtain ⟨t, t1, t2⟩ := ih i (by omega)
        exact ⟨t, by omega, t2⟩
    · rw [if_neg q] at h
      obtain ⟨t, t1, t2⟩ := ih i h
      exact ⟨t, by omega, t2⟩
def BLM (K : KG) (S : Sk) (F : Nat → Bool) (R : Row) (T n : Nat) : Prop := ∀ t, t < T → F t = true → ctB F t < n → ∀ c, c < 30 → R (30 * ctB F t + c) = sB (pDays K (skS S (t / 10) (t % 10)) 5) c
/-- the model's blues of all that fit -/
theorem blues_m {y : Lay} (hy : LY y) {A : St} {M : Mem} (h : MR A M) (v : VAL A) (hc : M.1 73 4 = 0) (hp : PKD (M.1 93) 0 (aS A)) {F : Nat → Bool} {T : Nat} (hT : T = 10 * kg (aK A)) (hF : FTR F M T) {Q : Int32 × Mem → Prop} {B0 : Int32 → Mem → Option (Int32 × Mem)} {E : Mem → Option (Int32 × Mem)} (hE : ∀ z, MR A z → kC M z → z.1 73 4 = 0 → FTR F z T → BLM (aK A) (aS A) F (z.1 102) T (ctB F T) → wp (E z) Q) :
    wp (fixN (fun _ _ => none) (fun (s17 : Int32 → Mem → Option (Int32 × Mem)) (v15 : Int32) (M16 : Mem) => br ((M16.1 73 52) ≤ v15) (E M16) (gN (y.2.1 73 50) (gA y (y.2.1 73 50) 1 v15 (gd (¬ (10 : Int32) = 0) (lt ((M16.1 (y.2.1 73 50) v15.toNatClampNeg) / (10 : Int32)) fun (v44 : Int32) => gN (y.2.1 73 13) (gA y (y.2.1 73 13) 1 v44 (lt (M16.1 (y.2.1 73 13) v44.toNatClampNeg) fun (v47 : Int32) => gA y (y.2.1 73 50) 1 v15 (gd (¬ (10 : Int32) = 0) (gA y (y.2.1 73 13) 1 v44 (lt (wI M16 (y.2.1 73 13) v44.toNatClampNeg ((M16.1 (y.2.1 73 50) v15.toNatClampNeg) - (M16.1 (y.2.1 73 50) v15.toNatClampNeg) / (10 : Int32) * (10 : Int32))) fun (M51 : Mem) => c0 (f_X12_goOn y 73 (5 : Int32) M51) fun (r52 : Int32) (M53 : Mem) => fixN (fun _ _ => none) (fun (s56 : Int32 → Mem → Option (Int32 × Mem)) (v54 : Int32) (M55 : Mem) => br ((30 : Int32) ≤ v54) (gA y (y.2.1 73 13) 1 v44 (lt (wI M55 (y.2.1 73 13) v44.toNatClampNeg v47) fun (M61 : Mem) => c0 (f_X12_unpack y 73 (y.2.1 73 42) (0 : Int32) M61) fun (r62 : Int32) (M63 : Mem) => lt (v15 + (1 : Int32)) fun (v64 : Int32) => s17 v64 M63)) (gN (y.2.1 73 51) (gN (y.2.1 73 28) (gA y (y.2.1 73 28) 1 v54 (gA y (y.2.1 73 51) 1 (((30 : Int32) * v15) + v54) (lt (wI M55 (y.2.1 73 51) (((30 : Int32) * v15) + v54).toNatClampNeg (M55.1 (y.2.1 73 28) v54.toNatClampNeg)) fun (M69 : Mem) => lt (v54 + (1 : Int32)) fun (v70 : Int32) => s56 v70 M69)))))) FUEL (0 : Int32) M53)))))))))) FUEL (0 : Int32) M) Q := by
  have hg6 := v.1.2.1.2.2
  have hS := v.2.1.1.1
  have hcT := ctB_le F T
  refine wp_for (i0 := 0) (ctB F T) (fun i z => ((MR A z ∧ kC M z ∧ z.1 73 4 = 0) ∧ PKD (z.1 93) 0 (aS A)) ∧ FTR F z T ∧ BLM (aK A) (aS A) F (z.1 102) T i) (by have : FUEL = 100000 := rfl; omega) rfl (by omega) ⟨⟨⟨h, kC.refl M, hc⟩, hp⟩, hF, fun t _ _ q => absurd q (Nat.not_lt_zero _)⟩ ?_ ?_
  · intro f i z hi hI hk
    obtain ⟨⟨⟨i1, i2, i3⟩, i4⟩, i5, i6⟩ := hI
    rw [i5.1]
    refine wp_brf (by rw [n2_le (by omega) (by omega)]; omega) ?_
    obtain ⟨t, t1, t2, t3⟩ := ctB_sur F T i hi
    have e101 : z.1 101 i = n2 t := by rw [← t3]; exact i5.2 t t1 t2
    have g6 : t / 10 < 6 := by omega
    have z85 : z.1 85 = sSk (aS A) := i1.v.1.2.2
    rw [r_73_50 hy, r_73_13 hy, gN_t (by decide), gA_n (k_101 hy) (show i < 60 by omega) (by omega), gd_t (by decide), n2_nat (show i < 2147483648 by omega), e101, show (10 : Int32) = n2 10 from rfl, n2_div (by omega) (by decide)]
    refine wp_lt ?_
    rw [gN_t (by decide), gA_n (k_85 hy) g6 (by omega), n2_nat (show t / 10 < 2147483648 by omega)]
    refine wp_lt ?_
    rw [gA_n (k_101 hy) (show i < 60 by omega) (by omega), gd_t (by decide), gA_n (k_85 hy) g6 (by omega), ← n2_div (show t < 2147483648 by omega) (show 10 < 2147483648 by decide), n2_mod (by omega) (by decide)]
    refine wp_lt ?_
    rw [wI_sr, z85]
    have hE1 : Eqx [85] z (sr z 85 (up (sSk (aS A)) (t / 10) (n2 (t % 10)))) := (Eqx.refl _ _).sr (by decide)
    have hB : MR (wK A (skS (aS A) (t / 10) (t % 10))) (sr z 85 (up (sSk (aS A)) (t / 10) (n2 (t % 10)))) := by
      have := MR_wK i1 hE1
      rw [sr_ap] at this
      exact this
    have vB : VAL (wK A (skS (aS A) (t / 10) (t % 10))) := v.wK (aok_sk v.2.1.1 g6 (show t % 10 ≤ 9 by omega))
    generalize hz1 : sr z 85 (up (sSk (aS A)) (t / 10) (n2 (t % 10))) = z1 at hE1 hB
    have hS1 := hB.sok vB
    refine wp_c0 _ (goOn_v hy v.1 hB.1 hS1 (d := 5) (by decide)) (fun r z2 p => ?_)
    obtain ⟨-, p2, p3, p4⟩ := p
    dsimp only at p2 p3 p4
    have hv2 : vo (moV z2) = vo (pDays (aK A) (skS (aS A) (t / 10) (t % 10)) 5) := by rw [p3]; exact pDays_eqo hB.2.1.1 5
    have e87 : z2.1 87 = sB (pDays (aK A) (skS (aS A) (t / 10) (t % 10)) 5) := b_eqo hv2
    have hS2 : SOK (aK A) (moV z2) := by rw [p3]; exact pDays_ok v.1 hS1 5
    have e102 : z2.1 102 = z.1 102 := by rw [p2.2 102 (by decide), hE1.2 102 (by decide)]
    refine wp_for (i0 := 0) 30 (fun c x => Eqx [102] z2 x ∧ (∀ k, (k < 30 * i ∨ 30 * i + c ≤ k) → x.1 102 k = z2.1 102 k) ∧ ∀ k, k < c → x.1 102 (30 * i + k) = sB (pDays (aK A) (skS (aS A) (t / 10) (t % 10)) 5) k) (by decide) rfl (by decide) ⟨Eqx.refl _ _, fun _ _ => rfl, fun k hk => absurd hk (Nat.not_lt_zero _)⟩ ?_ ?_
    · intro f2 c x hc hJ hk2
      obtain ⟨j1, j2, j3⟩ := hJ
      refine wp_brf (nle_l (m := 30) rfl hc (by omega)) ?_
      rw [r_73_51 hy, r_73_28 hy, gN_t (by decide), gN_t (by decide), gA_n (k_87 hy) hc (by omega), show (30 : Int32) * n2 i = n2 (30 * i) from n2_mul 30 i, n2_add, gA_n (k_102 hy) (show 30 * i + c < 1800 by omega) (by omega), n2_nat (show 30 * i + c < 2147483648 by omega), n2_nat (show c < 2147483648 by omega), j1.2 87 (by decide), e87]
      refine wp_lt (wp_lt ?_)
      rw [n2_s, wI_sr]
      refine hk2 _ ⟨j1.sr (by decide), fun k hk => ?_, fun k hk => ?_⟩
      · rw [sr_ap, up_ne (by omega)]; exact j2 k (by omega)
      · rw [sr_ap]
        by_cases e : k = c
        · rw [e, up_eq]
        · rw [up_ne (by omega)]; exact j3 k (by omega)
    · intro f2 x hJ
      obtain ⟨j1, j2, j3⟩ := hJ
      refine wp_brt (by decide) ?_
      have x85 : x.1 85 = up (sSk (aS A)) (t / 10) (n2 (t % 10)) := by
        rw [j1.2 85 (by decide), p2.2 85 (by decide), ← hz1, sr_ap]
      rw [gA_t (k_85 hy) (by rw [n2_div (by omega) (by decide), n2_nat (by omega)]; exact fun u => by rcases u with u | u; exact n2_n0 (by omega) u; omega)]
      refine wp_lt ?_
      rw [wI_sr, x85, r_73_42 hy]
      have hup : up (up (sSk (aS A)) (t / 10) (n2 (t % 10))) (t / 10) (sSk (aS A) (t / 10)) = sSk (aS A) := by
        funext k; unfold up; split
        · rename_i q; rw [q]
        · rfl
      rw [hup]
      have hSx : SOK (aK A) (moV (sr x 85 (sSk (aS A)))) := by
        have e : moV (sr x 85 (sSk (aS A))) = vk (moV x) (sSk (aS A)) ∨ True := Or.inr trivial
        refine ⟨?_, ?_, ?_, ?_⟩
        · show BP (kn (aK A)) (x.1 73 34) (x.1 87)
          rw [j1.2 73 (by decide), j1.2 87 (by decide)]; exact hS2.1
        · show SPK (kn (aK A)) (x.1 88)
          rw [j1.2 88 (by decide)]; exact hS2.2.1
        · show SKK ((sr x 85 (sSk (aS A))).1 85)
          rw [sr_ap]; exact hS.2.2.1
        · show KNB (x.1 73 32)
          rw [j1.2 73 (by decide)]; exact hS2.2.2.2
      refine wp_c0 _ (unpack_93 hy (f := 0) (by decide) (S := aS A) ?_ ?_ ?_) (fun r N q => ?_)
      · rw [sr_ne (by decide), j1.2 93 (by decide), p2.2 93 (by decide), hE1.2 93 (by decide)]; exact i4
      · intro k hk
        exact (hSx.b v.1 k hk).trans (hS.b v.1 k hk).symm
      · intro k hk
        exact (hSx.sp k hk).trans (hS.sp k hk).symm
      obtain ⟨-, q2, q3, q4⟩ := q
      dsimp only at q2 q3 q4
      have f73 : ∀ k, ¬ (31 ≤ k ∧ k ≤ 35) → ¬ k = 41 → N.1 73 k = z.1 73 k := fun k k1 k2 => by
        rw [q4 k k1, sr_ne (by decide), j1.2 73 (by decide), p4 k (by omega) (by omega) (by omega) k2, hE1.2 73 (by decide)]
      have eN : Eqx [73, 87, 88, 90, 91, 92, 102] z N := by
        refine ⟨?_, fun p hp => ?_⟩
        · rw [q2.1, sr_2, j1.1, p2.1, hE1.1]
        · simp only [List.mem_cons, List.not_mem_nil, not_or, or_false] at hp
          by_cases e : p = 85
          · subst e
            rw [q2.2 85 (by decide), sr_ap, z85]
          · rw [q2.2 p (by simp [hp]), sr_ne e, j1.2 p (by simp [hp]), p2.2 p (by simp [hp]), hE1.2 p (by simp [e])]
      refine wp_lt ?_
      rw [n2_s]
      have N102 : N.1 102 = x.1 102 := by rw [q2.2 102 (by decide), sr_ne (by decide)]
      refine hk _ ⟨⟨⟨MR.look i1 (eN.mono (by decide)) ?_ (fun k hk => ?_), i2.trans (eN.kC (by decide)), ?_⟩, ?_⟩, ⟨?_, fun t' a b => ?_⟩, fun t' a b c' k hk => ?_⟩
      · rw [q3, sr_ap]
        exact i1.2.1.1.symm
      · have := K7_ne hk
        exact f73 k (by omega) (by omega)
      · rw [f73 4 (by decide) (by decide)]; exact i3
      · rw [eN.2 93 (by decide)]; exact i4
      · rw [f73 52 (by decide) (by decide)]; exact i5.1
      · rw [eN.2 101 (by decide)]; exact i5.2 t' a b
      · rw [N102]
        by_cases e : ctB F t' = i
        · have : t' = t := by
            have mono : ∀ b, ∀ a, F a = true → a < b → ctB F a < ctB F b := by
              intro b
              induction b with
              | zero => intro a _ q; omega
              | succ b ih =>
                intro a ha q
                rw [ctB_s]
                by_cases eb : a = b
                · rw [← eb, if_pos ha]; omega
                · have := ih a ha (by omega)
                  split <;> omega
            by_cases l1 : t' < t
            · have := mono t t' b l1; omega
            · by_cases l2 : t < t'
              · have := mono t' t t2 l2; omega
              · omega
          subst this
          rw [e]
          exact j3 k hk
        · rw [j2 _ (by omega), e102]
          exact i6 t' a b (by omega) k hk
  · intro f z hI
    obtain ⟨⟨⟨i1, i2, i3⟩, i4⟩, i5, i6⟩ := hI
    rw [i5.1]
    exact wp_brt (Int32.le_refl _) (hE z i1 i2 i3 i5 i6)
theorem unlike_m {y : Lay} (hy : LY y) {M : Mem} {m c : Nat} (hm : M.1 73 52 = n2 m) (hm60 : m ≤ 60) (hc : c < 30) : ∃ r, f_X12_unlike y 73 (n2 c) M = some r := by
  have key : wp (f_X12_unlike y 73 (n2 c) M) (fun _ => True) := by
    unfold f_X12_unlike
    refine wp_for2 (i0 := 0) m (fun _ _ => True) (by have : FUEL = 100000 := rfl; omega) rfl (by omega) trivial ?_ ?_
    · intro f i a hi _ hk
      rw [gK_t (k_73 hy), hm]
      refine wp_brf (by rw [n2_le (by omega) (by omega)]; omega) ?_
      have out : ∀ x : Int32, wp (jn (fun (v13 : Int32) => lt (a + v13) fun (v15 : Int32) => lt (n2 i + (1 : Int32)) fun (v16 : Int32) => f v15 v16) fun j14 => br (x = 0) (j14 (0 : Int32)) (j14 (1 : Int32))) (fun _ => True) := fun x => by
        refine wp_jn (wp_br (fun _ => wp_lt (wp_lt ?_)) (fun _ => wp_lt (wp_lt ?_)))
        · rw [n2_s]; exact hk _ trivial
        · rw [n2_s]; exact hk _ trivial
      refine wp_for2 (i0 := 0) i (fun _ _ => True) (by have : FUEL = 100000 := rfl; omega) rfl (by omega) trivial ?_ ?_
      · intro f2 j x hj _ hk2
        refine wp_jn ?_
        refine wp_brf (by rw [n2_le (by omega) (by omega)]; omega) ?_
        refine wp_br (fun _ => out x) (fun _ => ?_)
        rw [r_73_51 hy, gN_t (by decide), show (30 : Int32) * n2 j = n2 (30 * j) from n2_mul 30 j, show (30 : Int32) * n2 i = n2 (30 * i) from n2_mul 30 i, n2_add, n2_add, gA_n (k_102 hy) (show 30 * j + c < 1800 by omega) (by omega), gA_n (k_102 hy) (show 30 * i + c < 1800 by omega) (by omega)]
        refine wp_jn (wp_br (fun _ => wp_lt ?_) (fun _ => wp_lt ?_))
        · rw [n2_s]; exact hk2 _ trivial
        · rw [n2_s]; exact hk2 _ trivial
      · intro f2 x _
        refine wp_jn (wp_brt (Int32.le_refl _) (out x))
    · intro f a _
      rw [gK_t (k_73 hy), hm]
      exact wp_brt (Int32.le_refl _) (wp_some trivial)
  obtain ⟨r, hr, -⟩ := key
  exact ⟨r, hr⟩
theorem look_m {y : Lay} (hy : LY y) {A : St} {M : Mem} (h : MR A M) (v : VAL A) (w : Int32) : wp (f_X12_look y 73 w M) (fun o => o.2.1 73 4 = n2 (lookE w) ∧ MR A o.2 ∧ kC M o.2) := by
  unfold f_X12_look
  have h30 := v.1.n30
  have hg6 := v.1.2.1.2.2
  rw [gK_t (k_73 hy)]
  refine OM.start hy h (fun M0 h0 g0 hc0 => ?_)
  have z0 : (0 : Int32).toInt = 0 := by decide
  have z1 : (1 : Int32).toInt = 1 := by decide
  have hth : ¬ inR 0 1 w → wp (c0 (f_X12_fail y 73 1 M0) fun (r4 : Int32) (M5 : Mem) => some (r4, M5)) (fun o => o.2.1 73 4 = n2 (lookE w) ∧ MR A o.2 ∧ kC M o.2) := fun q => by
    refine wp_mono (OM.fail (r := 0) hy rfl (by decide : 1 ≠ 0) h0 g0) (fun o p => ?_)
    obtain ⟨p1, -, p2, p3⟩ := p
    have e : lookE w = 1 := if_neg q
    rw [e]
    exact ⟨p1, p2, p3⟩
  refine wp_jn (wp_br (fun q => hth (fun z => by rw [i_lt, z0] at q; have := z.1; omega)) (fun q => wp_br (fun q2 => ?_) (fun q2 => hth (fun z => by rw [i_le, z1] at q2; have := z.2; omega))))
  have e : lookE w = 0 := if_pos ⟨by rw [i_lt, z0] at q; omega, by rw [i_le, z1] at q2; omega⟩
  rw [e]
  refine wp_c0 _ (tellFits_m hy h0 v) (fun r M1 p => ?_)
  obtain ⟨p1, p2, p3, p4⟩ := p
  dsimp only at p1 p2 p3 p4
  have k1 : kC M M1 := g0.trans p2
  have c1 : M1.1 73 4 = 0 := by rw [p3, hc0]
  generalize ftB (aK A) (mN (aM A)) (aS A) = F at p4
  rw [r_73_42 hy, gN_t (by decide)]
  refine wp_c0 _ (pack_93 hy (f := 0) (by decide)) (fun r M2 q => ?_)
  obtain ⟨-, l2, l3, -⟩ := q
  dsimp only at l2 l3
  have hM2 : MR A M2 := by
    refine MR.look p1 (l2.mono (by decide)) ?_ (F73.row (l2.2 73 (by decide)))
    unfold moV
    rw [l2.2 73 (by decide), l2.2 87 (by decide), l2.2 88 (by decide), l2.2 85 (by decide)]
  have hp2 : PKD (M2.1 93) 0 (aS A) := l3.eqo p1.2.1.1
  have k2 : kC M M2 := k1.trans (l2.kC (by decide))
  have c2 : M2.1 73 4 = 0 := by rw [l2.2 73 (by decide), c1]
  have hF2 : FTR F M2 (10 * kg (aK A)) := by
    refine ⟨by rw [l2.2 73 (by decide)]; exact p4.1, fun t a b => ?_⟩
    rw [l2.2 101 (by decide)]; exact p4.2 t a b
  rw [← r_73_42 hy]
  refine blues_m (B0 := fun _ _ => none) hy hM2 v c2 hp2 rfl hF2 (fun z n1 n2' n3 n4 n5 => ?_)
  have hcl := ctB_le F (10 * kg (aK A))
  refine wp_lt ?_
  refine wp_for3 (i0 := 0) (kn (aK A)) (fun _ _ _ => True) (by have : FUEL = 100000 := rfl; omega) rfl (by omega) trivial ?_ ?_
  · intro f2 c a b hc _ hk2
    rw [cellsG hy (n1.1.geo v.1), cp_s]
    refine wp_brf (by show ¬ n2 (kn (aK A)) ≤ n2 c; rw [n2_le (by omega) (by omega)]; omega) ?_
    obtain ⟨r, hr⟩ := unlike_m hy (M := z) n4.1 (by omega) (show c < 30 by omega)
    rw [hr, cp_s]
    refine wp_jn (wp_br (fun _ => wp_lt ?_) (fun _ => wp_lt ?_))
    · rw [n2_s]; exact hk2 _ _ trivial
    · rw [n2_s]; exact hk2 _ _ trivial
  · intro f2 a b _
    rw [cellsG hy (n1.1.geo v.1), cp_s]
    refine wp_brt (Int32.le_refl _) (wp_jn ?_)
    exact wp_br (fun _ => wp_some ⟨n3, n1, k2.trans n2'⟩) (fun _ => wp_some ⟨n3, n1, k2.trans n2'⟩)
