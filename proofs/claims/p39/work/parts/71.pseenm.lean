/-! ===== what is seen: the model ===== -/
def LKS (M0 s : Mem) : Prop := Eqx [73, 87, 88, 90, 91, 92, 100] M0 s ∧ (∀ k, ¬ (31 ≤ k ∧ k ≤ 35) → ¬ k = 41 → s.1 73 k = M0.1 73 k) ∧ PKD (s.1 100) 0 (moV M0)
theorem LKS.com {K : KG} {M0 s : Mem} (h : LKS M0 s) (hC : COM K M0) : COM K s := hC.eqx h.1 (by decide)
theorem LKS.day {y : Lay} (hy : LY y) {A : St} {M0 s : Mem} (h0 : MR A M0) (v : VAL A) (hL : LKS M0 s) (hS : SOK (aK A) (moV s)) : wp (f_X12_aDay y 73 s) (fun o => LKS M0 o.2 ∧ moV o.2 = pDay (aK A) (moV s)) := by
  refine wp_mono (aDay_v hy v.1 (hL.com h0.1) hS) (fun o q => ?_)
  obtain ⟨-, q2, q3, q4⟩ := q
  refine ⟨⟨hL.1.trans (q2.mono (by decide)), fun k h1 h2 => ?_, ?_⟩, q3⟩
  · rw [q4 k (by omega) (by omega) (by omega) h2]; exact hL.2.1 k h1 h2
  · rw [q2.2 100 (by decide)]; exact hL.2.2
/-- what isAsSeen leaves -/
def ISA (A : St) (M N : Mem) : Prop := MR A N ∧ Eqx [73, 87, 88, 90, 91, 92, 100] M N ∧ ∀ k, ¬ (31 ≤ k ∧ k ≤ 35) → ¬ k = 41 → N.1 73 k = M.1 73 k
theorem isAsSeen_m {y : Lay} (hy : LY y) {A : St} {M : Mem} (h : MR A M) (v : VAL A) : wp (f_X12_isAsSeen y 73 M) (fun o => o.1 = fitV (aK A) (mN (aM A)) (aS A) ∧ ISA A M o.2) := by
  unfold f_X12_isAsSeen
  have h30 := v.1.n30
  have hN : NOK (aK A) (mN (aM A)) := v.2.1.2.2
  have h8 : (mN (aM A)).1 ≤ 8 := hN.1
  have hS0 := h.sok v
  rw [gK_t (k_73 hy), r_73_49 hy, gN_t (by decide)]
  refine wp_c0 _ (pack_100 hy (f := 0) (by decide)) (fun r M1 q => ?_)
  obtain ⟨-, q2, q3, -⟩ := q
  dsimp only at q2 q3
  have hL1 : LKS M M1 := ⟨q2.mono (by decide), fun k _ _ => by rw [q2.2 73 (by decide)], q3⟩
  have hV1 : vo (moV M1) = vo (aS A) := by
    have : moV M1 = moV M := by
      unfold moV
      rw [q2.2 73 (by decide), q2.2 87 (by decide), q2.2 88 (by decide), q2.2 85 (by decide)]
    rw [this]; exact h.2.1.1
  obtain ⟨-, -, b3, -⟩ := h.2.1
  have seen : ∀ s, LKS M s → s.1 73 37 = n2 (mN (aM A)).1 ∧ ∀ k, k < (mN (aM A)).1 → s.1 97 k = (mN (aM A)).2.1 k ∧ s.1 98 k = (mN (aM A)).2.2.1 k ∧ s.1 99 k = (mN (aM A)).2.2.2 k := fun s hs => by
    rw [hs.2.1 37 (by decide) (by decide), hs.1.2 97 (by decide), hs.1.2 98 (by decide), hs.1.2 99 (by decide)]
    exact b3
  obtain ⟨g1, g2⟩ := seen M1 hL1
  obtain ⟨hl1, hl2⟩ := ls_n hN
  -- the last day
  refine wp_for2 (i0 := 0) (mN (aM A)).1 (fun i z => z = lstD (mN (aM A)) i) (by have : FUEL = 100000 := rfl; omega) rfl (by omega) rfl ?_ ?_
  · intro f i z hi hI hk
    subst hI
    rw [g1]
    refine wp_brf (by rw [n2_le (by omega) (by omega)]; omega) ?_
    rw [r_73_47 hy, gN_t (by decide), gA_n (k_98 hy) (show i < 8 by omega) (by omega), n2_nat (show i < 2147483648 by omega), (g2 i hi).2.1]
    refine wp_lt (wp_lt ?_)
    rw [n2_s]
    exact hk _ rfl
  intro f z hI
  subst hI
  rw [g1]
  refine wp_brt (Int32.le_refl _) ?_
  rw [hl2]
  generalize hL : ls (mN (aM A)) = L at hl1
  -- the end
  have fin : ∀ (b : Int32) (s : Mem), (b = 0 ∨ b = 1) → b = fitV (aK A) (mN (aM A)) (aS A) → LKS M s → SOK (aK A) (moV s) → wp (c0 (f_X12_unpack y 73 100 (0 : Int32) s) fun (r17 : Int32) (M18 : Mem) => gd (b = 0 ∨ b = 1) (some (b, M18))) (fun o => o.1 = fitV (aK A) (mN (aM A)) (aS A) ∧ ISA A M o.2) := fun b s hb hbv hs hSs => by
    refine wp_c0 _ (unpack_100 hy (f := 0) (by decide) (S := moV M) hs.2.2 ?_ ?_) (fun r N q => ?_)
    · intro k hk
      exact (hSs.b v.1 k hk).trans (hS0.b v.1 k hk).symm
    · intro k hk
      exact (hSs.sp k hk).trans (hS0.sp k hk).symm
    obtain ⟨-, p2, p3, p4⟩ := q
    dsimp only at p2 p3 p4
    have hE : Eqx [73, 87, 88, 90, 91, 92, 100] M N := hs.1.trans (p2.mono (by decide))
    have hF : ∀ k, ¬ (31 ≤ k ∧ k ≤ 35) → ¬ k = 41 → N.1 73 k = M.1 73 k := fun k k1 k2 => by rw [p4 k k1]; exact hs.2.1 k k1 k2
    rw [gd_t hb]
    refine wp_some ⟨hbv, MR.look h (hE.mono (by decide)) ?_ (fun k hk => ?_), hE, hF⟩
    · rw [p3, hs.1.2 85 (by decide)]; rfl
    · have := K7_ne hk
      exact hF k (by omega) (by omega)
  refine wp_fork (κ := Int32 → Int32 → Mem → Option (Int32 × Mem)) (S := Int32 × Mem) (fun f d s => f s.1 (n2 d) s.2) (fun d s => LKS M s.2 ∧ SOK (aK A) (moV s.2) ∧ ((s.1 = 1 ∧ fst (fitQ (aK A) (mN (aM A)) (aS A)) d = none ∧ vo (moV s.2) = vo (pDays (aK A) (aS A) d)) ∨ (s.1 = 0 ∧ ¬ fst (fitQ (aK A) (mN (aM A)) (aS A)) (L + 1) = none))) (L + 1) (by have : FUEL = 100000 := rfl; omega) (i0 := 0) (s0 := (1, M1)) (by omega) ⟨hL1, SOK.eqo v.2.1.1.1 hV1.symm, Or.inl ⟨rfl, rfl, hV1⟩⟩ ?_ ?_
  · intro f d s hd hI hk
    obtain ⟨b, s⟩ := s
    obtain ⟨i1, i2, i3⟩ := hI
    dsimp only at i1 i2 i3 hk ⊢
    refine wp_jn ?_
    refine wp_brf (by rw [n2_lt (by omega) (by omega)]; omega) ?_
    rcases i3 with ⟨rfl, i4, i5⟩ | ⟨rfl, i4⟩
    · refine wp_brf (by decide) ?_
      obtain ⟨u1, u2⟩ := seen s i1
      have e87 : s.1 87 = sB (pDays (aK A) (aS A) d) := b_eqo i5
      refine wp_for2 (i0 := 0) (mN (aM A)).1 (fun i x => x = (if fitP (mN (aM A)) (sB (pDays (aK A) (aS A) d)) d i then 1 else 0)) (by have : FUEL = 100000 := rfl; omega) rfl (by omega) ?_ ?_ ?_
      · rw [if_pos (fun k hk => absurd hk (Nat.not_lt_zero _))]
      · intro f2 i x hi hJ hk2
        obtain ⟨c1, c2, c3⟩ := u2 i hi
        obtain ⟨⟨c, hc, hc2⟩, -, -⟩ := hN.2 i hi
        rw [u1]
        refine wp_brf (by rw [n2_le (by omega) (by omega)]; omega) (wp_jn (wp_jn ?_))
        have nx : ∀ x2 : Int32, x2 = (if fitP (mN (aM A)) (sB (pDays (aK A) (aS A) d)) d (i + 1) then 1 else 0) → wp (lt (n2 i + 1) fun v34 => f2 x2 v34) (fun o => o.1 = fitV (aK A) (mN (aM A)) (aS A) ∧ ISA A M o.2) := fun x2 h2 => by
          rw [lT_s, n2_s]; exact hk2 _ h2
        by_cases p : fitP (mN (aM A)) (sB (pDays (aK A) (aS A) d)) d i
        · rw [if_pos p] at hJ
          subst hJ
          refine wp_brf (by decide) ?_
          rw [r_73_47 hy, gN_t (by decide), gA_n (k_98 hy) (show i < 8 by omega) (by omega)]
          refine wp_jn ?_
          rw [n2_nat (show i < 2147483648 by omega), c2]
          refine wp_br (fun q => ?_) (fun q => nx _ ?_)
          · rw [r_73_28 hy, r_73_46 hy, r_73_48 hy, gN_t (by decide), gN_t (by decide), gA_n (k_97 hy) (show i < 8 by omega) (by omega), c1]
            have hc2' : (mN (aM A)).2.1 i = n2 c := hc2
            rw [hc2', gA_n (k_87 hy) (show c < 30 by omega) (by omega), gN_t (by decide), gA_n (k_99 hy) (show i < 8 by omega) (by omega), n2_nat (show c < 2147483648 by omega), c3, e87]
            refine wp_br (fun q2 => nx _ ?_) (fun q2 => nx _ ?_)
            · rw [if_pos (fun k hk he => by
                by_cases e : k = i
                · rw [e, hc2', n2_nat (by omega)]; exact q2
                · exact p k (by omega) he)]
            · rw [if_neg (fun z => q2 (by have := z i (Nat.lt_succ_self i) q; rw [hc2', n2_nat (by omega)] at this; exact this))]
          · rw [if_pos (fun k hk he => by
              by_cases e : k = i
              · rw [e] at he; exact absurd he q
              · exact p k (by omega) he)]
        · rw [if_neg p] at hJ
          subst hJ
          refine wp_brt rfl (nx _ ?_)
          rw [if_neg (fun z => p (fun k hk he => z k (by omega) he))]
      · intro f2 x hJ
        rw [u1]
        refine wp_brt (Int32.le_refl _) ?_
        refine wp_c0 _ (LKS.day hy h v i1 i2) (fun r M2 w => ?_)
        obtain ⟨w1, w2⟩ := w
        dsimp only at w1 w2
        have hS2 : SOK (aK A) (moV M2) := by rw [w2]; exact pDay_ok v.1 i2
        refine wp_lt ?_
        rw [n2_s]
        by_cases p : fitP (mN (aM A)) (sB (pDays (aK A) (aS A) d)) d (mN (aM A)).1
        · rw [if_pos p] at hJ
          subst hJ
          refine hk (1, M2) ⟨w1, hS2, Or.inl ⟨rfl, fst_no i4 (fun z => (of_decide_eq_true z) p), ?_⟩⟩
          show vo (moV M2) = vo (pDays (aK A) (aS A) (d + 1))
          rw [w2, pDays_s, vo_pDay i5]
        · rw [if_neg p] at hJ
          subst hJ
          refine hk (0, M2) ⟨w1, hS2, Or.inr ⟨rfl, ?_⟩⟩
          rw [fst_yes i4 (decide_eq_true p) (L + 1) hd]
          intro z; cases z
    · refine wp_brt rfl ?_
      refine fin 0 s (Or.inl rfl) ?_ i1 i2
      unfold fitV fitO
      rw [hL, if_neg i4]
  · intro f s hI
    obtain ⟨b, s⟩ := s
    obtain ⟨i1, i2, i3⟩ := hI
    dsimp only at i1 i2 i3 ⊢
    refine wp_jn ?_
    refine wp_brt (by rw [n2_lt (by omega) (by omega)]; omega) ?_
    rcases i3 with ⟨rfl, i4, i5⟩ | ⟨rfl, i4⟩
    · refine fin 1 s (Or.inr rfl) ?_ i1 i2
      unfold fitV fitO
      rw [hL, if_pos i4]
    · refine fin 0 s (Or.inl rfl) ?_ i1 i2
      unfold fitV fitO
      rw [hL, if_neg i4]
/-! another skill for a while -/
def wK (A : St) (S : Sk) : St := (aK A, (S, mA (aM A), mN (aM A), mT (aM A)), ((aI A).1, (vk (aI A).2.1 (sSk S), (aI A).2.2)), aT A, aF A)
theorem VAL.wK {A : St} (v : VAL A) {S : Sk} (h : AOK (aK A) S) : VAL (wK A S) := by
  obtain ⟨v1, ⟨v2, v3, v4⟩, v5, v6⟩ := v
  refine ⟨v1, ⟨h, v3, v4⟩, fun q => ⟨⟨?_, (v5 q).1.2⟩, rfl⟩, v6⟩
  exact ⟨⟨(v5 q).1.1.1.1, (v5 q).1.1.1.2.1, h.1.2.2.1, (v5 q).1.1.1.2.2.2⟩, (v5 q).1.1.2⟩
theorem MR_wK {A : St} {M N : Mem} (h : MR A M) (e : Eqx [85] M N) : MR (wK A (vk (aS A) (N.1 85))) N := by
  obtain ⟨h1, ⟨b1, b2, b3, b4⟩, h3, h4, h5⟩ := h
  refine ⟨h1.eqx e (by decide), ⟨?_, ?_, ?_, ?_⟩, ?_, ?_, ?_⟩
  · have hb : vo (moV M) = vo (aS A) := b1
    show vo (moV N) = vo (vk (aS A) (N.1 85))
    unfold moV
    rw [e.2 73 (by decide), e.2 87 (by decide), e.2 88 (by decide)]
    have q1 : M.1 87 = sB (aS A) := b_eqo hb
    have q2 : M.1 88 = sSp (aS A) := sp_eqo hb
    have q3 : M.1 73 34 = sPg (aS A) := pg_eqo hb
    have q4 : M.1 73 35 = sRs (aS A) := rs_eqo hb
    have q5 : M.1 73 32 = sKn (aS A) := kn_eqo hb
    have q6 : M.1 73 33 = sMa (aS A) := ma_eqo hb
    have q7 : M.1 73 31 = sDy (aS A) := dy_eqo hb
    show (M.1 87, M.1 88, N.1 85, M.1 73 34, M.1 73 35, M.1 73 32, M.1 73 33, M.1 73 31, (0 : Int32)) = _
    rw [q1, q2, q3, q4, q5, q6, q7]
    rfl
  · rw [e.2 73 (by decide), e.2 89 (by decide)]; exact b2
  · rw [e.2 73 (by decide), e.2 97 (by decide), e.2 98 (by decide), e.2 99 (by decide)]; exact b3
  · rw [e.2 84 (by decide)]; exact b4
  · unfold MPI at h3 ⊢
    rw [e.2 73 (by decide), e.2 104 (by decide), e.2 105 (by decide), e.2 106 (by decide), e.2 107 (by decide), e.2 108 (by decide), e.2 109 (by decide)]
    exact h3
  · rw [e.2 73 (by decide), e.2 86 (by decide)]; exact h4
  · rw [e.2 73 (by decide)]; exact h5
/-- back again -/
theorem MR_wKb {A : St} (v : VAL A) {S : Sk} {M N : Mem} (h : MR (wK A S) M) (e : Eqx [85] M N) (hS : vo (vk S (sSk (aS A))) = vo (aS A)) (he : N.1 85 = sSk (aS A)) : MR A N := by
  have h2 := MR_wK h e
  obtain ⟨h1, ⟨b1, b2⟩, h3, h4, h5⟩ := h2
  refine ⟨h1, ⟨?_, b2⟩, ?_, h4, h5⟩
  · have b1 : vo (moV N) = vo (vk S (N.1 85)) := b1
    rw [b1, he, hS]
  · exact h3
/-! who fits -/
def FTR (F : Nat → Bool) (M : Mem) (T : Nat) : Prop := M.1 73 52 = n2 (ctB F T) ∧ ∀ t, t < T → F t = true → M.1 101 (ctB F t) = n2 t
theorem tellFits_m {y : Lay} (hy : LY y) {A : St} {M : Mem} (h : MR A M) (v : VAL A) : wp (f_X12_tellFits y 73 M) (fun o => MR A o.2 ∧ kC M o.2 ∧ o.2.1 73 4 = M.1 73 4 ∧ FTR (ftB (aK A) (mN (aM A)) (aS A)) o.2 (10 * kg (aK A))) := by
  unfold f_X12_tellFits
  have hg6 := v.1.2.1.2.2
  rw [gK_t (k_73 hy), lT_s, wI_sr]
  generalize hF : ftB (aK A) (mN (aM A)) (aS A) = F
  have hM1 : MR A (sr M 73 (up (M.1 73) 52 0)) := MR.look h ((Eqx.refl _ _).sr (by decide)) rfl (F73.up (by decide))
  refine wp_for (i0 := 0) (kg (aK A)) (fun g s => (MR A s ∧ kC M s ∧ s.1 73 4 = M.1 73 4) ∧ FTR F s (10 * g)) (by have : FUEL = 100000 := rfl; omega) rfl (by omega) ⟨⟨hM1, kC_sr (kC.refl M) (by decide), by rw [sr_ap, up_ne (by decide)]⟩, by rw [sr_ap, up_eq]; rfl, fun t ht => absurd ht (Nat.not_lt_zero _)⟩ ?_ ?_
  · intro f g s hg hI hk
    obtain ⟨⟨i1, i2, i3⟩, i4⟩ := hI
    have g6 : g < 6 := by omega
    rw [r_73_5 hy, gN_t (by decide), gA_t (k_77 hy) (by decide), zc2, i1.1.1.2.2.2.2]
    refine wp_brf (by rw [n2_le (by omega) (by omega)]; omega) ?_
    have s85 : s.1 85 = sSk (aS A) := i1.v.1.2.2
    rw [r_73_13 hy, gN_t (by decide), gA_n (k_85 hy) g6 (by omega), lT_s, n2_nat (show g < 2147483648 by omega), s85]
    have up2 : ∀ x z, up (up (sSk (aS A)) g x) g z = up (sSk (aS A)) g z := fun x z => by
      funext k; unfold up; split <;> rfl
    have up1 : up (sSk (aS A)) g (sSk (aS A) g) = sSk (aS A) := by
      funext k; unfold up; split
      · rename_i q; rw [q]
      · rfl
    refine wp_for (i0 := 0) 10 (fun i z => (∃ x, MR (wK A (vk (aS A) (up (sSk (aS A)) g x))) z) ∧ (kC M z ∧ z.1 73 4 = M.1 73 4) ∧ FTR F z (10 * g + i)) (by decide) rfl (by decide) ⟨⟨sSk (aS A) g, ?_⟩, ⟨i2, i3⟩, i4⟩ ?_ ?_
    · have := MR_wK i1 (Eqx.refl [85] s)
      rw [s85] at this
      rw [up1]
      exact this
    · intro f2 i z hi hJ hk2
      obtain ⟨⟨x, j1⟩, ⟨j2, j3⟩, j4⟩ := hJ
      refine wp_brf (nle_l (m := 10) rfl hi (by omega)) ?_
      have z85 : z.1 85 = up (sSk (aS A)) g x := j1.v.1.2.2
      rw [gA_n (k_85 hy) g6 (by omega), lT_s, wI_sr, z85, up2]
      have hE : Eqx [85] z (sr z 85 (up (sSk (aS A)) g (n2 i))) := (Eqx.refl _ _).sr (by decide)
      have hB : MR (wK A (skS (aS A) g i)) (sr z 85 (up (sSk (aS A)) g (n2 i))) := by
        have := MR_wK j1 hE
        rw [sr_ap] at this
        exact this
      have vB : VAL (wK A (skS (aS A) g i)) := v.wK (aok_sk v.2.1.1 g6 (show i ≤ 9 by omega))
      have kB : kC M (sr z 85 (up (sSk (aS A)) g (n2 i))) := kC_sr j2 (by decide)
      have cB : (sr z 85 (up (sSk (aS A)) g (n2 i))).1 73 = z.1 73 := sr_ne (by decide)
      have rB : (sr z 85 (up (sSk (aS A)) g (n2 i))).1 101 = z.1 101 := sr_ne (by decide)
      generalize sr z 85 (up (sSk (aS A)) g (n2 i)) = z1 at hB kB cB rB
      refine wp_jn ?_
      have hFv : F (10 * g + i) = (decide (¬ sSk (aS A) g = n2 i) && decide (fitV (aK A) (mN (aM A)) (skS (aS A) g i) = 1)) := by
        rw [← hF]; unfold ftB
        rw [show (10 * g + i) / 10 = g by omega, show (10 * g + i) % 10 = i by omega]
      have stay : ¬ F (10 * g + i) = true → ∀ N, MR (wK A (skS (aS A) g i)) N → kC M N → N.1 73 4 = M.1 73 4 → N.1 73 52 = z.1 73 52 → N.1 101 = z.1 101 → wp (lt (n2 i + 1) fun v27 => f2 v27 N) (fun o => MR A o.2 ∧ kC M o.2 ∧ o.2.1 73 4 = M.1 73 4 ∧ FTR F o.2 (10 * kg (aK A))) := fun w N n1 n2' n3 n4 n5 => by
        rw [lT_s, n2_s]
        refine hk2 N ⟨⟨n2 i, n1⟩, ⟨n2', n3⟩, ?_, fun t ht hf => ?_⟩
        · show N.1 73 52 = n2 (ctB F (10 * g + i + 1))
          rw [n4, ctB_s, if_neg w]; exact j4.1
        · have ht : t < 10 * g + i + 1 := ht
          rw [n5]
          by_cases e : t = 10 * g + i
          · rw [e] at hf; exact absurd hf w
          · exact j4.2 t (by omega) hf
      refine wp_br (fun w => stay (fun u => ?_) z1 hB kB (by rw [cB]; exact j3) (by rw [cB]) rB) (fun w => ?_)
      · rw [hFv, Bool.and_eq_true, decide_eq_true_eq] at u
        exact u.1 w.symm
      · refine wp_c0 _ (isAsSeen_m hy hB vB) (fun r M2 p => ?_)
        obtain ⟨p1, p2, p3, p4⟩ := p
        dsimp only at p1 p2 p3 p4
        have p1 : r = fitV (aK A) (mN (aM A)) (skS (aS A) g i) := p1
        have k2 : kC M M2 := kB.trans (p3.kC (by decide))
        have c2 : M2.1 73 4 = M.1 73 4 := by rw [p4 4 (by decide) (by decide), cB]; exact j3
        have c52 : M2.1 73 52 = z.1 73 52 := by rw [p4 52 (by decide) (by decide), cB]
        have c101 : M2.1 101 = z.1 101 := by rw [p3.2 101 (by decide), rB]
        refine wp_br (fun w2 => stay (fun u => ?_) M2 p2 k2 c2 c52 c101) (fun w2 => ?_)
        · rw [hFv, Bool.and_eq_true, decide_eq_true_eq, decide_eq_true_eq, ← p1] at u
          rw [w2] at u
          exact absurd u.2 (by decide)
        · have hT : F (10 * g + i) = true := by
            rw [hFv, Bool.and_eq_true, decide_eq_true_eq, decide_eq_true_eq, ← p1]
            refine ⟨fun u => w u.symm, ?_⟩
            rcases fitV01 (aK A) (mN (aM A)) (skS (aS A) g i) with u | u
            · rw [← p1] at u; exact absurd u w2
            · rw [← p1] at u; exact u
          have hcl := ctB_le F (10 * g + i)
          have e52 : M2.1 73 52 = n2 (ctB F (10 * g + i)) := by rw [c52]; exact j4.1
          rw [r_73_50 hy, gN_t (by decide), e52, gA_n (k_101 hy) (show ctB F (10 * g + i) < 60 by omega) (by omega)]
          refine wp_lt (wp_lt ?_)
          rw [wI_sr, wI_sr, sr_ne (show ¬ 73 = 101 by decide), e52, n2_nat (by omega), n2_s, show (10 : Int32) * n2 g = n2 (10 * g) from n2_mul 10 g, n2_add]
          have hE3 : Eqx [73, 101] M2 (sr (sr M2 101 (up (M2.1 101) (ctB F (10 * g + i)) (n2 (10 * g + i)))) 73 (up (M2.1 73) 52 (n2 (ctB F (10 * g + i) + 1)))) := ((Eqx.refl _ _).sr (by decide)).sr (by decide)
          refine wp_lt ?_
          rw [n2_s]
          refine hk2 _ ⟨⟨n2 i, MR.look p2 (hE3.mono (by decide)) ?_ (fun k hk => ?_)⟩, ⟨k2.trans (hE3.kC (by decide)), ?_⟩, ?_, fun t ht hf => ?_⟩
          · unfold moV
            rw [sr_ap, hE3.2 87 (by decide), hE3.2 88 (by decide), hE3.2 85 (by decide)]
            rfl
          · have := K7_ne hk
            rw [sr_ap, up_ne (by omega)]
          · rw [sr_ap, up_ne (by decide), c2]
          · show (sr _ 73 _).1 73 52 = n2 (ctB F (10 * g + i + 1))
            rw [sr_ap, up_eq, ctB_s, if_pos hT]
          · have ht : t < 10 * g + i + 1 := ht
            rw [sr_ne (by decide), sr_ap]
            by_cases e : t = 10 * g + i
            · rw [e, up_eq]
            · have hlt : t < 10 * g + i := by omega
              have hne : ctB F t < ctB F (10 * g + i) := by
                have mono : ∀ b, t < b → ctB F t < ctB F b := by
                  intro b
                  induction b with
                  | zero => intro q; omega
                  | succ b ih =>
                    intro q
                    rw [ctB_s]
                    by_cases eb : t = b
                    · rw [← eb, if_pos hf]; omega
                    · have := ih (by omega)
                      split <;> omega
                exact mono _ hlt
              rw [up_ne (by omega), c101]
              exact j4.2 t hlt hf
    · intro f2 z hJ
      obtain ⟨⟨x, j1⟩, ⟨j2, j3⟩, j4⟩ := hJ
      refine wp_brt (by decide) ?_
      have z85 : z.1 85 = up (sSk (aS A)) g x := j1.v.1.2.2
      rw [gA_n (k_85 hy) g6 (by omega)]
      refine wp_lt (wp_lt ?_)
      rw [wI_sr, z85, up2, up1, n2_s]
      have hE : Eqx [85] z (sr z 85 (sSk (aS A))) := (Eqx.refl _ _).sr (by decide)
      have e73 : (sr z 85 (sSk (aS A))).1 73 = z.1 73 := sr_ne (by decide)
      refine hk _ ⟨⟨MR_wKb v j1 hE rfl (sr_ap _ _ _), kC_sr j2 (by decide), by rw [e73]; exact j3⟩, ?_, fun t ht hf => ?_⟩
      · rw [e73, show 10 * (g + 1) = 10 * g + 10 by omega]; exact j4.1
      · rw [sr_ne (by decide)]; exact j4.2 t (by omega) hf
  · intro f s hI
    obtain ⟨⟨i1, i2, i3⟩, i4⟩ := hI
    rw [r_73_5 hy, gN_t (by decide), gA_t (k_77 hy) (by decide), zc2, i1.1.1.2.2.2.2]
    exact wp_brt (Int32.le_refl _) (wp_some ⟨i1, i2, i3, i4⟩)
theorem skilled_m {y : Lay} (hy : LY y) {A : St} {M : Mem} (h : MR A M) (v : VAL A) (w : Int32) : wp (f_X12_skilled y 73 w M) (OM A (skiP A w) M) := by
  unfold f_X12_skilled
  have hg6 := v.1.2.1.2.2
  rw [gK_t (k_73 hy)]
  refine OM.start hy h (fun M0 h0 g0 hc0 => ?_)
  unfold skiP
  rcases isIn_r (y := y) (M := M0) (a := 0) (b := 2) (la := 0) (lb := 2) (by decide) (by decide) w with ⟨q, e⟩ | ⟨q, e⟩
  · rw [e, cp_s, if_pos q]
    refine wp_brf (by decide) ?_
    refine wp_br (fun q2 => ?_) (fun q2 => ?_)
    · rw [if_pos q2]
      refine wp_c0 _ (isAsSeen_m hy h0 v) (fun r M1 p => ?_)
      obtain ⟨p1, p2, p3, p4⟩ := p
      dsimp only at p1 p2 p3 p4
      have k1 : kC M M1 := g0.trans (p3.kC (by decide))
      have c1 : M1.1 73 4 = 0 := by rw [p4 4 (by decide) (by decide), hc0]
      refine wp_jn ?_
      rw [p1]
      rcases fitV01 (aK A) (mN (aM A)) (aS A) with z | z
      · rw [z]; exact wp_brt rfl (OM.ret p2 k1 c1)
      · rw [z]; exact wp_brf (by decide) (OM.ret p2 k1 c1)
    · rw [if_neg q2]
      refine wp_c0 _ (tellFits_m hy h0 v) (fun r M1 p => ?_)
      obtain ⟨p1, p2, p3, p4, p5⟩ := p
      dsimp only at p1 p2 p3 p4 p5
      generalize ftB (aK A) (mN (aM A)) (aS A) = F at p4 p5 ⊢
      have k1 : kC M M1 := g0.trans p2
      have c1 : M1.1 73 4 = 0 := by rw [p3, hc0]
      have hcl := ctB_le F (10 * kg (aK A))
      have hc0' := ctB_0 F (10 * kg (aK A))
      refine wp_jn ?_
      refine wp_br (fun z => OM.ret' (by rw [if_pos z]; exact p4) p1 k1 c1) (fun z => ?_)
      rw [if_neg z, p4]
      refine wp_br (fun z2 => ?_) (fun z2 => ?_)
      · rw [show (0 : Int32) = n2 0 from rfl, n2_inj (by omega) (by decide)] at z2
        refine OM.ret' ?_ p1 k1 c1
        rw [hc0'.mp z2]; rfl
      · rw [show (0 : Int32) = n2 0 from rfl, n2_inj (by omega) (by decide)] at z2
        rw [r_73_50 hy, gN_t (by decide), gA_t (k_101 hy) (by decide), zc0]
        have key : ∀ T, ¬ fst F T = none → ∃ t, t < T ∧ fst F T = some t ∧ F t = true ∧ ctB F t = 0 := by
          intro T
          induction T with
          | zero => intro q; exact absurd rfl q
          | succ T ih =>
            intro q
            by_cases u : fst F T = none
            · by_cases u2 : F T = true
              · exact ⟨T, Nat.lt_succ_self T, by rw [fst_s, u]; exact if_pos u2, u2, (ctB_0 F T).mpr u⟩
              · exact absurd (fst_no u u2) q
            · obtain ⟨t, t1, t2, t3⟩ := ih u
              exact ⟨t, by omega, by rw [fst_s, t2], t3⟩
        obtain ⟨t, t1, t2, t3, t4⟩ := key _ (fun u => z2 (hc0'.mpr u))
        refine OM.ret' ?_ p1 k1 c1
        rw [t2, ← t4, p5 t t1 t3]
        rfl
  · rw [e, cp_s, if_neg q]
    exact wp_brt rfl (OM.fail hy rfl (by decide) h0 g0)
