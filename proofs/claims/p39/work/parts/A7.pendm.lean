/-! ===== what a text leaves, the model's side ===== -/
theorem wp_gAn {β : Type} {Q : β → Prop} {y : Lay} {r t n i : Nat} {k : Option β} (h : kd y r = (t, n)) (hi : i < n) (hn : i < 2147483648) (g : wp k Q) : wp (gA y r t (n2 i) k) Q := by rw [gA_n h hi hn]; exact g
theorem takeHalf_g {y : Lay} {r n : Nat} (hk : kd y r = (1, n + n)) (hn : n ≤ 700) {N : Mem} : wp (f_X12_takeHalf y r N) (fun o => (∀ p, ¬ p = r → o.2.1 p = N.1 p) ∧ ∀ k, o.2.1 r k = if k < n then N.1 r (n + k) else N.1 r k) := by
  have hd : (Int32.ofNat (kd y r).2) / (2 : Int32) = n2 n := by
    rw [hk]
    show n2 (n + n) / n2 2 = n2 n
    rw [n2_div (by omega) (by decide)]
    congr 1
    omega
  have hF : FUEL = 100000 := rfl
  unfold f_X12_takeHalf
  refine wp_for n (fun i s => (∀ p, ¬ p = r → s.1 p = N.1 p) ∧ ∀ k, s.1 r k = if k < i then N.1 r (n + k) else N.1 r k) (by omega) rfl (Nat.zero_le _) ⟨fun _ _ => rfl, fun k => (if_neg (Nat.not_lt_zero k)).symm⟩ ?_ ?_
  · intro f i s hi hI hk2
    rw [gT_t (by rw [hk]), gd_t (by decide), hd]
    refine wp_brf (by rw [n2_le (by omega) (by omega)]; omega) ?_
    rw [gT_t (by rw [hk]), gd_t (by decide), n2_add, gA_n hk (by omega) (by omega), gA_n hk (by omega) (by omega), n2_nat (by omega), n2_nat (by omega)]
    refine wp_lt (wp_lt ?_)
    rw [n2_s, wI_sr]
    refine hk2 _ ⟨fun p hp => by rw [sr_ne hp]; exact hI.1 p hp, fun k => ?_⟩
    rw [sr_ap]
    by_cases e : k = i
    · rw [e, up_eq, if_pos (by omega), hI.2 (n + i), if_neg (by omega)]
    · rw [up_ne e, hI.2 k]
      by_cases q : k < i
      · rw [if_pos q, if_pos (by omega)]
      · rw [if_neg q, if_neg (by omega)]
  · intro f s hI
    rw [gT_t (by rw [hk]), gd_t (by decide), hd]
    exact wp_brt (by rw [n2_le (by omega) (by omega)]; exact Nat.le_refl _) (wp_some hI)
/-- the model's last step: of a good text -/
theorem takeOver_m {y : Lay} (hy : LY y) {A : St} {N0 Nb N : Mem} (h : MR A N0) (v : VAL A) {D : Dr} (hv : DV D) (hd : DM D N) (hF : FMl Nb N) (hb : ∀ p, ¬ p = 73 → Nb.1 p = N0.1 p) (hb2 : Nb.1 73 15 = 0 ∧ Nb.1 73 24 = -1 ∧ Nb.1 73 4 = 0) {C F : Row} (hC : ∀ i, i < 700 → C i = dc (dK D) i) (hFF : ∀ i, i < 700 → F i = fc (dK D) i) : wp (f_X12_takeOver y 73 N) (fun o => MR (cstA A (dK' D C F) (dS D)) o.2 ∧ o.2.1 73 4 = 0 ∧ ∀ p, p < 73 → o.2.1 p = N0.1 p) := by
  obtain ⟨f1, f2, f3, f4, f5, f6⟩ := hF
  obtain ⟨⟨a1, a2, a3, a4, a5, a6, a7⟩, b, c, ⟨⟨d1, d2⟩, d3, d4⟩, e1, e2⟩ := hd
  have hK := hv.1.1
  have hg6 : kg (dK D) ≤ 6 := hK.2.1.2.2
  unfold f_X12_takeOver
  rw [gK_t (k_73 hy), r_73_5 hy, r_73_6 hy, r_73_7 hy, r_73_8 hy, r_73_9 hy, r_73_10 hy, r_73_11 hy]
  rw [gN_t (by decide)]
  refine wp_c0 _ (takeHalf_g (n := 9) (k_77 hy) (by decide)) (fun r N1 q1 => ?_)
  rw [gN_t (by decide)]
  refine wp_c0 _ (takeHalf_g (n := 30) (k_78 hy) (by decide)) (fun r N2 q2 => ?_)
  rw [gN_t (by decide)]
  refine wp_c0 _ (takeHalf_g (n := 6) (k_79 hy) (by decide)) (fun r N3 q3 => ?_)
  rw [gN_t (by decide)]
  refine wp_c0 _ (takeHalf_g (n := 6) (k_80 hy) (by decide)) (fun r N4 q4 => ?_)
  rw [gN_t (by decide)]
  refine wp_c0 _ (takeHalf_g (n := 6) (k_81 hy) (by decide)) (fun r N5 q5 => ?_)
  rw [gN_t (by decide)]
  refine wp_c0 _ (takeHalf_g (n := 700) (k_82 hy) (by decide)) (fun r N6 q6 => ?_)
  rw [gN_t (by decide)]
  refine wp_c0 _ (takeHalf_g (n := 700) (k_83 hy) (by decide)) (fun r N7 q7 => ?_)
  obtain ⟨x1, y1⟩ := q1
  obtain ⟨x2, y2⟩ := q2
  obtain ⟨x3, y3⟩ := q3
  obtain ⟨x4, y4⟩ := q4
  obtain ⟨x5, y5⟩ := q5
  obtain ⟨x6, y6⟩ := q6
  obtain ⟨x7, y7⟩ := q7
  dsimp only at x1 x2 x3 x4 x5 x6 x7 y1 y2 y3 y4 y5 y6 y7
  have s0 : ∀ p, ¬ (77 ≤ p ∧ p ≤ 83) → N7.1 p = N.1 p := fun p hp => by
    rw [x7 p (by omega), x6 p (by omega), x5 p (by omega), x4 p (by omega), x3 p (by omega), x2 p (by omega), x1 p (by omega)]
  have s77 : ∀ k, k < 9 → N7.1 77 k = N.1 77 (9 + k) := fun k hk => by
    rw [x7 77 (by decide), x6 77 (by decide), x5 77 (by decide), x4 77 (by decide), x3 77 (by decide), x2 77 (by decide), y1 k, if_pos hk]
  have s78 : ∀ k, k < 30 → N7.1 78 k = N.1 78 (30 + k) := fun k hk => by
    rw [x7 78 (by decide), x6 78 (by decide), x5 78 (by decide), x4 78 (by decide), x3 78 (by decide), y2 k, if_pos hk, x1 78 (by decide)]
  have s79 : ∀ k, k < 6 → N7.1 79 k = N.1 79 (6 + k) := fun k hk => by
    rw [x7 79 (by decide), x6 79 (by decide), x5 79 (by decide), x4 79 (by decide), y3 k, if_pos hk, x2 79 (by decide), x1 79 (by decide)]
  have s80 : ∀ k, k < 6 → N7.1 80 k = N.1 80 (6 + k) := fun k hk => by
    rw [x7 80 (by decide), x6 80 (by decide), x5 80 (by decide), y4 k, if_pos hk, x3 80 (by decide), x2 80 (by decide), x1 80 (by decide)]
  have s81 : ∀ k, k < 6 → N7.1 81 k = N.1 81 (6 + k) := fun k hk => by
    rw [x7 81 (by decide), x6 81 (by decide), y5 k, if_pos hk, x4 81 (by decide), x3 81 (by decide), x2 81 (by decide), x1 81 (by decide)]
  have s82 : ∀ k, k < 700 → N7.1 82 k = N.1 82 (700 + k) := fun k hk => by
    rw [x7 82 (by decide), y6 k, if_pos hk, x5 82 (by decide), x4 82 (by decide), x3 82 (by decide), x2 82 (by decide), x1 82 (by decide)]
  have s83 : ∀ k, k < 700 → N7.1 83 k = N.1 83 (700 + k) := fun k hk => by
    rw [y7 k, if_pos hk, x6 83 (by decide), x5 83 (by decide), x4 83 (by decide), x3 83 (by decide), x2 83 (by decide), x1 83 (by decide)]
  clear x1 x2 x3 x4 x5 x6 x7 y1 y2 y3 y4 y5 y6 y7 N1 N2 N3 N4 N5 N6
  refine wp_lt ?_
  rw [gA_t (k_77 hy) (by decide)]
  refine wp_lt (wp_lt ?_)
  rw [gA_t (k_77 hy) (by decide)]
  refine wp_lt (wp_lt ?_)
  rw [wI_sr N7, wI_sr (sr _ _ _), wI_sr (sr _ _ _), wI_sr (sr _ _ _), wI_sr (sr _ _ _)]
  simp only [sr_ap, sr_sr, sr_ne (show ¬ 77 = 73 by decide)]
  have t3 : N7.1 77 (3 : Int32).toNatClampNeg = sKn (dS D) := (s77 3 (by decide)).trans a6
  have t8 : N7.1 77 (8 : Int32).toNatClampNeg = sPg (dS D) := (s77 8 (by decide)).trans a7
  rw [t3, t8]
  generalize hM : sr N7 73 (up (up (up (up (up (N7.1 73) 31 0) 32 (sKn (dS D))) 33 0) 34 (sPg (dS D))) 35 0) = M
  have u73 : ∀ k, ¬ (31 ≤ k ∧ k ≤ 35) → M.1 73 k = N.1 73 k := fun k hk => by
    rw [← hM, sr_ap, up_ne (by omega), up_ne (by omega), up_ne (by omega), up_ne (by omega), up_ne (by omega), s0 73 (by omega)]
  have uk : M.1 73 31 = 0 ∧ M.1 73 32 = sKn (dS D) ∧ M.1 73 33 = 0 ∧ M.1 73 34 = sPg (dS D) ∧ M.1 73 35 = 0 := by
    rw [← hM, sr_ap]
    exact ⟨rfl, rfl, rfl, rfl, rfl⟩
  have ur : ∀ p, ¬ p = 73 → M.1 p = N7.1 p := fun p hp => by rw [← hM, sr_ne hp]
  clear hM
  refine wp_for 30 (fun i s => (∀ p, ¬ p = 87 → s.1 p = M.1 p) ∧ ∀ k, s.1 87 k = if k < i then sB (dS D) k else M.1 87 k) (by decide) rfl (Nat.zero_le _) ⟨fun _ _ => rfl, fun k => (if_neg (Nat.not_lt_zero k)).symm⟩ ?_ ?_
  · intro f i s hi hI hk2
    obtain ⟨i1, i2⟩ := hI
    refine wp_brf (by rw [show (30 : Int32) = n2 30 from rfl, n2_le (by decide) (by omega)]; omega) ?_
    have eP : s.1 73 34 = sPg (dS D) := by rw [i1 73 (by decide)]; exact uk.2.2.2.1
    rw [r_73_28 hy, gN_t (by decide), eP, isOf_s, cp_s]
    obtain ⟨c1, -⟩ := c i hi
    have fin : ∀ x : Int32, x = sB (dS D) i → wp (gA y 87 1 (n2 i) (lt (wI s 87 (n2 i).toNatClampNeg x) fun (M72 : Mem) => lt (n2 i + (1 : Int32)) fun (v73 : Int32) => f v73 M72)) (fun o => MR (cstA A (dK' D C F) (dS D)) o.2 ∧ o.2.1 73 4 = 0 ∧ ∀ p, p < 73 → o.2.1 p = N0.1 p) := by
      intro x hx
      rw [gA_n (k_87 hy) hi (by omega), n2_nat (by omega)]
      refine wp_lt (wp_lt ?_)
      rw [n2_s, wI_sr]
      refine hk2 _ ⟨fun p hp => by rw [sr_ne hp]; exact i1 p hp, fun k => ?_⟩
      rw [sr_ap]
      by_cases e : k = i
      · rw [e, up_eq, if_pos (by omega), hx]
      · rw [up_ne e, i2 k]
        by_cases q : k < i
        · rw [if_pos q, if_pos (by omega)]
        · rw [if_neg q, if_neg (by omega)]
    refine wp_jn ?_
    by_cases q : bt (sPg (dS D)) i = 1
    · rw [if_pos q]
      refine wp_brf (by decide) (fin 0 ?_)
      rw [c1, if_pos q]
    · rw [if_neg q]
      refine wp_brt rfl ?_
      refine wp_gAn (k_78 hy) (by omega) (by omega) (fin _ ?_)
      rw [n2_nat (by omega), c1, if_neg q, i1 78 (by decide), ur 78 (by decide), s78 i hi]
  · intro f s hI
    obtain ⟨i1, i2⟩ := hI
    refine wp_brt rfl ?_
    refine wp_for 6 (fun i z => (∀ p, ¬ p = 85 → ¬ p = 88 → z.1 p = s.1 p) ∧ ∀ k, (z.1 85 k = if k < i then sSk (dS D) k else s.1 85 k) ∧ (z.1 88 k = if k < i then sSp (dS D) k else s.1 88 k)) (by decide) rfl (Nat.zero_le _) ⟨fun _ _ _ => rfl, fun k => ⟨(if_neg (Nat.not_lt_zero k)).symm, (if_neg (Nat.not_lt_zero k)).symm⟩⟩ ?_ ?_
    · intro ff i z hi hJ hk2
      obtain ⟨j1, j2⟩ := hJ
      refine wp_brf (by rw [show (6 : Int32) = n2 6 from rfl, n2_le (by decide) (by omega)]; omega) ?_
      rw [gA_t (k_77 hy) (by decide), r_73_13 hy, r_73_29 hy]
      have e2' : z.1 77 (2 : Int32).toNatClampNeg = n2 (kg (dK D)) := by
        show z.1 77 2 = _
        rw [j1 77 (by decide) (by decide), i1 77 (by decide), ur 77 (by decide), s77 2 (by decide)]
        exact a5
      rw [e2']
      have fin : ∀ x x' : Int32, x = sSk (dS D) i → x' = sSp (dS D) i → hk2 = hk2 → ∀ o, (∀ p, ¬ p = 85 → ¬ p = 88 → o.1 p = s.1 p) ∧ (∀ k, (o.1 85 k = if k < i + 1 then sSk (dS D) k else s.1 85 k) ∧ (o.1 88 k = if k < i + 1 then sSp (dS D) k else s.1 88 k)) → wp (lt (n2 i + (1 : Int32)) fun (v58 : Int32) => ff v58 o) (fun o => MR (cstA A (dK' D C F) (dS D)) o.2 ∧ o.2.1 73 4 = 0 ∧ ∀ p, p < 73 → o.2.1 p = N0.1 p) := by
        intro x x' _ _ _ o ho
        refine wp_lt ?_
        rw [n2_s]
        exact hk2 o ho
      have w : ∀ x x' : Int32, x = sSk (dS D) i → x' = sSp (dS D) i → (∀ p, ¬ p = 85 → ¬ p = 88 → (sr (sr z 85 (up (z.1 85) i x)) 88 (up (z.1 88) i x')).1 p = s.1 p) ∧ (∀ k, ((sr (sr z 85 (up (z.1 85) i x)) 88 (up (z.1 88) i x')).1 85 k = if k < i + 1 then sSk (dS D) k else s.1 85 k) ∧ ((sr (sr z 85 (up (z.1 85) i x)) 88 (up (z.1 88) i x')).1 88 k = if k < i + 1 then sSp (dS D) k else s.1 88 k)) := by
        intro x x' hx hx'
        refine ⟨fun p h1 h2 => by rw [sr_ne h2, sr_ne h1]; exact j1 p h1 h2, fun k => ?_⟩
        rw [sr_ne (show ¬ 85 = 88 by decide), sr_ap, sr_ap]
        by_cases e : k = i
        · rw [e, up_eq, up_eq, if_pos (by omega), if_pos (by omega)]; exact ⟨hx, hx'⟩
        · rw [up_ne e, up_ne e, (j2 k).1, (j2 k).2]
          by_cases q : k < i
          · rw [if_pos q, if_pos (show k < i + 1 by omega), if_pos q, if_pos (show k < i + 1 by omega)]; exact ⟨rfl, rfl⟩
          · rw [if_neg q, if_neg (show ¬ k < i + 1 by omega), if_neg q, if_neg (show ¬ k < i + 1 by omega)]; exact ⟨rfl, rfl⟩
      refine wp_jn ?_
      by_cases q : i < kg (dK D)
      · obtain ⟨-, b2, b3⟩ := b i q
        refine wp_brf (by rw [n2_le (by omega) (by omega)]; omega) ?_
        refine wp_gN (by decide) ?_
        refine wp_jn (wp_brf (by decide) ?_)
        refine wp_gAn (k_80 hy) (by omega) (by omega) (wp_gAn (k_85 hy) hi (by omega) (wp_lt ?_))
        refine wp_gN (by decide) ?_
        refine wp_jn (wp_brf (by decide) ?_)
        refine wp_gAn (k_81 hy) (by omega) (by omega) (wp_gAn (k_88 hy) hi (by omega) (wp_lt ?_))
        rw [n2_nat (show i < 2147483648 by omega), wI_sr, wI_sr, sr_ne (show ¬ 81 = 85 by decide), sr_ne (show ¬ 88 = 85 by decide)]
        have g80 : z.1 80 i = sSk (dS D) i := by rw [j1 80 (by decide) (by decide), i1 80 (by decide), ur 80 (by decide), s80 i hi]; exact b2
        have g81 : z.1 81 i = sSp (dS D) i := by rw [j1 81 (by decide) (by decide), i1 81 (by decide), ur 81 (by decide), s81 i hi]; exact b3
        exact fin _ _ g80 g81 rfl _ (w _ _ g80 g81)
      · obtain ⟨b2, b3⟩ := hv.2.2.1 i (by omega)
        refine wp_brt (by rw [n2_le (by omega) (by omega)]; omega) ?_
        refine wp_gN (by decide) ?_
        refine wp_jn (wp_brt rfl ?_)
        refine wp_gAn (k_85 hy) hi (by omega) (wp_lt ?_)
        refine wp_gN (by decide) ?_
        refine wp_jn (wp_brt rfl ?_)
        refine wp_gAn (k_88 hy) hi (by omega) (wp_lt ?_)
        rw [n2_nat (show i < 2147483648 by omega), wI_sr, wI_sr, sr_ne (show ¬ 88 = 85 by decide)]
        exact fin 0 0 b3.symm b2.symm rfl _ (w _ _ b3.symm b2.symm)
    · intro ff z hJ
      obtain ⟨j1, j2⟩ := hJ
      refine wp_brt rfl (wp_lt (wp_lt (wp_lt ?_)))
      simp only [wI_sr, sr_ap, sr_sr]
      generalize hO : sr z 73 (up (up (up (z.1 73) 36 0) 37 0) 55 0) = O
      have o73 : ∀ k, ¬ (k = 36 ∨ k = 37 ∨ k = 55) → O.1 73 k = M.1 73 k := fun k hk => by
        rw [← hO, sr_ap, up_ne (by omega), up_ne (by omega), up_ne (by omega), j1 73 (by decide) (by decide), i1 73 (by decide)]
      have ok : O.1 73 36 = 0 ∧ O.1 73 37 = 0 ∧ O.1 73 55 = 0 := by
        rw [← hO, sr_ap]
        exact ⟨rfl, rfl, rfl⟩
      have or : ∀ p, ¬ p = 73 → O.1 p = z.1 p := fun p hp => by rw [← hO, sr_ne hp]
      clear hO
      have oN : ∀ p, ¬ (p = 73 ∨ p = 85 ∨ p = 87 ∨ p = 88 ∨ (77 ≤ p ∧ p ≤ 83)) → O.1 p = N.1 p := fun p hp => by
        rw [or p (by omega), j1 p (by omega) (by omega), i1 p (by omega), ur p (by omega), s0 p (by omega)]
      have o7 : ∀ p, 77 ≤ p → p ≤ 83 → O.1 p = N7.1 p := fun p h1 h2 => by
        rw [or p (by omega), j1 p (by omega) (by omega), i1 p (by omega), ur p (by omega)]
      have oO : ∀ p, ¬ (p = 73 ∨ p = 85 ∨ p = 87 ∨ p = 88 ∨ (77 ≤ p ∧ p ≤ 83)) → O.1 p = N0.1 p := fun p hp => by
        rw [oN p hp, f1 p (by omega), hb p (by omega)]
      obtain ⟨-, ⟨m1, -, -, m4⟩, -, -, -⟩ := h
      have hsS := hv.1.2
      have r87 : ∀ k, 30 ≤ k → M.1 87 k = 0 := fun k hk => by
        rw [ur 87 (by decide), s0 87 (by omega), f1 87 (by omega), hb 87 (by decide)]
        have e := congrArg (fun S : Sk => sB S k) m1
        exact (show N0.1 87 k = sB (aS A) k from e).trans (SOK.b v.1 v.2.1.1.1 k hk)
      have r88 : ∀ k, 6 ≤ k → s.1 88 k = 0 := fun k hk => by
        rw [i1 88 (by decide), ur 88 (by decide), s0 88 (by omega), f1 88 (by omega), hb 88 (by decide)]
        have e := congrArg (fun S : Sk => sSp S k) m1
        exact (show N0.1 88 k = sSp (aS A) k from e).trans (SOK.sp v.2.1.1.1 k hk)
      have r85 : ∀ k, 6 ≤ k → s.1 85 k = 0 := fun k hk => by
        rw [i1 85 (by decide), ur 85 (by decide), s0 85 (by omega), f1 85 (by omega), hb 85 (by decide)]
        have e := congrArg (fun S : Sk => sSk S k) m1
        exact (show N0.1 85 k = sSk (aS A) k from e).trans (SOK.sk v.2.1.1.1 k hk)
      have eB : O.1 87 = sB (dS D) := by
        funext k
        rw [or 87 (by decide), j1 87 (by decide) (by decide), i2 k]
        by_cases q : k < 30
        · rw [if_pos q]
        · rw [if_neg q, r87 k (by omega), SOK.b hK hsS k (by omega)]
      have eSp : O.1 88 = sSp (dS D) := by
        funext k
        rw [or 88 (by decide), (j2 k).2]
        by_cases q : k < 6
        · rw [if_pos q]
        · rw [if_neg q, r88 k (by omega), SOK.sp hsS k (by omega)]
      have eSk : O.1 85 = sSk (dS D) := by
        funext k
        rw [or 85 (by decide), (j2 k).1]
        by_cases q : k < 6
        · rw [if_pos q]
        · rw [if_neg q, r85 k (by omega), SOK.sk hsS k (by omega)]
      have z0 := hv.2.1
      refine wp_some ⟨⟨⟨⟨?_, ?_, ?_, ?_, ?_⟩, fun g hg => ?_, ⟨?_, fun i hi => ?_⟩, ?_, fun i hi => ?_⟩, ⟨?_, ⟨?_, fun j hj => absurd hj (Nat.not_lt_zero j)⟩, ⟨?_, fun j hj => absurd hj (Nat.not_lt_zero j)⟩, fun k hk => ?_⟩, ⟨?_, fun q => by cases q⟩, ⟨?_, fun k hk => absurd hk (Nat.not_lt_zero k)⟩, ?_⟩, ?_, fun p hp => oO p (by omega)⟩
      · rw [o7 77 (by decide) (by decide), s77 0 (by decide)]; exact a1
      · rw [o7 77 (by decide) (by decide), s77 1 (by decide)]; exact a2
      · rw [o7 77 (by decide) (by decide), s77 4 (by decide)]; exact a3
      · rw [o7 77 (by decide) (by decide), s77 5 (by decide)]; exact a4
      · rw [o7 77 (by decide) (by decide), s77 2 (by decide)]; exact a5
      · have hg : g < kg (dK D) := hg
        rw [o7 79 (by decide) (by decide), s79 g (by omega)]; exact (b g hg).1
      · rw [o7 77 (by decide) (by decide), s77 6 (by decide)]; exact d1
      · have hi : i < dl (dK D) := hi
        have hl : dl (dK D) ≤ 700 := hK.2.2.1.1
        rw [o7 82 (by decide) (by decide), s82 i (by omega), d2 i hi]
        exact congrArg mc (hC i (by omega)).symm
      · rw [o7 77 (by decide) (by decide), s77 7 (by decide)]; exact d3
      · have hi : i < fl (dK D) := hi
        have hl : fl (dK D) ≤ 700 := hK.2.2.2.1
        rw [o7 83 (by decide) (by decide), s83 i (by omega), d4 i hi]
        exact congrArg mc (hFF i (by omega)).symm
      · show (O.1 87, O.1 88, O.1 85, O.1 73 34, O.1 73 35, O.1 73 32, O.1 73 33, O.1 73 31, (0 : Int32)) = (sB (dS D), sSp (dS D), sSk (dS D), sPg (dS D), sRs (dS D), sKn (dS D), sMa (dS D), sDy (dS D), (0 : Int32))
        rw [eB, eSp, eSk, o73 34 (by omega), o73 35 (by omega), o73 32 (by omega), o73 33 (by omega), o73 31 (by omega), uk.1, uk.2.1, uk.2.2.1, uk.2.2.2.1, uk.2.2.2.2, z0.1, z0.2.1, z0.2.2]
      · rw [ok.1]; rfl
      · rw [ok.2.1]; rfl
      · rw [oO 84 (by omega)]; exact m4 k hk
      · rw [ok.2.2]; rfl
      · rw [o73 15 (by omega), u73 15 (by omega), f2 15 (by omega)]; exact hb2.1
      · rw [o73 24 (by omega), u73 24 (by omega), f2 24 (by omega)]; exact hb2.2.1
      · show O.1 73 4 = 0
        rw [o73 4 (by omega), u73 4 (by omega), f2 4 (by omega)]; exact hb2.2.2
