/-! ===== calls: coast ===== -/
theorem J_lcw {α β : Type} {A : Option (Int32 × Mem)} {k : Int32 → Mem → Option α} {Z : Option β} {Q : α → β → Prop} (h : wp A (fun o => wp (k o.1 o.2) (fun u => wp Z (fun w => Q u w)))) : J (c0 A k) Z Q := by
  obtain ⟨o, e, u, e1, w, e2, q⟩ := h
  exact ⟨u, w, by rw [e]; exact e1, e2, q⟩
theorem wp_c0i {β : Type} {A : Option (Int32 × Mem)} {k : Int32 → Mem → Option β} {R : β → Prop} (h : wp (c0 A k) R) : wp A (fun o => wp (k o.1 o.2) R) := by
  obtain ⟨o, e, r⟩ := h
  cases A with
  | none => cases e
  | some a => exact ⟨a, rfl, o, e, r⟩
def txA (A : St) (m : Nat) : Tx := (fun k => ((aT A).2 k).toNatClampNeg, m)
theorem txA_b {A : St} (v : VAL A) {m : Nat} (hm : m ≤ (aT A).1) : ∀ k, k < m → (txA A m).1 k < 256 ∧ (aT A).2 k = n2 ((txA A m).1 k) := by
  intro k hk
  obtain ⟨w, h1, h2⟩ := v.2.2.2.2 k (Nat.lt_of_lt_of_le hk hm)
  have e : (txA A m).1 k = w := by
    show ((aT A).2 k).toNatClampNeg = w
    rw [h2, n2_nat (by omega)]
  rw [e]
  exact ⟨h1, h2⟩
/-- the model, where a text is refused -/
theorem bad_m {y : Lay} (hy : LY y) {A : St} {N0 Nb N : Mem} (h : MR A N0) (v : VAL A) (hF : FMl Nb N) (hb : ∀ p, ¬ p = 73 → Nb.1 p = N0.1 p) (hb2 : Nb.1 73 15 = 0 ∧ Nb.1 73 4 = 0) (hb3 : ∀ f, 28 ≤ f → Nb.1 73 f = N0.1 73 f) {f s : Int32} (e22 : N.1 73 22 = f) (e23 : N.1 73 23 = s) : wp (lt (wI N 73 24 (N.1 73 23)) fun (M36 : Mem) => gN 84 (gA y 84 1 (0 : Int32) (gA y 84 1 (0 : Int32) (lt (wI M36 84 (0 : Int32).toNatClampNeg ((M36.1 84 (0 : Int32).toNatClampNeg) + (1 : Int32))) fun (M40 : Mem) => some ((M40.1 73 22), M40))))) (fun o => o.1 = f ∧ MR (badA A s) o.2 ∧ o.2.1 73 4 = 0 ∧ ∀ p, p < 73 → o.2.1 p = N0.1 p) := by
  obtain ⟨f1, f2, f3, f4, f5, f6⟩ := hF
  refine wp_lt ?_
  rw [gN_t (by decide), gA_t (k_84 hy) (by decide), gA_t (k_84 hy) (by decide), e23, wI_sr]
  refine wp_lt ?_
  rw [wI_sr]
  generalize hM : sr (sr N 73 (up (N.1 73) 24 s)) 84 _ = M
  have m73 : M.1 73 = up (N.1 73) 24 s := by rw [← hM, sr_ne (by decide), sr_ap]
  have m84 : M.1 84 = up (N.1 84) 0 (N.1 84 0 + 1) := by rw [← hM, sr_ap, sr_ne (by decide)]; rfl
  have mr : ∀ p, ¬ p = 73 → ¬ p = 84 → M.1 p = N.1 p := fun p h1 h2 => by rw [← hM, sr_ne h2, sr_ne h1]
  have mo : ∀ p, p < 73 ∨ (73 < p ∧ p < 77) ∨ 83 < p → ¬ p = 84 → M.1 p = N0.1 p := fun p h1 h2 => by rw [mr p (by omega) h2, f1 p h1, hb p (by omega)]
  have m28 : ∀ k, 28 ≤ k → M.1 73 k = N0.1 73 k := fun k hk => by rw [m73, up_ne (by omega), f2 k (by omega), hb3 k hk]
  have n84 : N.1 84 = N0.1 84 := by rw [f1 84 (by omega), hb 84 (by decide)]
  clear hM
  refine wp_some ⟨?_, ?_, ?_, fun p hp => mo p (by omega) (by omega)⟩
  · show M.1 73 22 = f
    rw [m73, up_ne (by decide)]; exact e22
  · obtain ⟨⟨⟨c1, c2, c3, c4, c5⟩, c6, ⟨c7, c8⟩, c9, c10⟩, ⟨g1, g2, g3, g4⟩, ⟨h1, h2⟩, h3, h4⟩ := h
    have hK := v.1
    have x77 : ∀ k, k < 9 → M.1 77 k = N0.1 77 k := fun k hk => by rw [mr 77 (by decide) (by decide), f3 k hk, hb 77 (by decide)]
    refine ⟨⟨⟨?_, ?_, ?_, ?_, ?_⟩, fun g hg => ?_, ⟨?_, fun i hi => ?_⟩, ?_, fun i hi => ?_⟩, ⟨?_, ?_, ?_, fun k hk => ?_⟩, ⟨?_, fun q => ?_⟩, ⟨?_, fun k hk => absurd hk (Nat.not_lt_zero k)⟩, ?_⟩
    · rw [x77 0 (by decide)]; exact c1
    · rw [x77 1 (by decide)]; exact c2
    · rw [x77 4 (by decide)]; exact c3
    · rw [x77 5 (by decide)]; exact c4
    · rw [x77 2 (by decide)]; exact c5
    · have hg : g < kg (aK A) := hg
      have hg6 : kg (aK A) ≤ 6 := hK.2.1.2.2
      rw [mr 79 (by decide) (by decide), (f5 g (by omega)).1, hb 79 (by decide)]; exact c6 g hg
    · rw [x77 6 (by decide)]; exact c7
    · have hi : i < dl (aK A) := hi
      have hl : dl (aK A) ≤ 700 := hK.2.2.1.1
      rw [mr 82 (by decide) (by decide), (f6 i (by omega)).1, hb 82 (by decide)]; exact c8 i hi
    · rw [x77 7 (by decide)]; exact c9
    · have hi : i < fl (aK A) := hi
      have hl : fl (aK A) ≤ 700 := hK.2.2.2.1
      rw [mr 83 (by decide) (by decide), (f6 i (by omega)).2, hb 83 (by decide)]; exact c10 i hi
    · unfold moV at g1 ⊢
      rw [mo 87 (by omega) (by decide), mo 88 (by omega) (by decide), mo 85 (by omega) (by decide), m28 34 (by omega), m28 35 (by omega), m28 32 (by omega), m28 33 (by omega), m28 31 (by omega), m28 41 (by omega)]
      exact g1
    · rw [m28 36 (by omega), mo 89 (by omega) (by decide)]; exact g2
    · rw [m28 37 (by omega), mo 97 (by omega) (by decide), mo 98 (by omega) (by decide), mo 99 (by omega) (by decide)]; exact g3
    · rw [m84, n84]
      show up (N0.1 84) 0 (N0.1 84 0 + 1) k = up (mT (aM A)) 0 (mT (aM A) 0 + 1) k
      by_cases e : k = 0
      · rw [e, up_eq, up_eq, g4 0 (by decide)]
      · rw [up_ne e, up_ne e]; exact g4 k hk
    · rw [m28 55 (by omega)]; exact h1
    · have g := h2 q
      unfold MPI at g ⊢
      rw [mo 104 (by omega) (by decide), mo 105 (by omega) (by decide), mo 106 (by omega) (by decide), mo 107 (by omega) (by decide), mo 108 (by omega) (by decide), mo 109 (by omega) (by decide), m28 56 (by omega), m28 57 (by omega)]
      exact g
    · rw [m73, up_ne (by decide), f2 15 (by omega)]; exact hb2.1
    · rw [m73, up_eq]; rfl
  · show M.1 73 4 = 0
    rw [m73, up_ne (by decide), f2 4 (by omega)]; exact hb2.2
/-- what the model says, its frame as far as coast needs it -/
def OW (A : St) (P : Nat × Int32) (M : Mem) (o : Int32 × Mem) : Prop := o.2.1 73 4 = n2 P.1 ∧ (P.1 = 0 → o.1 = P.2) ∧ MR A o.2 ∧ kC1 M o.2
theorem OM.w {A : St} {P : Nat × Int32} {M : Mem} {o : Int32 × Mem} (h : OM A P M o) : OW A P M o := ⟨h.1, h.2.1, h.2.2.1, h.2.2.2.2⟩
def CO (A : St) (M N : Mem) (u : Nat × Int32 × Mem) (w : Int32 × Mem) : Prop := ∃ A' P P', VAL A' ∧ OC A' P M u ∧ OW A' P' N w ∧ ((P.1 = 0 ∧ P' = P) ∨ (P = (2, 0) ∧ P' = (1, 0)))
theorem coast_J {y : Lay} (hy : LY y) {A : St} {M N : Mem} (h : CR A M) (g : MR A N) (v : VAL A) (a : Int32) : J (f_X11_coast y 1 a M) (f_X12_coast y 73 a N) (CO A M N) := by
  have e15 : N.1 73 15 = n2 (aT A).1 := g.2.2.2.1.1
  have e21 : M.1 2 1 = n2 (aT A).1 := h.2.2.2.2.1.1
  have h700 : (aT A).1 ≤ 700 := v.2.2.2.1
  have thr : J (some ((2 : Nat), (0 : Int32), M)) (c0 (f_X12_fail y 73 1 (sr N 73 (up (N.1 73) 4 0))) fun (r4 : Int32) (M5 : Mem) => some (r4, M5)) (CO A M N) := by
    have g2 : wp (lt (wI N 73 4 0) fun M2 => c0 (f_X12_fail y 73 1 M2) fun (r4 : Int32) (M5 : Mem) => some (r4, M5)) (OM A (1, 0) N) := OM.start hy g (fun M0 g0 k0 _ => OM.fail hy rfl (by decide) g0 k0)
    rw [lT_s, wI_sr] at g2
    obtain ⟨w, e, q⟩ := g2
    exact ⟨_, w, rfl, e, A, (2, 0), (1, 0), v, ⟨rfl, fun z => absurd z (by decide), h, kM.refl M⟩, q.w, Or.inr ⟨rfl, rfl⟩⟩
  unfold f_X11_coast f_X12_coast
  rw [gK_t (k_73 hy)]
  refine J_lj (J_rl (J_rj ?_))
  rw [wI_sr]
  by_cases a0 : a < 0
  · exact J_lt a0 (J_rt a0 thr)
  refine J_lf a0 (J_rf a0 ?_)
  rw [gK_t (k_1 hy), r_1_0 hy, gN_t (by decide), gK_t (k_2 hy), e21, sr_ap, up_ne (show ¬ 15 = 4 by decide), e15]
  by_cases a1' : ¬ a ≤ n2 (aT A).1
  · exact J_lf a1' (J_rf a1' thr)
  have a1 : a ≤ n2 (aT A).1 := Decidable.not_not.mp a1'
  refine J_lt a1 (J_rt a1 ?_)
  -- the text
  have a0' : 0 ≤ a.toInt := by rw [i_lt] at a0; have z : (0 : Int32).toInt = 0 := rfl; omega
  have ea : a = n2 a.toInt.toNat := n2_of a0'
  have hm : a.toInt.toNat ≤ (aT A).1 := by
    have hb := i_bd a
    rw [i_le, n2_int (by omega)] at a1
    omega
  generalize a.toInt.toNat = m at ea hm
  subst ea
  have hT : TOK (txA A m) := ⟨Nat.le_trans hm h700, fun k hk => (txA_b v hm k hk).1⟩
  rw [r_1_2 hy, gN_t (by decide), gK_t (k_12 hy)]
  refine J_rl (J_rl (J_rl (J_rl (J_rl (J_rl (J_rl ?_))))))
  rw [wI_sr (sr _ _ _), wI_sr (sr _ _ _), wI_sr (sr _ _ _), wI_sr (sr _ _ _), wI_sr (sr _ _ _), wI_sr (sr _ _ _), wI_sr (sr _ _ _)]
  simp only [sr_ap, sr_sr]
  generalize hNb : sr N 73 (up (up (up (up (up (up (up (up (N.1 73) 4 0) 15 0) 17 (n2 m)) 16 0) 22 0) 24 (-1)) 25 0) 26 0) = Nb
  have nb1 : ∀ p, ¬ p = 73 → Nb.1 p = N.1 p := fun p hp => by rw [← hNb, sr_ne hp]
  have nb2 : ∀ f, 28 ≤ f → Nb.1 73 f = N.1 73 f := fun f hf => by
    rw [← hNb, sr_ap, up_ne (by omega), up_ne (by omega), up_ne (by omega), up_ne (by omega), up_ne (by omega), up_ne (by omega), up_ne (by omega), up_ne (by omega)]
  have nb3 : Nb.1 73 4 = 0 ∧ Nb.1 73 15 = 0 ∧ Nb.1 73 17 = n2 m ∧ Nb.1 73 16 = 0 ∧ Nb.1 73 22 = 0 ∧ Nb.1 73 24 = -1 ∧ Nb.1 73 25 = 0 ∧ Nb.1 73 26 = 0 := by
    rw [← hNb, sr_ap]
    exact ⟨rfl, rfl, rfl, rfl, rfl, rfl, rfl, rfl⟩
  clear hNb
  have tx : TXM (txA A m) Nb := by
    refine ⟨fun k hk => ?_, nb3.2.2.1⟩
    have hk : k < m := hk
    rw [nb1 86 (by decide), ← (txA_b v hm k hk).2]
    exact g.2.2.2.1.2 k (by omega)
  rw [r_1_1 hy, r_1_3 hy, r_12_2 hy, r_12_3 hy]
  refine J_lcw ?_
  unfold f_X2_read
  rw [gK_t (k_12 hy), r_12_2 hy, gN_t (by decide), gK_t (k_13 hy), r_12_3 hy, r_12_0 hy]
  refine start_c hy hT (FCl.refl M) ⟨(aT A).1, hm, h700, e21⟩ (fun k hk => ?_) (l := fun _ M16 => fixN (fun _ _ _ => none) (fun (s20 : Int32 → Int32 → Mem → Option (Int32 × Mem)) (v17 : Int32) (v18 : Int32) (M19 : Mem) => jn (fun (_u : Unit) => some ((M19.1 28 6), M19)) fun j22 => br ((700 : Int32) ≤ v18) (j22 ()) (br (v17 = 0) (j22 ()) (br ((M19.1 28 2) = ((-1) : Int32)) (j22 ()) (c0 (f_X2_readLine y 12 M19) fun (r29 : Int32) (M30 : Mem) => lt (v18 + (1 : Int32)) fun (v31 : Int32) => s20 r29 v31 M30)))) FUEL (1 : Int32) (0 : Int32) M16) (fun M1 C F hM1 => ?_)
  · have hk : k < m := hk
    rw [← (txA_b v hm k hk).2]
    exact h.2.2.2.2.1.2 k (by omega)
  refine wp_c0i (k := cTail y) (J_wp ?_)
  refine wp_rc (start_m hy hT tx nb3.2.2.2.1 nb3.2.2.2.2.1 nb3.2.2.2.2.2.2.1 nb3.2.2.2.2.2.2.2 C F (E := fun M26 => fixN (fun _ _ => none) (fun (s29 : Int32 → Mem → Option (Int32 × Mem)) (v27 : Int32) (M28 : Mem) => jn (fun (_u : Unit) => br ((M28.1 73 22) = 0) (c0 (f_X12_takeOver y 73 M28) fun (r34 : Int32) (M35 : Mem) => some ((0 : Int32), M35)) (lt (wI M28 73 24 (M28.1 73 23)) fun (M36 : Mem) => gN (y.2.1 73 12) (gA y (y.2.1 73 12) 1 (0 : Int32) (gA y (y.2.1 73 12) 1 (0 : Int32) (lt (wI M36 (y.2.1 73 12) (0 : Int32).toNatClampNeg ((M36.1 (y.2.1 73 12) (0 : Int32).toNatClampNeg) + (1 : Int32))) fun (M40 : Mem) => some ((M40.1 73 22), M40)))))) fun j31 => br ((M28.1 73 22) = 0) (br ((M28.1 73 18) = 0) (j31 ()) (c0 (f_X12_readLine y 73 v27 M28) fun (r45 : Int32) (M46 : Mem) => s29 r45 M46)) (j31 ())) FUEL (0 : Int32) M26) (fun N1 hN1 => J_wp' ?_))
  refine text_J hy hT hM1 hN1 (D00_v C F) rfl (fun M' N' D' hv k6 k7 hd hF k22 hdm hFm => ?_) (fun M' N' hlf => ?_)
  · refine wp_lc (wp_mono (good_c hy h v hv hd hF k7) (fun u hu => ?_))
    obtain ⟨C', F', ⟨u1, u2⟩, ⟨u3, u4⟩, u5, u6⟩ := hu
    refine wp_brt k22 (wp_c0 _ (takeOver_m hy g v hv hdm hFm nb1 ⟨nb3.2.1, nb3.2.2.2.2.2.1, nb3.1⟩ u1 u2) (fun r N2 q => wp_some ?_))
    obtain ⟨q1, q2, q3⟩ := q
    exact ⟨_, (0, 0), (0, 0), cst_val hv u1 u2, ⟨u3, fun _ => u4, u5, fun p hp => u6 p hp⟩, ⟨q2, fun _ => rfl, q1, fun p hp => q3 p hp⟩, Or.inl ⟨rfl, rfl⟩⟩
  · obtain ⟨⟨f, s, l1, ⟨l2, l3⟩, l4, l5⟩, l6, l7⟩ := hlf
    rw [l2]
    refine wp_lc (wp_mono (bad_c hy h l1 l6 l3) (fun u hu => ?_))
    obtain ⟨⟨u1, u2⟩, u3, u4⟩ := hu
    rw [r_73_12 hy]
    refine wp_brf (by rw [l4]; exact l1) (wp_mono (bad_m hy g v l7 nb1 ⟨nb3.2.1, nb3.1⟩ nb2 l4 l5) (fun w hw => ?_))
    obtain ⟨w1, w2, w3, w4⟩ := hw
    exact ⟨badA A s, (0, f), (0, f), bad_val v s, ⟨u1, fun _ => u2, u3, fun p hp => u4 p hp⟩, ⟨w3, fun _ => w1, w2, fun p hp => w4 p hp⟩, Or.inl ⟨rfl, rfl⟩⟩
