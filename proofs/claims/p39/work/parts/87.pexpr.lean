/-! ===== expressions: products, sums, tests, not, and, or ===== -/
theorem fxF {κ : Type} (b : κ) (F : κ → κ) : fixN b F FUEL = F (fixN b F 99999) := rfl
theorem J_rfx {α β σ : Type} {Q : α → β → Prop} {X : Option α} {b : σ → Option β} {G : (σ → Option β) → σ → Option β} {N : σ} (h : J X (G (fixN b G 99999) N) Q) : J X (fixN b G FUEL N) Q := by rw [fxF]; exact h
theorem J_loopb {α β : Type} {Q : α → β → Prop} {b1 : Int32 → Mem → Option α} {b2 : Mem → Option β} {F : (Int32 → Mem → Option α) → Int32 → Mem → Option α} {G : (Mem → Option β) → Mem → Option β} (B : Mem → Prop) (res : Mem → β) (hB : ∀ g N, B N → G g N = some (res N)) (I : Nat → Nat → Mem → Mem → Prop) (K : Nat) (hK : K + 1 < FUEL) {p0 n0 : Nat} {M0 N0 : Mem} {c : Int32} (hc : c = n2 n0) (h0 : p0 ≤ K ∧ I p0 n0 M0 N0) (hs : ∀ f g p n M N, p ≤ K → I p n M N → (∀ N, B N → g N = some (res N)) → (∀ p' M' N', p < p' → p' ≤ K → I p' (n + 1) M' N' → J (f (n2 (n + 1)) M') (g N') Q) → J (F f (n2 n) M) (G g N) Q) : J (fixN b1 F FUEL c M0) (fixN b2 G FUEL N0) Q := by
  subst hc
  have key : ∀ m p n M N, K - p + 1 < m → p ≤ K → I p n M N → J (fixN b1 F m (n2 n) M) (fixN b2 G m N) Q := by
    intro m
    induction m with
    | zero => intro p n M N h; exact absurd h (Nat.not_lt_zero _)
    | succ m ih =>
      intro p n M N h1 h2 h3
      refine hs _ _ p n M N h2 h3 (fun N hN => ?_) (fun p' M' N' h4 h5 h6 => ih p' (n + 1) M' N' (by omega) h5 h6)
      match m, h1 with
      | m + 1, _ => exact hB _ N hN
  exact key FUEL p0 n0 M0 N0 (by omega) h0.1 h0.2
theorem J_rg2 {α β : Type} {Q : α → β → Prop} {X : Option α} {A : Option β} {b : β} (h : A = some b) (g : J X (some b) Q) : J X A Q := by rw [h]; exact g
theorem WFP.bin {m : Nat} {C : Row} {L d : Nat} {c : Int32} (h : WFP m C L (d + 2)) (hd : d + 2 < 40) (hc : isB c = true) (h13 : ¬ c = -13) : WFP m (up C L c) (L + 1) (d + 1) := h.push hd (Or.inr (Or.inr (Or.inr hc))) (fun z => absurd z h13) (fun _ _ => ⟨by omega, by omega⟩) (fun _ z => absurd hc z) isB_13
theorem EX.mono {y : Lay} {e : Bool} {T : Tx} {M0 N0 : Mem} {w D D' : Nat} {P P' : Nat → Prop} {X Z : Lay → Nat → Int32 → Mem → Option (Int32 × Mem)} (h : EX y e T M0 N0 w D P X Z) (hD : D' ≤ D) (hP : ∀ p, P' p → P p) : EX y e T M0 N0 w D' P' X Z := fun p L C d M N hp hW hd => h p L C d M N (hP p hp) hW (Nat.le_trans hd hD)
theorem readProduct_J {y : Lay} (hy : LY y) {T : Tx} (hT : TOK T) {e : Bool} {M0 N0 : Mem} {w D : Nat} (hD : D < 37) {RC RM : Lay → Nat → Int32 → Mem → Option (Int32 × Mem)} (HP : EX y e T M0 N0 w (D + 1) (fun _ => True) (f_X6_readPart RC) (f_X12_readPart RM)) : EX y e T M0 N0 w D (fun _ => True) (f_X6_readProduct RC) (f_X12_readProduct RM) := by
  intro p L C d M N _ hW hd hL hM hN
  have h7 := hT.1
  have hp := hM.1.2.1
  have hF : FUEL = 100000 := rfl
  unfold f_X6_readProduct f_X12_readProduct
  rw [gK_t (k_29 hy), gK_t (k_73 hy)]
  refine J_cc (HP p L C d M N trivial hW (by omega) hL hM hN) (fun r M1 s N1 q => ?_)
  have lb : ∀ (s5 : Mem → Option (Int32 × Mem)) (M4 : Mem), ¬ M4.1 73 22 = 0 → (cp (f_X12_isMarked y 73 (42 : Int32) M4) fun (r7 : Int32) => jn (fun (_u : Unit) => cp (f_X12_isMarked y 73 (42 : Int32) M4) fun (r9 : Int32) => jn (fun (v10 : Int32) => c0 (f_X12_stepOn y 73 M4) fun (r12 : Int32) (M13 : Mem) => c0 (f_X12_readPart RM y 73 (n2 w) M13) fun (r14 : Int32) (M15 : Mem) => c0 (f_X12_lay y 73 v10 M15) fun (r16 : Int32) (M17 : Mem) => s5 M17) fun j11 => br (r9 = 0) (j11 (mc (-19))) (j11 (mc (-18)))) fun j8 => br (r7 = 0) (cp (f_X12_isMarked y 73 (47 : Int32) M4) fun (r22 : Int32) => br (r22 = 0) (some ((0 : Int32), M4)) (j8 ())) (j8 ())) = some ((0 : Int32), M4) := by
    intro s5 M4 hb
    rw [isMarked_b hy hb, cp_s, jn_s, bR_t rfl, isMarked_b hy hb, cp_s, bR_t rfl]
  rcases q with ⟨q3, p', L', C', ⟨q4, q4'⟩, q5, q6, m1, n1⟩ | ⟨q3, q4⟩
  · have q3 : r = 1 := q3
    rw [q3]
    refine J_lf (by decide) ?_
    refine J_loopb (fun N => ¬ N.1 73 22 = 0) (fun N => ((0 : Int32), N)) (fun g N hb => lb g N hb) (fun p1 n M N => (n < p1 ∧ p < p1) ∧ ∃ L1 C1, L1 + p ≤ p1 + L ∧ WFP (mm e) C1 L1 (d + 1) ∧ EC e T M0 p1 L1 C1 M ∧ EM e T N0 p1 L1 C1 N) T.2 (by omega) (n0 := 0) rfl ⟨q4', ⟨by omega, q4⟩, L', C', q5, q6, m1, n1⟩ ?_
    clear m1 n1 q5 q6 q4 q4' L' C' p' lb
    intro f g p1 n M7 N7 hp1 hI hg hk
    obtain ⟨⟨i1, i2⟩, L1, C1, i3, i4, m1, n1⟩ := hI
    have tc := m1.1
    have tm := n1.1
    refine J_lj (J_lf (by rw [show (700 : Int32) = n2 700 from rfl, n2_le (by decide) (by omega)]; omega) ?_)
    rw [r_29_0 hy, gN_t (by decide), gK_t (k_28 hy), tc.2.2.2.1, show (42 : Int32) = n2 42 from rfl, show (47 : Int32) = n2 47 from rfl, isMarked_m hy hT tm n1.2.1 (c := 42) (by decide) (by decide), cp_s]
    refine J_lj (J_rj ?_)
    by_cases qa : isS T p1 42 = true
    · have hlt := tE_gt hT tc.2.1 (by rw [(isS_iff.mp qa).1]; decide)
      have htE := (tE_sp hT tc.2.1).2
      refine J_lt ((kCl_c hT tc.2.1 (c := 42) (by decide)).mpr qa) (J_rf (by rw [b01_0]; exact fun z => z qa) ?_)
      refine J_lj (J_lt ((kCl_c hT tc.2.1 (c := 42) (by decide)).mpr qa) ?_)
      refine J_rp rfl (J_rj (J_rf (by rw [b01_0]; exact fun z => z qa) ?_))
      refine J_lc (m1.adv hy hT) (fun r2 M2 m2 => J_rc (n1.stp hy hT) (fun s2 N2 n2' => ?_))
      refine J_cc (HP (tE T p1) L1 C1 (d + 1) M2 N2 trivial i4 (by omega) (by omega) m2 n2') (fun r3 M3 s3 N3 q2 => ?_)
      rcases q2 with ⟨q3, p', L', C', ⟨q4, q4'⟩, q5, q6, m3, n3⟩ | ⟨q3, q4⟩
      · have q3 : r3 = 1 := q3
        rw [q3]
        refine J_lf (by decide) ?_
        rw [m3.ref, gN_t (ro_n0 e), gK_t (k_ro hy e)]
        refine J_lc (put_c hy m3 (by omega) (-18)) (fun r4 M4 m4 => J_rc (lay_m hy n3 (by omega) (-18)) (fun s4 N4 n4 => J_ll ?_))
        rw [n2_s]
        exact hk p' M4 N4 (by omega) q4' ⟨⟨by omega, by omega⟩, L' + 1, up C' L' (-18), by omega, q6.bin (by omega) (by decide) (by decide), m4, n4⟩
      · have q3 : r3 = 0 := q3
        rw [q3]
        refine J_lt rfl (J_rq (lay_b hy q4.1.bad) (J_rg2 (hg _ q4.1.bad) (J_s (Or.inr ⟨rfl, q4⟩))))
    · refine J_lf (fun z => qa ((kCl_c hT tc.2.1 (c := 42) (by decide)).mp z)) (J_rt (by rw [b01_0]; exact qa) ?_)
      rw [isMarked_m hy hT tm n1.2.1 (c := 47) (by decide) (by decide), cp_s]
      by_cases qb : isS T p1 47 = true
      · have hlt := tE_gt hT tc.2.1 (by rw [(isS_iff.mp qb).1]; decide)
        have htE := (tE_sp hT tc.2.1).2
        refine J_lt ((kCl_c hT tc.2.1 (c := 47) (by decide)).mpr qb) (J_rf (by rw [b01_0]; exact fun z => z qb) ?_)
        refine J_lj (J_lf (fun z => qa ((kCl_c hT tc.2.1 (c := 42) (by decide)).mp z)) ?_)
        refine J_rp rfl (J_rj (J_rt (by rw [b01_0]; exact qa) ?_))
        refine J_lc (m1.adv hy hT) (fun r2 M2 m2 => J_rc (n1.stp hy hT) (fun s2 N2 n2' => ?_))
        refine J_cc (HP (tE T p1) L1 C1 (d + 1) M2 N2 trivial i4 (by omega) (by omega) m2 n2') (fun r3 M3 s3 N3 q2 => ?_)
        rcases q2 with ⟨q3, p', L', C', ⟨q4, q4'⟩, q5, q6, m3, n3⟩ | ⟨q3, q4⟩
        · have q3 : r3 = 1 := q3
          rw [q3]
          refine J_lf (by decide) ?_
          rw [m3.ref, gN_t (ro_n0 e), gK_t (k_ro hy e)]
          refine J_lc (put_c hy m3 (by omega) (-19)) (fun r4 M4 m4 => J_rc (lay_m hy n3 (by omega) (-19)) (fun s4 N4 n4 => J_ll ?_))
          rw [n2_s]
          exact hk p' M4 N4 (by omega) q4' ⟨⟨by omega, by omega⟩, L' + 1, up C' L' (-19), by omega, q6.bin (by omega) (by decide) (by decide), m4, n4⟩
        · have q3 : r3 = 0 := q3
          rw [q3]
          refine J_lt rfl (J_rq (lay_b hy q4.1.bad) (J_rg2 (hg _ q4.1.bad) (J_s (Or.inr ⟨rfl, q4⟩))))
      · refine J_lf (fun z => qb ((kCl_c hT tc.2.1 (c := 47) (by decide)).mp z)) (J_rt (by rw [b01_0]; exact qb) (J_s (Or.inl ⟨rfl, p1, L1, C1, ⟨i2, hp1⟩, i3, i4, m1, n1⟩)))
  · have q3 : r = 0 := q3
    rw [q3]
    refine J_lt rfl (J_rfx (J_rg2 (lb _ _ q4.1.bad) (J_s (Or.inr ⟨rfl, q4⟩))))
theorem readSum_J {y : Lay} (hy : LY y) {T : Tx} (hT : TOK T) {e : Bool} {M0 N0 : Mem} {w D : Nat} (hD : D < 37) {RC RM : Lay → Nat → Int32 → Mem → Option (Int32 × Mem)} (HP : EX y e T M0 N0 w (D + 1) (fun _ => True) (f_X6_readProduct RC) (f_X12_readProduct RM)) : EX y e T M0 N0 w D (fun _ => True) (f_X6_readSum RC) (f_X12_readSum RM) := by
  intro p L C d M N _ hW hd hL hM hN
  have h7 := hT.1
  have hp := hM.1.2.1
  have hF : FUEL = 100000 := rfl
  unfold f_X6_readSum f_X12_readSum
  rw [gK_t (k_29 hy), gK_t (k_73 hy)]
  refine J_cc (HP p L C d M N trivial hW (by omega) hL hM hN) (fun r M1 s N1 q => ?_)
  have lb : ∀ (s5 : Mem → Option (Int32 × Mem)) (M4 : Mem), ¬ M4.1 73 22 = 0 → (cp (f_X12_isMarked y 73 (43 : Int32) M4) fun (r7 : Int32) => jn (fun (_u : Unit) => cp (f_X12_isMarked y 73 (43 : Int32) M4) fun (r9 : Int32) => jn (fun (v10 : Int32) => c0 (f_X12_stepOn y 73 M4) fun (r12 : Int32) (M13 : Mem) => c0 (f_X12_readProduct RM y 73 (n2 w) M13) fun (r14 : Int32) (M15 : Mem) => c0 (f_X12_lay y 73 v10 M15) fun (r16 : Int32) (M17 : Mem) => s5 M17) fun j11 => br (r9 = 0) (j11 (mc (-17))) (j11 (mc (-16)))) fun j8 => br (r7 = 0) (cp (f_X12_isMarked y 73 (45 : Int32) M4) fun (r22 : Int32) => br (r22 = 0) (some ((0 : Int32), M4)) (j8 ())) (j8 ())) = some ((0 : Int32), M4) := by
    intro s5 M4 hb
    rw [isMarked_b hy hb, cp_s, jn_s, bR_t rfl, isMarked_b hy hb, cp_s, bR_t rfl]
  rcases q with ⟨q3, p', L', C', ⟨q4, q4'⟩, q5, q6, m1, n1⟩ | ⟨q3, q4⟩
  · have q3 : r = 1 := q3
    rw [q3]
    refine J_lf (by decide) ?_
    refine J_loopb (fun N => ¬ N.1 73 22 = 0) (fun N => ((0 : Int32), N)) (fun g N hb => lb g N hb) (fun p1 n M N => (n < p1 ∧ p < p1) ∧ ∃ L1 C1, L1 + p ≤ p1 + L ∧ WFP (mm e) C1 L1 (d + 1) ∧ EC e T M0 p1 L1 C1 M ∧ EM e T N0 p1 L1 C1 N) T.2 (by omega) (n0 := 0) rfl ⟨q4', ⟨by omega, q4⟩, L', C', q5, q6, m1, n1⟩ ?_
    clear m1 n1 q5 q6 q4 q4' L' C' p' lb
    intro f g p1 n M7 N7 hp1 hI hg hk
    obtain ⟨⟨i1, i2⟩, L1, C1, i3, i4, m1, n1⟩ := hI
    have tc := m1.1
    have tm := n1.1
    refine J_lj (J_lf (by rw [show (700 : Int32) = n2 700 from rfl, n2_le (by decide) (by omega)]; omega) ?_)
    rw [r_29_0 hy, gN_t (by decide), gK_t (k_28 hy), tc.2.2.2.1, show (43 : Int32) = n2 43 from rfl, show (45 : Int32) = n2 45 from rfl, isMarked_m hy hT tm n1.2.1 (c := 43) (by decide) (by decide), cp_s]
    refine J_lj (J_rj ?_)
    by_cases qa : isS T p1 43 = true
    · have hlt := tE_gt hT tc.2.1 (by rw [(isS_iff.mp qa).1]; decide)
      have htE := (tE_sp hT tc.2.1).2
      refine J_lt ((kCl_c hT tc.2.1 (c := 43) (by decide)).mpr qa) (J_rf (by rw [b01_0]; exact fun z => z qa) ?_)
      refine J_lj (J_lt ((kCl_c hT tc.2.1 (c := 43) (by decide)).mpr qa) ?_)
      refine J_rp rfl (J_rj (J_rf (by rw [b01_0]; exact fun z => z qa) ?_))
      refine J_lc (m1.adv hy hT) (fun r2 M2 m2 => J_rc (n1.stp hy hT) (fun s2 N2 n2' => ?_))
      refine J_cc (HP (tE T p1) L1 C1 (d + 1) M2 N2 trivial i4 (by omega) (by omega) m2 n2') (fun r3 M3 s3 N3 q2 => ?_)
      rcases q2 with ⟨q3, p', L', C', ⟨q4, q4'⟩, q5, q6, m3, n3⟩ | ⟨q3, q4⟩
      · have q3 : r3 = 1 := q3
        rw [q3]
        refine J_lf (by decide) ?_
        rw [m3.ref, gN_t (ro_n0 e), gK_t (k_ro hy e)]
        refine J_lc (put_c hy m3 (by omega) (-16)) (fun r4 M4 m4 => J_rc (lay_m hy n3 (by omega) (-16)) (fun s4 N4 n4 => J_ll ?_))
        rw [n2_s]
        exact hk p' M4 N4 (by omega) q4' ⟨⟨by omega, by omega⟩, L' + 1, up C' L' (-16), by omega, q6.bin (by omega) (by decide) (by decide), m4, n4⟩
      · have q3 : r3 = 0 := q3
        rw [q3]
        refine J_lt rfl (J_rq (lay_b hy q4.1.bad) (J_rg2 (hg _ q4.1.bad) (J_s (Or.inr ⟨rfl, q4⟩))))
    · refine J_lf (fun z => qa ((kCl_c hT tc.2.1 (c := 43) (by decide)).mp z)) (J_rt (by rw [b01_0]; exact qa) ?_)
      rw [isMarked_m hy hT tm n1.2.1 (c := 45) (by decide) (by decide), cp_s]
      by_cases qb : isS T p1 45 = true
      · have hlt := tE_gt hT tc.2.1 (by rw [(isS_iff.mp qb).1]; decide)
        have htE := (tE_sp hT tc.2.1).2
        refine J_lt ((kCl_c hT tc.2.1 (c := 45) (by decide)).mpr qb) (J_rf (by rw [b01_0]; exact fun z => z qb) ?_)
        refine J_lj (J_lf (fun z => qa ((kCl_c hT tc.2.1 (c := 43) (by decide)).mp z)) ?_)
        refine J_rp rfl (J_rj (J_rt (by rw [b01_0]; exact qa) ?_))
        refine J_lc (m1.adv hy hT) (fun r2 M2 m2 => J_rc (n1.stp hy hT) (fun s2 N2 n2' => ?_))
        refine J_cc (HP (tE T p1) L1 C1 (d + 1) M2 N2 trivial i4 (by omega) (by omega) m2 n2') (fun r3 M3 s3 N3 q2 => ?_)
        rcases q2 with ⟨q3, p', L', C', ⟨q4, q4'⟩, q5, q6, m3, n3⟩ | ⟨q3, q4⟩
        · have q3 : r3 = 1 := q3
          rw [q3]
          refine J_lf (by decide) ?_
          rw [m3.ref, gN_t (ro_n0 e), gK_t (k_ro hy e)]
          refine J_lc (put_c hy m3 (by omega) (-17)) (fun r4 M4 m4 => J_rc (lay_m hy n3 (by omega) (-17)) (fun s4 N4 n4 => J_ll ?_))
          rw [n2_s]
          exact hk p' M4 N4 (by omega) q4' ⟨⟨by omega, by omega⟩, L' + 1, up C' L' (-17), by omega, q6.bin (by omega) (by decide) (by decide), m4, n4⟩
        · have q3 : r3 = 0 := q3
          rw [q3]
          refine J_lt rfl (J_rq (lay_b hy q4.1.bad) (J_rg2 (hg _ q4.1.bad) (J_s (Or.inr ⟨rfl, q4⟩))))
      · refine J_lf (fun z => qb ((kCl_c hT tc.2.1 (c := 45) (by decide)).mp z)) (J_rt (by rw [b01_0]; exact qb) (J_s (Or.inl ⟨rfl, p1, L1, C1, ⟨i2, hp1⟩, i3, i4, m1, n1⟩)))
  · have q3 : r = 0 := q3
    rw [q3]
    refine J_lt rfl (J_rfx (J_rg2 (lb _ _ q4.1.bad) (J_s (Or.inr ⟨rfl, q4⟩))))
