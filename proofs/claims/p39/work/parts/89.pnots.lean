theorem J_loop2b {α β : Type} {Q : α → β → Prop} {b1 : Int32 → Mem → Option α} {b2 : Int32 → Mem → Option β} {F : (Int32 → Mem → Option α) → Int32 → Mem → Option α} {G : (Int32 → Mem → Option β) → Int32 → Mem → Option β} (B : Mem → Prop) (res : Mem → β) (KB : Nat) (hB : ∀ g k N, k ≤ KB → B N → G g (n2 k) N = some (res N)) (I : Nat → Nat → Mem → Mem → Prop) (K : Nat) (hK : K + 1 < FUEL) {p0 n0 : Nat} {M0 N0 : Mem} {c d : Int32} (hc : c = n2 n0) (hd : d = n2 n0) (h0 : p0 ≤ K ∧ I p0 n0 M0 N0) (hs : ∀ f g p n M N, p ≤ K → I p n M N → (∀ k N, k ≤ KB → B N → g (n2 k) N = some (res N)) → (∀ p' M' N', p < p' → p' ≤ K → I p' (n + 1) M' N' → J (f (n2 (n + 1)) M') (g (n2 (n + 1)) N') Q) → J (F f (n2 n) M) (G g (n2 n) N) Q) : J (fixN b1 F FUEL c M0) (fixN b2 G FUEL d N0) Q := by
  subst hc
  subst hd
  have key : ∀ m p n M N, K - p + 1 < m → p ≤ K → I p n M N → J (fixN b1 F m (n2 n) M) (fixN b2 G m (n2 n) N) Q := by
    intro m
    induction m with
    | zero => intro p n M N h; exact absurd h (Nat.not_lt_zero _)
    | succ m ih =>
      intro p n M N h1 h2 h3
      refine hs _ _ p n M N h2 h3 (fun k N hk hN => ?_) (fun p' M' N' h4 h5 h6 => ih p' (n + 1) M' N' (by omega) h5 h6)
      match m, h1 with
      | m + 1, _ => exact hB _ k N hk hN
  exact key FUEL p0 n0 M0 N0 (by omega) h0.1 h0.2
theorem WFP.not {m : Nat} {C : Row} {L d : Nat} (h : WFP m C L (d + 1)) (hd : d + 1 < 40) : WFP m (up C L (-13)) (L + 1) (d + 1) := h.push hd (Or.inr (Or.inr (Or.inl rfl))) (fun _ => ⟨by omega, rfl⟩) (fun z => absurd rfl z) (fun z => absurd rfl z) isB_13
/-- what was refused, laid -/
theorem notL_J {y : Lay} (hy : LY y) {T : Tx} (hT : TOK T) {e : Bool} {M0 N0 : Mem} {n p L d : Nat} {C : Row} {M N : Mem} (hn : n ≤ 6) (hW : WFP (mm e) C L (d + 1)) (hd : d < 39) (hL : L + n ≤ p) (hM : EC e T M0 p L C M) (hN : EM e T N0 p L C N) : J (fixN (fun _ _ => none) (fun (s14 : Int32 → Mem → Option (Int32 × Mem)) (v12 : Int32) (M13 : Mem) => br (n2 n ≤ v12) (some ((1 : Int32), M13)) (gN (M13.2.2 29 1) (gK y (M13.2.2 29 1) (0, 5) (c0 (f_X5_put y (M13.2.2 29 1) ((-13) : Int32) M13) fun (r20 : Int32) (M21 : Mem) => lt (v12 + (1 : Int32)) fun (v22 : Int32) => s14 v22 M21)))) FUEL (0 : Int32) M) (fixN (fun _ _ => none) (fun (s16 : Int32 → Mem → Option (Int32 × Mem)) (v14 : Int32) (M15 : Mem) => br (n2 n ≤ v14) (some ((0 : Int32), M15)) (c0 (f_X12_lay y 73 ((-28) : Int32) M15) fun (r20 : Int32) (M21 : Mem) => lt (v14 + (1 : Int32)) fun (v22 : Int32) => s16 v22 M21)) FUEL (0 : Int32) N) (fun a b => a.1 = 1 ∧ ∃ C', WFP (mm e) C' (L + n) (d + 1) ∧ EC e T M0 p (L + n) C' a.2 ∧ EM e T N0 p (L + n) C' b.2) := by
  have h7 := hT.1
  have hp := hM.1.2.1
  refine J_loop2 (fun i k M N => i = k ∧ ∃ C', WFP (mm e) C' (L + i) (d + 1) ∧ EC e T M0 p (L + i) C' M ∧ EM e T N0 p (L + i) C' N) n (by show n < 100000; omega) (n0 := 0) (p0 := 0) rfl rfl ⟨Nat.zero_le _, rfl, C, hW, hM, hN⟩ ?_
  intro f g i k M1 N1 hi hI hk
  obtain ⟨rfl, C', i1, m1, n1⟩ := hI
  by_cases q : i = n
  · subst q
    exact J_lt (by rw [n2_le (by omega) (by omega)]; exact Nat.le_refl _) (J_rt (by rw [n2_le (by omega) (by omega)]; exact Nat.le_refl _) (J_s ⟨rfl, C', i1, m1, n1⟩))
  · refine J_lf (by rw [n2_le (by omega) (by omega)]; omega) (J_rf (by rw [n2_le (by omega) (by omega)]; omega) ?_)
    rw [m1.ref, gN_t (ro_n0 e), gK_t (k_ro hy e)]
    refine J_lc (put_c hy m1 (by omega) (-13)) (fun r4 M4 m4 => J_rc (lay_m hy n1 (by omega) (-13)) (fun s4 N4 n4 => J_ll (J_rl ?_)))
    rw [n2_s]
    exact hk (i + 1) M4 N4 (by omega) (by omega) ⟨rfl, _, i1.not (by omega), m4, n4⟩
theorem notL_b {y : Lay} (hy : LY y) {k : Nat} (hk : k ≤ 7) {N : Mem} (hb : ¬ N.1 73 22 = 0) : fixN (fun _ _ => none) (fun (s16 : Int32 → Mem → Option (Int32 × Mem)) (v14 : Int32) (M15 : Mem) => br (n2 k ≤ v14) (some ((0 : Int32), M15)) (c0 (f_X12_lay y 73 ((-28) : Int32) M15) fun (r20 : Int32) (M21 : Mem) => lt (v14 + (1 : Int32)) fun (v22 : Int32) => s16 v22 M21)) FUEL (0 : Int32) N = some (0, N) := by
  refine wp_eq ?_
  refine wp_for k (fun _ s => s = N) (by show k < 100000; omega) rfl (Nat.zero_le _) rfl ?_ ?_
  · intro f i s hi hI h
    subst hI
    refine wp_brf (by rw [n2_le (by omega) (by omega)]; omega) ?_
    rw [lay_b hy hb, c0_s]
    refine wp_lt ?_
    rw [n2_s]
    exact h s rfl
  · intro f s hI
    subst hI
    exact wp_brt (by rw [n2_le (by omega) (by omega)]; exact Nat.le_refl _) (wp_some rfl)
theorem readNot_J {y : Lay} (hy : LY y) {T : Tx} (hT : TOK T) {e : Bool} {M0 N0 : Mem} {w D : Nat} (hD : D < 37) {RC RM : Lay → Nat → Int32 → Mem → Option (Int32 × Mem)} (HS : EX y e T M0 N0 w (D + 1) (fun _ => True) (f_X6_readSum RC) (f_X12_readSum RM)) : EX y e T M0 N0 w D (fun _ => True) (f_X6_readNot RC) (f_X12_readNot RM) := by
  intro p L C d M N _ hW hd hL hM hN
  have h7 := hT.1
  unfold f_X6_readNot f_X12_readNot
  refine J_loop2b (fun N => ¬ N.1 73 22 = 0) (fun N => ((0 : Int32), N)) 7 ?_ (fun p1 n M N => (n ≤ 6 ∧ p + n ≤ p1) ∧ EC e T M0 p1 L C M ∧ EM e T N0 p1 L C N) T.2 (by show T.2 + 1 < 100000; omega) (n0 := 0) rfl rfl ⟨hM.1.2.1, ⟨by omega, by omega⟩, hM, hN⟩ ?_
  · intro g k N1 hk hb
    rw [gK_t (k_73 hy), is_b hy hb, cp_s, bR_t rfl, readSum_b hy _ _ hb, c0_s, isMarked_b hy hb, cp_s, jn_s, jn_s, bR_t rfl, isMarked_b hy hb, cp_s, bR_t rfl]
    exact notL_b hy hk hb
  · intro f g p1 n M1 N1 hp1 hI hg hk
    obtain ⟨⟨i1, i2⟩, m1, n1⟩ := hI
    have tc := m1.1
    have tm := n1.1
    have wc : f_X10_isWord y 28 1009 M1 = some (b01 (isW T p1 (strB 9))) := isWord_c hy hT tc (a := 1009) (by decide)
    have wm : f_X12_is y 73 1033 N1 = some (b01 (isW T p1 (strB 9))) := is_m hy hT tm n1.2.1 (a := 1033) (by decide)
    refine J_lj (J_lj ?_)
    rw [gK_t (k_73 hy)]
    refine J_rp wm ?_
    by_cases qw : isW T p1 (strB 9) = true
    · have k1 := (isW_iff.mp qw).1
      have hlt := tE_gt hT tc.2.1 (by rw [k1]; decide)
      have htE := (tE_sp hT tc.2.1).2
      refine J_rf (by rw [b01_0]; exact fun z => z qw) (J_rj ?_)
      by_cases q6 : n = 6
      · subst q6
        refine J_lt (by decide) (J_lt rfl (J_rt rfl ?_))
        rw [gK_t (k_29 hy), r_29_0 hy, gN_t (by decide), gK_t (k_28 hy)]
        refine J_lp wc (J_lf (by rw [b01_0]; exact fun z => z qw) ?_)
        refine J_lq (refuse_t hy m1.2.1) (J_rq (wrong_m hy n1.2.1) (J_rl (J_rf (rfM_nz (f := 2) (by decide)) ?_)))
        refine J_lg (Or.inl rfl) (J_rg2 (hg 7 _ (by decide) (rfM_nz (f := 2) (by decide))) (J_s (Or.inr ⟨rfl, EF.mk m1 n1 (by decide)⟩)))
      · refine J_lf (by rw [show (6 : Int32) = n2 6 from rfl, n2_le (by decide) (by omega)]; omega) (J_rf (by rw [show (6 : Int32) = n2 6 from rfl, n2_inj (by omega) (by decide)]; exact q6) ?_)
        rw [gK_t (k_29 hy), r_29_0 hy, gN_t (by decide), gK_t (k_28 hy)]
        refine J_lp wc (J_lf (by rw [b01_0]; exact fun z => z qw) ?_)
        refine J_rl (J_rt n1.2.1 ?_)
        refine J_lc (m1.adv hy hT) (fun r2 M2 m2 => J_rc (n1.stp hy hT) (fun s2 N2 n2' => J_ll ?_))
        rw [n2_s]
        exact hk (tE T p1) M2 N2 hlt htE ⟨⟨by omega, by omega⟩, m2, n2'⟩
    · have main : J (gK y 29 (0, 6) (c0 (f_X6_readTest RC y 29 (n2 w) M1) fun (r8 : Int32) (M9 : Mem) => br (r8 = 0) (some ((0 : Int32), M9)) (fixN (fun _ _ => none) (fun (s14 : Int32 → Mem → Option (Int32 × Mem)) (v12 : Int32) (M13 : Mem) => br (n2 n ≤ v12) (some ((1 : Int32), M13)) (gN (M13.2.2 29 1) (gK y (M13.2.2 29 1) (0, 5) (c0 (f_X5_put y (M13.2.2 29 1) ((-13) : Int32) M13) fun (r20 : Int32) (M21 : Mem) => lt (v12 + (1 : Int32)) fun (v22 : Int32) => s14 v22 M21)))) FUEL (0 : Int32) M9))) (c0 (f_X12_readSum RM y 73 (n2 w) N1) fun (r9 : Int32) (M10 : Mem) => cp (f_X12_isMarked y 73 (60 : Int32) M10) fun (r11 : Int32) => jn (fun (M12 : Mem) => fixN (fun _ _ => none) (fun (s16 : Int32 → Mem → Option (Int32 × Mem)) (v14 : Int32) (M15 : Mem) => br (n2 n ≤ v14) (some ((0 : Int32), M15)) (c0 (f_X12_lay y 73 ((-28) : Int32) M15) fun (r20 : Int32) (M21 : Mem) => lt (v14 + (1 : Int32)) fun (v22 : Int32) => s16 v22 M21)) FUEL (0 : Int32) M12) fun j13 => jn (fun (_u : Unit) => cp (f_X12_isMarked y 73 (60 : Int32) M10) fun (r24 : Int32) => jn (fun (v25 : Int32) => c0 (f_X12_stepOn y 73 M10) fun (r27 : Int32) (M28 : Mem) => c0 (f_X12_readSum RM y 73 (n2 w) M28) fun (r29 : Int32) (M30 : Mem) => c0 (f_X12_lay y 73 v25 M30) fun (r31 : Int32) (M32 : Mem) => j13 M32) fun j26 => br (r24 = 0) (j26 ((-25) : Int32)) (j26 ((-24) : Int32))) fun j23 => br (r11 = 0) (cp (f_X12_isMarked y 73 (61 : Int32) M10) fun (r37 : Int32) => br (r37 = 0) (j13 M10) (j23 ())) (j23 ())) (EO e T M0 N0 p L d) := by
        rw [gK_t (k_29 hy)]
        refine test_J hy hT hD HS hW hd (by omega) m1 n1 _ _ (fun p' L' C' M' N' u1 u2 u3 u4 u5 u6 => ?_) (fun M' N' u => ?_)
        · refine J_lf (by decide) ?_
          refine J_mono (notL_J hy hT i1 u4 (by omega) (by omega) u5 u6) (fun a b h => Or.inl ?_)
          obtain ⟨g1, C2, g2, g3, g4⟩ := h
          exact ⟨g1, p', L' + n, C2, ⟨by omega, u2⟩, by omega, g2, g3, g4⟩
        · exact J_lt rfl (J_rg2 (notL_b hy (by omega) u.1.bad) (J_s (Or.inr ⟨rfl, u⟩)))
      refine J_rt (by rw [b01_0]; exact qw) ?_
      by_cases q6 : n = 6
      · subst q6
        refine J_lt (by decide) (J_lt rfl ?_)
        refine J_lK (k_29 hy) ?_
        rw [r_29_0 hy]
        refine J_lN (by decide) (J_lK (k_28 hy) (J_lp wc (J_lt (by rw [b01_0]; exact qw) main)))
      · refine J_lf (by rw [show (6 : Int32) = n2 6 from rfl, n2_le (by decide) (by omega)]; omega) ?_
        refine J_lK (k_29 hy) ?_
        rw [r_29_0 hy]
        refine J_lN (by decide) (J_lK (k_28 hy) (J_lp wc (J_lt (by rw [b01_0]; exact qw) ?_)))
        exact J_lf (by rw [show (6 : Int32) = n2 6 from rfl, n2_inj (by omega) (by decide)]; exact q6) main
theorem readNot_b {y : Lay} (hy : LY y) {RM : Lay → Nat → Int32 → Mem → Option (Int32 × Mem)} : EBad y (f_X12_readNot RM) := by
  intro a N hb
  unfold f_X12_readNot
  rw [fxF, gK_t (k_73 hy), is_b hy hb, cp_s, bR_t rfl, readSum_b hy _ _ hb, c0_s, isMarked_b hy hb, cp_s, jn_s, jn_s, bR_t rfl, isMarked_b hy hb, cp_s, bR_t rfl]
  exact notL_b hy (k := 0) (by decide) hb
