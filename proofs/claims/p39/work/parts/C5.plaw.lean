/-! ===== THE LAW, at every script ===== -/
theorem wp_jnS {β κ : Type} {Q : β → Prop} {K : κ} {b : κ → Option β} (S : κ → Prop) (hK : S K) (hb : ∀ j, S j → wp (b j) Q) : wp (jn K b) Q := hb K hK
theorem jn_a {α β : Type} {K : α → Option β} {a : α} : jn K (fun j => j a) = K a := rfl
theorem ci_s {β : Type} {y : Lay} {M : Mem} {k : Lay → Mem → Option β} : ci (some (y, M)) k = k y M := rfl
theorem law_loop {Q : Int32 → Prop} {bot : Int32 → Mem → Option Int32} {F : (Int32 → Mem → Option Int32) → Int32 → Mem → Option Int32} (L : Nat) (hs : ∀ f i N, i + 6 ≤ L → HX N → (∀ N', HX N' → wp (f (n2 (i + 6)) N') Q) → wp (F f (n2 i) N) Q) (he : ∀ f i N, i ≤ L → L < i + 6 → wp (F f (n2 i) N) Q) : ∀ (n i : Nat) (N : Mem), i ≤ L → L < i + 6 * n → HX N → wp (fixN bot F n (n2 i) N) Q := by
  intro n
  induction n with
  | zero => intro i N h1 h2 _; omega
  | succ n ih =>
    intro i N h1 h2 h
    show wp (F (fixN bot F n) (n2 i) N) Q
    by_cases q : i + 6 ≤ L
    · exact hs _ i N q h (fun N' h' => ih (i + 6) N' q (by omega) h')
    · exact he _ i N h1 (by omega)
theorem tk_ok {L i k : Nat} (h : i + k < L) (hL : L ≤ 3072) : ¬ (n2 i + n2 k < 0 ∨ L ≤ (n2 i + n2 k).toNatClampNeg) := by
  rw [n2_add, n2_nat (by omega)]
  intro q
  rcases q with q | q
  · exact n2_n0 (by omega) q
  · omega
theorem t0_ok {L i : Nat} (h : i < L) (hL : L ≤ 3072) : ¬ (n2 i < 0 ∨ L ≤ (n2 i).toNatClampNeg) := by
  rw [n2_nat (by omega)]
  intro q
  rcases q with q | q
  · exact n2_n0 (by omega) q
  · omega
theorem l6_iff {L i : Nat} (hi : i ≤ L) (hL : L ≤ 3072) : (Int32.ofNat L - (6 : Int32) < n2 i) ↔ L < i + 6 := by
  have z : (6 : Int32).toInt = 6 := by decide
  have e : (Int32.ofNat L).toInt = L := n2_int (by omega)
  rw [i_lt, i_sub (by rw [e, z]; omega) (by rw [e, z]; omega), e, z, n2_int (by omega)]
  omega
set_option maxHeartbeats 16000000 in
set_option maxRecDepth 20000 in
theorem law_ok (L : Nat) (xs : Nat → Int32) (hL : L ≤ 3072) : f_L_law y_0 M_0 L xs = some 1 := by
  unfold f_L_law
  have q1 : f_X11_init (psh y_0 (0, 11)) (y_0.2.2 + 1) (zM M_0 (y_0.2.2 + 1)) = some o1 := i1_eq
  rw [gd_t (by decide), lT_s, lT_s, q1, ci_s, yS_n.1.1, gd_t (by decide), lT_s, lT_s]
  have q2 : f_X12_init (psh o1.1 (0, 12)) (72 + 1) (zM o1.2 (72 + 1)) = some o2 := i2_eq
  rw [q2, ci_s, yS_n.1.2, gd_t (by decide), lT_s, lT_s]
  have ey : psh o2.1 (3, 1) = yS := rfl
  have eM : zM o2.2 (109 + 1) = MZ := rfl
  have en : y_0.2.2 + 1 = 1 := rfl
  have e73 : 72 + 1 = 73 := rfl
  have e110 : 109 + 1 = 110 := rfl
  rw [ey, eM, en, e73, e110]
  have hy := yS_ly
  have hM := hx_Z bz_S
  generalize yS = y at hy ⊢
  generalize MZ = M0 at hM ⊢
  refine wp_eq ?_
  refine law_loop (Q := fun o => o = 1) L (fun f i M hi hN hf => ?_) (fun f i N h1 h2 => ?_) 513 0 M0 (Nat.zero_le _) (by omega) hM
  rotate_left
  · exact wp_brt ((l6_iff h1 hL).mpr h2) (wp_some rfl)
  obtain ⟨A, h⟩ := hN
  have t0 := t0_ok (L := L) (i := i) (by omega) hL
  have t1 : ¬ ((n2 i) + (1 : Int32) < 0 ∨ L ≤ ((n2 i) + (1 : Int32)).toNatClampNeg) := tk_ok (k := 1) (by omega) hL
  have t2 : ¬ ((n2 i) + (2 : Int32) < 0 ∨ L ≤ ((n2 i) + (2 : Int32)).toNatClampNeg) := tk_ok (k := 2) (by omega) hL
  have t3 : ¬ ((n2 i) + (3 : Int32) < 0 ∨ L ≤ ((n2 i) + (3 : Int32)).toNatClampNeg) := tk_ok (k := 3) (by omega) hL
  have t4 : ¬ ((n2 i) + (4 : Int32) < 0 ∨ L ≤ ((n2 i) + (4 : Int32)).toNatClampNeg) := tk_ok (k := 4) (by omega) hL
  have t5 : ¬ ((n2 i) + (5 : Int32) < 0 ∨ L ≤ ((n2 i) + (5 : Int32)).toNatClampNeg) := tk_ok (k := 5) (by omega) hL
  have e6 : (n2 i) + (6 : Int32) = n2 (i + 6) := n2_add i 6
  refine wp_brf (fun q => by have := (l6_iff (by omega) hL).mp q; omega) ?_
  rw [gd_t t0]
  refine wp_jnS (fun j => ∀ N, HX N → wp (j N) (fun o => o = 1)) (fun N hN' => ?_) (fun J hJ => ?_)
  · rw [lT_s, e6]
    exact hf N hN'
  refine wp_br (fun _ => hJ _ ⟨A, h⟩) (fun _ => ?_)
  refine wp_br (fun _ => ?_) (fun _ => ?_)
  · simp only [gd_t t1, gd_t t2, gd_t t3, gd_t t4, gd_t t5]
    exact u_feed hy h _ _ _ _ _ hJ
  refine wp_br (fun _ => ?_) (fun _ => ?_)
  · simp only [gd_t t1]
    exact u_coast hy h _ hJ
  refine wp_br (fun _ => ?_) (fun _ => ?_)
  · exact chFU hy h hJ
  refine wp_br (fun _ => ?_) (fun _ => ?_)
  · simp only [gd_t t1]
    exact u_count hy h _ hJ
  refine wp_br (fun _ => ?_) (fun _ => ?_)
  · simp only [gd_t t1, gd_t t2]
    exact u_cell hy h _ _ hJ
  refine wp_br (fun _ => ?_) (fun _ => ?_)
  · simp only [gd_t t1, gd_t t2]
    exact u_girl hy h _ _ hJ
  refine wp_br (fun _ => ?_) (fun _ => ?_)
  · simp only [gd_t t1]
    exact u_days hy h _ hJ
  refine wp_br (fun _ => ?_) (fun _ => ?_)
  · simp only [gd_t t1, gd_t t2]
    by_cases hz : xs ((n2 i) + (2 : Int32)).toNatClampNeg = 0
    · refine wp_jnS (fun j => wp (j 0) (fun o => o = 1)) ?_ (fun j hj => wp_brt hz hj)
      simp only [bR_t hz, jn_a]
      exact u_rest hy h _ 0 (Or.inl rfl) hJ
    · refine wp_jnS (fun j => wp (j 1) (fun o => o = 1)) ?_ (fun j hj => wp_brf hz hj)
      simp only [bR_f hz, jn_a]
      exact u_rest hy h _ 1 (Or.inr rfl) hJ
  refine wp_br (fun _ => ?_) (fun _ => ?_)
  · simp only [gd_t t1, gd_t t2]
    exact u_go hy h _ _ hJ
  refine wp_br (fun _ => ?_) (fun _ => ?_)
  · simp only [gd_t t1]
    exact u_bag hy h _ hJ
  refine wp_br (fun _ => ?_) (fun _ => ?_)
  · simp only [gd_t t1, gd_t t2]
    by_cases hz : xs ((n2 i) + (2 : Int32)).toNatClampNeg = 0
    · refine wp_jnS (fun j => wp (j 0) (fun o => o = 1)) ?_ (fun j hj => wp_brt hz hj)
      simp only [bR_t hz, jn_a]
      exact u_peg hy h _ 0 (Or.inl rfl) hJ
    · refine wp_jnS (fun j => wp (j 1) (fun o => o = 1)) ?_ (fun j hj => wp_brf hz hj)
      simp only [bR_f hz, jn_a]
      exact u_peg hy h _ 1 (Or.inr rfl) hJ
  refine wp_br (fun _ => ?_) (fun _ => ?_)
  · exact u_undo hy h hJ
  refine wp_br (fun _ => ?_) (fun _ => ?_)
  · simp only [gd_t t1, gd_t t2]
    exact u_then hy h _ _ hJ
  refine wp_br (fun _ => ?_) (fun _ => ?_)
  · simp only [gd_t t1, gd_t t2]
    exact u_sky hy h _ _ hJ
  refine wp_br (fun _ => ?_) (fun _ => ?_)
  · simp only [gd_t t1]
    exact u_overdone hy h _ hJ
  refine wp_br (fun _ => ?_) (fun _ => ?_)
  · simp only [gd_t t1]
    exact u_first hy h _ hJ
  refine wp_br (fun _ => ?_) (fun _ => ?_)
  · exact u_spent hy h hJ
  refine wp_br (fun _ => ?_) (fun _ => ?_)
  · simp only [gd_t t1]
    exact u_streak hy h _ hJ
  refine wp_br (fun _ => ?_) (fun _ => ?_)
  · simp only [gd_t t1, gd_t t2]
    exact u_patch hy h _ _ hJ
  refine wp_br (fun _ => ?_) (fun _ => ?_)
  · simp only [gd_t t1]
    exact u_patches hy h _ hJ
  refine wp_br (fun _ => ?_) (fun _ => ?_)
  · simp only [gd_t t1, gd_t t2]
    exact u_way hy h _ _ hJ
  refine wp_br (fun _ => ?_) (fun _ => ?_)
  · exact u_toRest hy h hJ
  refine wp_br (fun _ => ?_) (fun _ => ?_)
  · simp only [gd_t t1, gd_t t2]
    exact u_toStand hy h _ _ hJ
  refine wp_br (fun _ => ?_) (fun _ => ?_)
  · simp only [gd_t t1, gd_t t2]
    exact u_toSwish hy h _ _ hJ
  refine wp_br (fun _ => ?_) (fun _ => ?_)
  · simp only [gd_t t1, gd_t t2]
    exact u_sent hy h _ _ hJ
  refine wp_br (fun _ => ?_) (fun _ => ?_)
  · simp only [gd_t t1]
    exact u_band hy h _ hJ
  refine wp_br (fun _ => ?_) (fun _ => ?_)
  · exact u_steady hy h hJ
  refine wp_br (fun _ => ?_) (fun _ => ?_)
  · simp only [gd_t t1, gd_t t2]
    exact u_steps hy h _ _ hJ
  refine wp_br (fun _ => ?_) (fun _ => ?_)
  · simp only [gd_t t1]
    exact u_nearest hy h _ hJ
  refine wp_br (fun _ => ?_) (fun _ => ?_)
  · simp only [gd_t t1]
    exact u_missed hy h _ hJ
  refine wp_br (fun _ => ?_) (fun _ => ?_)
  · simp only [gd_t t1, gd_t t2, gd_t t3]
    exact u_see hy h _ _ _ hJ
  refine wp_br (fun _ => ?_) (fun _ => ?_)
  · simp only [gd_t t1]
    exact u_skilled hy h _ hJ
  refine wp_br (fun _ => ?_) (fun _ => ?_)
  · simp only [gd_t t1]
    exact u_look hy h _ hJ
  refine wp_br (fun _ => ?_) (fun _ => ?_)
  · exact u_forget hy h hJ
  refine wp_br (fun _ => ?_) (fun _ => ?_)
  · simp only [gd_t t1, gd_t t2, gd_t t3]
    exact u_game hy h _ _ _ hJ
  refine wp_br (fun _ => ?_) (fun _ => ?_)
  · simp only [gd_t t1, gd_t t2, gd_t t3]
    exact u_skies hy h _ _ _ hJ
  refine wp_br (fun _ => ?_) (fun _ => ?_)
  · exact u_image hy h hJ
  exact c_restore hy h hJ
