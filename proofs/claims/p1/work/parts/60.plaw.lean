/-! ===== THE LAW at six ints: one call on a new object ===== -/
theorem chainF {y : Lay} (hy : LY y) {N : Mem} {Q : Int32 → Prop} {J : Mem → Option Int32} (h1 : f_X11_fault y 1 N = some (-1)) (h2 : N.1 73 24 = -1) (hJ : ∀ N, wp (J N) Q) : wp (gK y 1 (0, 11) (cp (f_X11_fault y 1 N) fun (r : Int32) => gK y 73 (0, 12) (c0 (f_X12_fault y 73 N) fun (b : Int32) (M2 : Mem) => br (r = b) (J M2) (some (0 : Int32))))) Q := by
  rw [gK_t (k_1 hy), h1, cp_s, gK_t (k_73 hy)]
  unfold f_X12_fault
  rw [gK_t (k_73 hy), lT_s, c0_s, wI_sr, sr_ap, up_ne (by decide), h2]
  exact wp_brt rfl (hJ _)
def fiC (x : Option (Int32 × Mem)) (m : Mem → Option (Int32 × Mem)) : Bool := match x with
  | some (_, N) => (m N).isSome
  | none => false
theorem chainV {y : Lay} (hy : LY y) {x : Option (Int32 × Mem)} {m : Mem → Option (Int32 × Mem)} {Q : Int32 → Prop} {J : Mem → Option Int32} (h : fiC x m = true) (hJ : ∀ N, wp (J N) Q) : wp (gK y 1 (0, 11) (c0 x (fun (r : Int32) (M1 : Mem) => gK y 73 (0, 12) (c0 (m M1) fun (b : Int32) (M2 : Mem) => J M2)))) Q := by
  rw [gK_t (k_1 hy)]
  cases x with
  | none => cases h
  | some o =>
    obtain ⟨r, M1⟩ := o
    have h : (m M1).isSome = true := h
    show wp (gK y 73 (0, 12) (c0 (m M1) _)) Q
    rw [gK_t (k_73 hy)]
    cases hm : m M1 with
    | none => rw [hm] at h; cases h
    | some q => exact hJ q.2
theorem chainR {y : Lay} (hy : LY y) {N : Mem} {x : Option (Int32 × Mem)} {m : Mem → Option (Int32 × Mem)} {Q : Int32 → Prop} {J : Mem → Option Int32} {K : Int32 → Int32 → Mem → (Unit → Option Int32) → Option Int32} (hx : x = some (1, N)) (hm : wp (m N) (fun o => o.2.1 73 4 = 1)) (hJ : ∀ N, wp (J N) Q) :
    wp (c0 x (fun (r : Int32) (M1 : Mem) => gK y 73 (0, 12) (c0 (m M1) fun (b : Int32) (M2 : Mem) => cp (f_X12_thrown y 73 M2) fun (t : Int32) => br (t = r) (jn (fun (_u : Unit) => J M2) fun j => br (r = 0) (K r b M2 j) (j ())) (some (0 : Int32))))) Q := by
  subst hx
  show wp (gK y 73 (0, 12) (c0 (m N) _)) Q
  rw [gK_t (k_73 hy)]
  refine wp_c0 _ hm (fun b M2 h => ?_)
  have h : M2.1 73 4 = 1 := h
  rw [thrown_s hy, h, cp_s]
  exact wp_brt rfl (wp_brf (by decide) (hJ _))
theorem sc6 (i : Nat) (hi : i < 6) : ¬ (n2 i < 0 ∨ 6 ≤ (n2 i).toNatClampNeg) := by
  rw [n2_nat (by omega)]
  intro q
  rcases q with q | q
  · exact n2_n0 (by omega) q
  · omega
theorem b64 (z : Int32) : z &&& 63 = n2 (z.toBitVec.toNat % 64) := by
  apply Int32.toBitVec_inj.1
  apply BitVec.eq_of_toNat_eq
  show (z.toBitVec &&& 63#32).toNat = (BitVec.ofNat 32 (z.toBitVec.toNat % 64)).toNat
  rw [BitVec.toNat_and, BitVec.toNat_ofNat, BitVec.toNat_ofNat]
  have e : 63 % 2 ^ 32 = 2 ^ 6 - 1 := by decide
  rw [e, Nat.and_two_pow_sub_one_eq_mod]
  omega
theorem ci_s {β : Type} {y : Lay} {M : Mem} {k : Lay → Mem → Option β} : ci (some (y, M)) k = k y M := rfl

theorem wp_jnS {β κ : Type} {Q : β → Prop} {K : κ} {b : κ → Option β} (S : κ → Prop) (hK : S K) (hb : ∀ j, S j → wp (b j) Q) : wp (jn K b) Q := hb K hK
theorem law_it {β : Type} {Q : β → Prop} {bot : Int32 → Mem → Option β} {F : (Int32 → Mem → Option β) → Int32 → Mem → Option β} {M : Mem} (h1 : ∀ f, (∀ N, wp (f (0 + 6) N) Q) → wp (F f 0 M) Q) (h2 : ∀ f N, wp (F f (0 + 6) N) Q) : wp (fixN bot F 2 0 M) Q :=
  h1 (fixN bot F 1) (fun N => h2 (fixN bot F 0) N)
theorem law_it0 {β : Type} {Q : β → Prop} {bot : Int32 → Mem → Option β} {F : (Int32 → Mem → Option β) → Int32 → Mem → Option β} {M : Mem} (h1 : ∀ f M, wp (F f 0 M) Q) : wp (fixN bot F 2 0 M) Q := h1 (fixN bot F 1) M
theorem ev_undo' : chk1 (f_X11_undo yS 1 MS) (f_X12_undo yS 73) = true := ev_undo
theorem fi_1 : fiC (f_X11_forget yS 1 MS) (f_X12_forget yS 73) = true := by decide +kernel
theorem fi_2 : fiC (f_X11_image yS 1 MS) (f_X12_image yS 73) = true := by decide +kernel
theorem rest_fin {y : Lay} (hy : LY y) {m : Option (Int32 × Mem)} {Q : Int32 → Prop} {J : Mem → Option Int32} {K : Int32 → Mem → (Unit → Option Int32) → Option Int32} (hm : wp m (fun o => o.2.1 73 4 = 1)) (hJ : ∀ N, wp (J N) Q) :
    wp (gK y 73 (0, 12) (c0 m fun (b : Int32) (M2 : Mem) => cp (f_X12_thrown y 73 M2) fun (t : Int32) => br (t = (1 : Int32)) (jn (fun (_u : Unit) => J M2) fun j => br ((1 : Int32) = 0) (K b M2 j) (j ())) (some (0 : Int32)))) Q := by
  rw [gK_t (k_73 hy)]
  refine wp_c0 _ hm (fun b M2 h => ?_)
  have h : M2.1 73 4 = 1 := h
  rw [thrown_s hy, h, cp_s]
  exact wp_brt rfl (wp_brf (by decide) (hJ _))
theorem jn_a {α β : Type} {K : α → Option β} {a : α} : jn K (fun j => j a) = K a := rfl
set_option maxHeartbeats 16000000 in
set_option maxRecDepth 20000 in
theorem law_6 (xs : Nat → Int32) : f_L_law y_0 M_0 6 xs = some 1 := by
  unfold f_L_law
  have t1 : ¬ ((0 : Int32) + 1 < 0 ∨ 6 ≤ ((0 : Int32) + 1).toNatClampNeg) := by decide
  have t2 : ¬ ((0 : Int32) + 2 < 0 ∨ 6 ≤ ((0 : Int32) + 2).toNatClampNeg) := by decide
  have t3 : ¬ ((0 : Int32) + 3 < 0 ∨ 6 ≤ ((0 : Int32) + 3).toNatClampNeg) := by decide
  have t4 : ¬ ((0 : Int32) + 4 < 0 ∨ 6 ≤ ((0 : Int32) + 4).toNatClampNeg) := by decide
  have t5 : ¬ ((0 : Int32) + 5 < 0 ∨ 6 ≤ ((0 : Int32) + 5).toNatClampNeg) := by decide
  have q1 : f_X11_init (psh y_0 (0, 11)) (y_0.2.2 + 1) (zM M_0 (y_0.2.2 + 1)) = some o1 := i1_eq
  rw [gd_t (by decide), lT_s, lT_s, q1, ci_s, yS_n.1.1, gd_t (by decide), lT_s, lT_s]
  have q2 : f_X12_init (psh o1.1 (0, 12)) (72 + 1) (zM o1.2 (72 + 1)) = some o2 := i2_eq
  rw [q2, ci_s, yS_n.1.2, gd_t (by decide), lT_s, lT_s]
  have ey : psh o2.1 (3, 1) = yS := rfl
  have eM : zM o2.2 (109 + 1) = MS := rfl
  have en : y_0.2.2 + 1 = 1 := rfl
  have e73 : 72 + 1 = 73 := rfl
  have e110 : 109 + 1 = 110 := rfl
  rw [ey, eM, en, e73, e110]
  refine wp_eq ?_
  refine law_it (fun f hf => ?_) (fun f N => wp_brt (by decide) (wp_some rfl))
  refine wp_brf (by decide) ?_
  rw [gd_t (by decide)]
  refine wp_jnS (fun j => ∀ N, wp (j N) (fun o => o = 1)) (fun N => hf N) (fun J hJ => ?_)
  refine wp_br (fun _ => hJ _) (fun _ => ?_)
  refine wp_br (fun _ => ?_) (fun _ => ?_)
  · simp only [gd_t t1, gd_t t2, gd_t t3, gd_t t4, gd_t t5]
    exact chain1 yS_ly (op_feed _ _ _ _ _) hJ
  refine wp_br (fun _ => ?_) (fun _ => ?_)
  · simp only [gd_t t1, gd_t t2, gd_t t3, gd_t t4, gd_t t5]
    exact chainL yS_ly (op_coast _) hJ
  refine wp_br (fun _ => ?_) (fun _ => ?_)
  · exact chainF yS_ly ev_fault.1 ev_fault.2 hJ
  refine wp_br (fun _ => ?_) (fun _ => ?_)
  · simp only [gd_t t1, gd_t t2, gd_t t3, gd_t t4, gd_t t5]
    exact chainL yS_ly (op_count _) hJ
  refine wp_br (fun _ => ?_) (fun _ => ?_)
  · simp only [gd_t t1, gd_t t2, gd_t t3, gd_t t4, gd_t t5]
    exact chainL yS_ly (op_cell _ _) hJ
  refine wp_br (fun _ => ?_) (fun _ => ?_)
  · simp only [gd_t t1, gd_t t2, gd_t t3, gd_t t4, gd_t t5]
    exact chainL yS_ly (op_girl _ _) hJ
  refine wp_br (fun _ => ?_) (fun _ => ?_)
  · simp only [gd_t t1, gd_t t2, gd_t t3, gd_t t4, gd_t t5]
    exact chain1 yS_ly (op_days _) hJ
  refine wp_br (fun _ => ?_) (fun _ => ?_)
  · simp only [gd_t t1, gd_t t2, gd_t t3, gd_t t4, gd_t t5]
    refine wp_jnS (fun j => ∀ v, wp (j v) (fun o => o = 1)) (fun v => ?_) (fun j hj => wp_br (fun _ => hj _) (fun _ => hj _))
    rw [rest_c yS_ly coa_S.2.1, c0_s]
    refine wp_jnS (fun j => ∀ v, wp (j v) (fun o => o = 1)) (fun v => ?_) (fun j hj => wp_br (fun _ => hj _) (fun _ => hj _))
    exact rest_fin yS_ly (rest_m yS_ly (com_0 MEQ_S).2.1 _ _) hJ
  refine wp_br (fun _ => ?_) (fun _ => ?_)
  · simp only [gd_t t1, gd_t t2, gd_t t3, gd_t t4, gd_t t5]
    exact chainL yS_ly (op_go _ _) hJ
  refine wp_br (fun _ => ?_) (fun _ => ?_)
  · simp only [gd_t t1, gd_t t2, gd_t t3, gd_t t4, gd_t t5]
    exact chain1 yS_ly (op_bag _) hJ
  refine wp_br (fun _ => ?_) (fun _ => ?_)
  · simp only [gd_t t1, gd_t t2, gd_t t3, gd_t t4, gd_t t5]
    by_cases hz : xs ((0 : Int32) + 2).toNatClampNeg = 0
    · refine wp_jnS (fun j => wp (j 0) (fun o => o = 1)) ?_ (fun j hj => wp_brt hz hj)
      simp only [bR_t hz, jn_a]
      exact chainL yS_ly (op_peg _ 0 (Or.inl rfl)) hJ
    · refine wp_jnS (fun j => wp (j 1) (fun o => o = 1)) ?_ (fun j hj => wp_brf hz hj)
      simp only [bR_f hz, jn_a]
      exact chainL yS_ly (op_peg _ 1 (Or.inr rfl)) hJ
  refine wp_br (fun _ => ?_) (fun _ => ?_)
  · exact chain1 yS_ly ev_undo hJ
  refine wp_br (fun _ => ?_) (fun _ => ?_)
  · simp only [gd_t t1, gd_t t2, gd_t t3, gd_t t4, gd_t t5]
    exact chainL yS_ly (op_then _ _) hJ
  refine wp_br (fun _ => ?_) (fun _ => ?_)
  · simp only [gd_t t1, gd_t t2, gd_t t3, gd_t t4, gd_t t5]
    exact chainL yS_ly (op_sky _ _) hJ
  refine wp_br (fun _ => ?_) (fun _ => ?_)
  · simp only [gd_t t1, gd_t t2, gd_t t3, gd_t t4, gd_t t5]
    exact chainL yS_ly (op_overdone _) hJ
  refine wp_br (fun _ => ?_) (fun _ => ?_)
  · simp only [gd_t t1, gd_t t2, gd_t t3, gd_t t4, gd_t t5]
    exact chainL yS_ly (op_first _) hJ
  refine wp_br (fun _ => ?_) (fun _ => ?_)
  · exact chain1 yS_ly op_spent hJ
  refine wp_br (fun _ => ?_) (fun _ => ?_)
  · simp only [gd_t t1, gd_t t2, gd_t t3, gd_t t4, gd_t t5]
    exact chainL yS_ly (op_streak _) hJ
  refine wp_br (fun _ => ?_) (fun _ => ?_)
  · simp only [gd_t t1, gd_t t2, gd_t t3, gd_t t4, gd_t t5]
    exact chainL yS_ly (op_patch _ _) hJ
  refine wp_br (fun _ => ?_) (fun _ => ?_)
  · simp only [gd_t t1, gd_t t2, gd_t t3, gd_t t4, gd_t t5]
    exact chainL yS_ly (op_patches _) hJ
  refine wp_br (fun _ => ?_) (fun _ => ?_)
  · simp only [gd_t t1, gd_t t2, gd_t t3, gd_t t4, gd_t t5]
    exact chainL yS_ly (op_way _ _) hJ
  refine wp_br (fun _ => ?_) (fun _ => ?_)
  · exact chain1 yS_ly ev_toRest hJ
  refine wp_br (fun _ => ?_) (fun _ => ?_)
  · simp only [gd_t t1, gd_t t2, gd_t t3, gd_t t4, gd_t t5]
    exact chainL yS_ly (op_toStand _ _) hJ
  refine wp_br (fun _ => ?_) (fun _ => ?_)
  · simp only [gd_t t1, gd_t t2, gd_t t3, gd_t t4, gd_t t5]
    exact chainL yS_ly (op_toSwish _ _) hJ
  refine wp_br (fun _ => ?_) (fun _ => ?_)
  · simp only [gd_t t1, gd_t t2, gd_t t3, gd_t t4, gd_t t5]
    exact chainL yS_ly (op_sent _ _) hJ
  refine wp_br (fun _ => ?_) (fun _ => ?_)
  · simp only [gd_t t1, gd_t t2, gd_t t3, gd_t t4, gd_t t5]
    exact chainL yS_ly (op_band _) hJ
  refine wp_br (fun _ => ?_) (fun _ => ?_)
  · exact chain1 yS_ly ev_steady hJ
  refine wp_br (fun _ => ?_) (fun _ => ?_)
  · simp only [gd_t t1, gd_t t2, gd_t t3, gd_t t4, gd_t t5]
    exact chainL yS_ly (op_steps _ _) hJ
  refine wp_br (fun _ => ?_) (fun _ => ?_)
  · simp only [gd_t t1, gd_t t2, gd_t t3, gd_t t4, gd_t t5]
    exact chainL yS_ly (op_nearest _) hJ
  refine wp_br (fun _ => ?_) (fun _ => ?_)
  · simp only [gd_t t1, gd_t t2, gd_t t3, gd_t t4, gd_t t5]
    exact chainL yS_ly (op_missed _) hJ
  refine wp_br (fun _ => ?_) (fun _ => ?_)
  · simp only [gd_t t1, gd_t t2, gd_t t3, gd_t t4, gd_t t5]
    exact chainL yS_ly (op_see _ _ _) hJ
  refine wp_br (fun _ => ?_) (fun _ => ?_)
  · simp only [gd_t t1, gd_t t2, gd_t t3, gd_t t4, gd_t t5]
    exact chainL yS_ly (op_skilled _) hJ
  refine wp_br (fun _ => ?_) (fun _ => ?_)
  · simp only [gd_t t1, gd_t t2, gd_t t3, gd_t t4, gd_t t5]
    exact chainL yS_ly (op_look _) hJ
  refine wp_br (fun _ => ?_) (fun _ => ?_)
  · exact chainV yS_ly fi_1 hJ
  refine wp_br (fun _ => ?_) (fun _ => ?_)
  · simp only [gd_t t1, gd_t t2, gd_t t3, gd_t t4, gd_t t5]
    exact chainL yS_ly (op_game _ _ _) hJ
  refine wp_br (fun _ => ?_) (fun _ => ?_)
  · simp only [gd_t t1, gd_t t2, gd_t t3, gd_t t4, gd_t t5]
    exact chainL yS_ly (op_skies _ _ _) hJ
  refine wp_br (fun _ => ?_) (fun _ => ?_)
  · exact chainV yS_ly fi_2 hJ
  exact chain1 yS_ly ev_restore hJ
theorem sc_neg : ∀ L : Fin 6, Int32.ofNat L.val - 6 < 0 := by decide
set_option maxRecDepth 20000 in
theorem law_less (L : Nat) (hL : L < 6) (xs : Nat → Int32) : f_L_law y_0 M_0 L xs = some 1 := by
  unfold f_L_law
  have q1 : f_X11_init (psh y_0 (0, 11)) (y_0.2.2 + 1) (zM M_0 (y_0.2.2 + 1)) = some o1 := i1_eq
  rw [gd_t (by decide), lT_s, lT_s, q1, ci_s, yS_n.1.1, gd_t (by decide), lT_s, lT_s]
  have q2 : f_X12_init (psh o1.1 (0, 12)) (72 + 1) (zM o1.2 (72 + 1)) = some o2 := i2_eq
  rw [q2, ci_s, yS_n.1.2, gd_t (by decide), lT_s, lT_s]
  have hn := sc_neg ⟨L, hL⟩
  dsimp only at hn
  refine wp_eq ?_
  exact law_it0 (fun f N => wp_brt hn (wp_some rfl))
theorem law_ok (L : Nat) (xs : Nat → Int32) (h : L ≤ 6) : f_L_law y_0 M_0 L xs = some 1 := by
  by_cases q : L = 6
  · rw [q]; exact law_6 xs
  · exact law_less L (by omega) xs
