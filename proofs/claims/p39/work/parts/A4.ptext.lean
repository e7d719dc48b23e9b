/-! ===== a whole text ===== -/
theorem begin_13 {y : Lay} (hy : LY y) {M : Mem} : wp (f_X1_begin y 13 M) (fun o => Eqx [13, 14, 15, 18] M o.2 ∧ (o.2.1 13 0 = 3 ∧ o.2.1 13 1 = 3 ∧ o.2.1 13 2 = 2 ∧ o.2.1 13 3 = 60 ∧ o.2.1 13 4 = 0 ∧ o.2.1 13 5 = 0) ∧ o.2.1 15 2 = 0 ∧ o.2.1 18 2 = 0) := by
  unfold f_X1_begin
  rw [gK_t (k_13 hy), show (3 : Int32) = n2 3 from rfl]
  refine wp_c0 _ (shape_13 hy (M := M) (w := 3) (h := 3) (by decide) (by decide)) (fun r M1 q => ?_)
  obtain ⟨q1, q2, -⟩ := q
  have q1 : Eqx [13, 14] M M1 := q1
  have q2 : M1.1 13 = up (up (M.1 13) 0 (n2 3)) 1 (n2 3) := q2
  refine wp_lt (wp_lt (wp_lt (wp_lt ?_)))
  rw [r_13_7 hy, r_13_8 hy, gN_t (by decide), gK_t (k_15 hy)]
  unfold f_X5_clear
  rw [gK_t (k_15 hy)]
  simp only [lT_s, c0_s]
  rw [gN_t (by decide), gK_t (k_18 hy), gK_t (k_18 hy), c0_s]
  simp only [wI_sr, sr_ap, sr_sr]
  refine wp_some ⟨((q1.mono (by decide)).sr (by decide)).sr (by decide) |>.sr (by decide), ⟨?_, ?_, ?_, ?_, ?_, ?_⟩, ?_, ?_⟩
  · rw [sr_ne (by decide), sr_ne (by decide), sr_ap, q2]; rfl
  · rw [sr_ne (by decide), sr_ne (by decide), sr_ap, q2]; rfl
  · rw [sr_ne (by decide), sr_ne (by decide), sr_ap]; rfl
  · rw [sr_ne (by decide), sr_ne (by decide), sr_ap]; rfl
  · rw [sr_ne (by decide), sr_ne (by decide), sr_ap]; rfl
  · rw [sr_ne (by decide), sr_ne (by decide), sr_ap]; rfl
  · rw [sr_ne (by decide), sr_ap, up_eq]
  · rw [sr_ap, up_eq]
def S00 : Sk := (fun _ => 0, fun _ => 0, fun _ => 0, 0, 0, n2 20, 0, 0, 0)
theorem zr_0 {n : Nat} {f : Row} (h : ∀ k, k < n → f k = 0) : zr n f = fun _ => 0 := by
  funext k
  unfold zr
  by_cases q : k < n
  · rw [if_pos q, h k q]
  · rw [if_neg q]
theorem begin_21 {y : Lay} (hy : LY y) {M : Mem} : wp (f_X8_begin y 21 M) (fun o => Eqx [21, 22, 25, 26] M o.2 ∧ skZ o.2 = S00) := by
  unfold f_X8_begin
  refine wp_for 30 (fun i s => Eqx [21, 22, 25, 26] M s ∧ ∀ k, k < i → s.1 22 k = 0) (by decide) rfl (Nat.zero_le _) ⟨Eqx.refl _ _, fun k hk => absurd hk (Nat.not_lt_zero k)⟩ ?_ ?_
  · intro f i s hi hI hk
    refine wp_brf (by rw [show (30 : Int32) = n2 30 from rfl, n2_le (by decide) (by omega)]; omega) ?_
    rw [gK_t (k_21 hy), r_21_1 hy, gN_t (by decide), gA_n (k_22 hy) hi (by omega), n2_nat (by omega)]
    refine wp_lt (wp_lt ?_)
    rw [n2_s, wI_sr]
    refine hk _ ⟨hI.1.sr (by decide), fun k hk => ?_⟩
    rw [sr_ap]
    by_cases e : k = i
    · rw [e, up_eq]
    · rw [up_ne e]; exact hI.2 k (by omega)
  · intro f s hI
    refine wp_brt rfl ?_
    refine wp_for 6 (fun i s => Eqx [21, 22, 25, 26] M s ∧ (∀ k, k < 30 → s.1 22 k = 0) ∧ ∀ k, k < i → s.1 25 k = 0 ∧ s.1 26 k = 0) (by decide) rfl (Nat.zero_le _) ⟨hI.1, hI.2, fun k hk => absurd hk (Nat.not_lt_zero k)⟩ ?_ ?_
    · intro f i s hi hI hk
      obtain ⟨i1, i2, i3⟩ := hI
      refine wp_brf (by rw [show (6 : Int32) = n2 6 from rfl, n2_le (by decide) (by omega)]; omega) ?_
      rw [gK_t (k_21 hy), r_21_4 hy, r_21_5 hy, gN_t (by decide), gA_n (k_25 hy) hi (by omega), n2_nat (by omega)]
      refine wp_lt ?_
      rw [gN_t (by decide), gA_n (k_26 hy) hi (by omega)]
      refine wp_lt (wp_lt ?_)
      rw [n2_s, wI_sr, wI_sr]
      refine hk _ ⟨(i1.sr (by decide)).sr (by decide), fun k hk => ?_, fun k hk => ?_⟩
      · rw [sr_ne (by decide), sr_ne (by decide)]; exact i2 k hk
      · rw [sr_ne (show ¬ 25 = 26 by decide), sr_ap, sr_ap, sr_ne (show ¬ 26 = 25 by decide)]
        by_cases e : k = i
        · rw [e, up_eq, up_eq]; exact ⟨rfl, rfl⟩
        · rw [up_ne e, up_ne e]; exact i3 k (by omega)
    · intro f s hI
      obtain ⟨i1, i2, i3⟩ := hI
      refine wp_brt rfl ?_
      rw [gK_t (k_21 hy)]
      simp only [lT_s, wI_sr, sr_ap, sr_sr]
      refine wp_some ⟨i1.sr (by decide), ?_⟩
      unfold skZ S00
      rw [sr_ap, sr_ne (by decide), sr_ne (by decide), sr_ne (by decide), zr_0 i2, zr_0 (fun k hk => (i3 k hk).1), zr_0 (fun k hk => (i3 k hk).2)]
      rfl
def D00 (C F : Row) : Dr := (((3, 3, 2, 60), (0, 0), (C, 0), (F, 0)), S00, 0, 0, false)
theorem D00_v (C F : Row) : DV (D00 C F) := by
  have n9 : kn (dK (D00 C F)) = 9 := rfl
  refine ⟨⟨⟨show (1 ≤ 3 ∧ 3 ≤ 6) ∧ 1 ≤ 3 ∧ 3 ≤ 5 by decide, ⟨show 2 ≤ 20 by decide, show 60 < 100 by decide, show 0 ≤ 6 by decide⟩, ⟨show 0 ≤ 700 by decide, fun z => absurd z (Nat.lt_irrefl 0)⟩, ⟨show 0 ≤ 700 by decide, fun z => absurd z (Nat.lt_irrefl 0)⟩⟩, ⟨⟨⟨fun k => ⟨0, by decide, rfl⟩, fun k _ => rfl⟩, fun k _ _ => rfl⟩, ⟨fun k => ⟨0, show 0 < 9 by decide, rfl⟩, fun k _ => rfl⟩, ⟨fun k => ⟨0, by decide, rfl⟩, fun k _ => rfl⟩, ⟨20, by decide, rfl⟩⟩⟩, ⟨rfl, rfl, rfl⟩, fun g _ => ⟨rfl, rfl⟩, fun g _ hg => bt_0 hg, ⟨fun _ => rfl, fun _ => rfl⟩, fun _ => ⟨rfl, rfl, rfl, fun _ => rfl⟩⟩
/-- the class goes to its first token -/
theorem start_c {y : Lay} (hy : LY y) {T : Tx} (hT : TOK T) {M0 M : Mem} (hF : FCl M0 M) (h1 : ∃ L, T.2 ≤ L ∧ L ≤ 700 ∧ M.1 2 1 = n2 L) (h2 : ∀ k, k < T.2 → M.1 3 k &&& 255 = n2 (T.1 k)) {l : Int32 → Mem → Option (Int32 × Mem)} {R : Int32 × Mem → Prop} (hk : ∀ M1 C F, CS T 0 (D00 C F) M0 M1 → wp (l 0 M1) R) : wp (c0 (f_X1_begin y 13 M) fun (r4 : Int32) (M5 : Mem) => gN 21 (gK y 21 (0, 8) (c0 (f_X8_begin y 21 M5) fun (r8 : Int32) (M9 : Mem) => lt (wI M9 12 4 (0 : Int32)) fun (M10 : Mem) => lt (wI M10 12 5 (0 : Int32)) fun (M11 : Mem) => lt (wI M11 12 6 (0 : Int32)) fun (M12 : Mem) => gN 28 (gK y 28 (0, 10) (c0 (f_X10_begin y 28 (n2 T.2) M12) fun (r15 : Int32) (M16 : Mem) => l 0 M16))))) R := by
  refine wp_c0 _ (begin_13 hy) (fun r M1 q => ?_)
  obtain ⟨q1, ⟨a1, a2, a3, a4, a5, a6⟩, q3, q4⟩ := q
  have q1 : Eqx [13, 14, 15, 18] M M1 := q1
  rw [gN_t (by decide), gK_t (k_21 hy)]
  refine wp_c0 _ (begin_21 hy) (fun r M2 q => ?_)
  obtain ⟨p1, p2⟩ := q
  have p1 : Eqx [21, 22, 25, 26] M1 M2 := p1
  have p2 : skZ M2 = S00 := p2
  refine wp_lt (wp_lt (wp_lt ?_))
  simp only [wI_sr, sr_ap, sr_sr]
  rw [gN_t (by decide), gK_t (k_28 hy)]
  unfold f_X10_begin
  rw [gK_t (k_28 hy)]
  simp only [lT_s, wI_sr, sr_ap, sr_sr]
  generalize hN : sr (sr M2 12 (up (up (up (M2.1 12) 4 0) 5 0) 6 0)) 28 _ = N
  have n12 : N.1 12 = up (up (up (M2.1 12) 4 0) 5 0) 6 0 := by rw [← hN, sr_ne (by decide), sr_ap]
  have n28 : N.1 28 1 = n2 T.2 ∧ N.1 28 4 = 0 ∧ N.1 28 6 = 0 ∧ N.1 28 7 = -1 := by
    rw [← hN, sr_ap]
    exact ⟨rfl, rfl, rfl, rfl⟩
  have nr : ∀ p, ¬ p = 12 → ¬ p = 28 → N.1 p = M2.1 p := fun p x1 x2 => by rw [← hN, sr_ne x2, sr_ne x1]
  have nn : ∀ p, ¬ (p = 12 ∨ p = 28 ∨ p = 13 ∨ p = 14 ∨ p = 15 ∨ p = 18 ∨ p = 21 ∨ p = 22 ∨ p = 25 ∨ p = 26) → N.1 p = M.1 p := fun p hp => by
    rw [nr p (by omega) (by omega), p1.2 p (by simp; omega), q1.2 p (by simp; omega)]
  have tx : TXC T N := by
    refine ⟨?_, ?_, n28.1, n28.2.2.2⟩
    · rw [nn 2 (by omega)]; exact h1
    · rw [nn 3 (by omega)]; exact h2
  rw [c0_c0]
  refine wp_c0 _ (advance_c hy hT tx (p := 0) (Nat.zero_le _) n28.2.1) (fun r M3 q => ?_)
  obtain ⟨t1, g1⟩ := q
  have t1 : TC T M3 0 := t1
  have g1 : G28 N M3 := g1
  rw [c0_s]
  refine hk M3 (M2.1 16) (M2.1 19) ⟨t1, by rw [g1.2.2.1]; exact n28.2.2.1, ?_, fun p hp => ?_⟩
  · have hd : DC (D00 (M2.1 16) (M2.1 19)) N := by
      have m13 : N.1 13 = M1.1 13 := by rw [nr 13 (by decide) (by decide), p1.2 13 (by decide)]
      have m15 : N.1 15 = M1.1 15 := by rw [nr 15 (by decide) (by decide), p1.2 15 (by decide)]
      have m18 : N.1 18 = M1.1 18 := by rw [nr 18 (by decide) (by decide), p1.2 18 (by decide)]
      unfold DC
      rw [m13, m15, m18, nr 16 (by decide) (by decide), nr 19 (by decide) (by decide), n12]
      refine ⟨⟨a1, a2, a3, a4, a5, a6⟩, ⟨⟨q3, rfl⟩, q4, rfl⟩, ?_, rfl, rfl, rfl⟩
      unfold skZ at p2 ⊢
      rw [nr 22 (by decide) (by decide), nr 25 (by decide) (by decide), nr 26 (by decide) (by decide), nr 21 (by decide) (by decide)]
      exact p2
    exact hd.frame (fun p hp => g1.1.2 p (by simp at hp ⊢; omega))
  · rw [g1.1.2 p (by simp; omega), nn p (by omega)]
    exact hF p hp
