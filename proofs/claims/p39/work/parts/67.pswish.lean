/-! ===== toSwish ===== -/
def swS (K : KG) (S : Sk) (g k : Nat) : Row := it (fun _ B => swB K B (sSp S) (sSk S) (sPg S) (sDy S) g (sKn S)) (sB S) k
theorem swS_s (K : KG) (S : Sk) (g k : Nat) : swS K S g (k + 1) = swB K (swS K S g k) (sSp S) (sSk S) (sPg S) (sDy S) g (sKn S) := rfl
theorem swS_ok {K : KG} (hK : KOK K) {S : Sk} (h : SOK K S) (g : Nat) : ∀ k, BP (kn K) (sPg S) (swS K S g k) := by
  intro k
  induction k with
  | zero => exact h.1
  | succ k ih => rw [swS_s]; exact swB_ok hK ih h.2.1 h.2.2.1
def tswQ (K : KG) (S : Sk) (g : Nat) (m : Int32) : Nat → Bool := fun k => decide (¬ swS K S g k (sSp S g).toNatClampNeg < m)
def tswP (A : St) (g m : Int32) : Nat × Int32 := if inN (kg (aK A)) g then (if inR 0 99 m then (0, enc (fst (tswQ (aK A) (aS A) g.toInt.toNat m) 21)) else (2, 0)) else (1, 0)
theorem toSwish_c {y : Lay} (hy : LY y) {A : St} {M : Mem} (h : CR A M) (v : VAL A) (g m : Int32) : wp (f_X11_toSwish y 1 g m M) (OC A (tswP A g m) M) := by
  unfold f_X11_toSwish tswP
  have hg6 := v.1.2.1.2.2
  have h30 := v.1.n30
  rw [gK_t (k_1 hy)]
  rcases needGirl_s hy h.1.1.2.2.2.2.1 hg6 g with ⟨q, e⟩ | ⟨q, e⟩
  · rw [e, cx_s, if_pos q]
    obtain ⟨e1, e2⟩ := inN_n q
    generalize g.toInt.toNat = gg at e1 e2 ⊢
    subst e1
    have g6 : gg < 6 := by omega
    rcases needWithin_s (y := y) (M := M) (a := 0) (b := 99) (by decide) (by decide) m with ⟨u, e⟩ | ⟨u, e⟩
    · have e : f_X11_needWithin y 1 m 0 99 M = some (0, 0, M) := e
      rw [e, cx_s, if_pos u]
      refine wp_c0 _ (la_c hy h v (d := 0) (by decide)) (fun r M1 q => ?_)
      obtain ⟨q1, q2, T, q3, q5, q4⟩ := q
      dsimp only at q1 q2 q4
      have hv1 : vo (skV M1 58 59 62 63) = vo (aS A) := by rw [q4]; exact q3
      have e59 : M1.1 59 = sB (aS A) := b_eqo hv1
      have e62 : M1.1 62 = sSp (aS A) := sp_eqo hv1
      have e63 : M1.1 63 = sSk (aS A) := sk_eqo hv1
      have e587 : M1.1 58 7 = sPg (aS A) := pg_eqo hv1
      have e589 : M1.1 58 9 = sKn (aS A) := kn_eqo hv1
      have e5811 : M1.1 58 11 = sDy (aS A) := dy_eqo hv1
      obtain ⟨s1, s2⟩ := v.2.1.1.1.2.1.n gg h30
      have s1 : (sSp (aS A) gg).toNatClampNeg < kn (aK A) := s1
      have s2 : sSp (aS A) gg = n2 (sSp (aS A) gg).toNatClampNeg := s2
      simp only [gK_t (k_1 hy), gN_t (r := 1) (by decide), r_1_0 hy, r_1_1 hy, r_1_2 hy, r_1_3 hy, r_1_4 hy, r_1_5 hy, r_1_6 hy, r_1_7 hy, r_1_8 hy, r_1_9 hy, r_1_10 hy, gK_t (k_58 hy), gN_t (r := 58) (by decide), r_58_0 hy, r_58_1 hy, r_58_2 hy, r_58_3 hy, r_58_4 hy, r_58_5 hy, r_58_6 hy, spotOf_58 hy g6, cp_s, e62]
      unfold tswQ
      generalize hcc : (sSp (aS A) gg).toNatClampNeg = cc at s1 s2 ⊢
      rw [s2]
      have hc30 : cc < 30 := Nat.lt_of_lt_of_le s1 h30
      refine wp_for (i0 := 0) 21 (fun j s => (CR A s ∧ kM M s) ∧ (s.1 58 = M1.1 58 ∧ s.1 62 = M1.1 62 ∧ s.1 63 = M1.1 63) ∧ s.1 59 = swS (aK A) (aS A) gg j ∧ fst (fun k => decide (¬ swS (aK A) (aS A) gg k cc < m)) j = none) (by decide) rfl (by decide) ⟨⟨q1, q2⟩, ⟨rfl, rfl, rfl⟩, e59, rfl⟩ ?_ ?_
      · intro f j s hj hI hk
        obtain ⟨⟨i1, i2⟩, ⟨i3, i4, i5⟩, i6, i7⟩ := hI
        refine wp_brf (by rw [show (20 : Int32) = n2 20 from rfl, n2_lt (by decide) (by omega)]; omega) ?_
        rw [blueOf_58 hy hc30, cp_s, i6]
        refine wp_br (fun z => ?_) (fun z => ?_)
        · refine wp_c0 _ (swish_58 hy v.1 i1.1 (by rw [i4, e62]; exact v.2.1.1.1.2.1) g6 _) (fun r M2 p => ?_)
          obtain ⟨-, p2, p3⟩ := p
          dsimp only at p2 p3
          have p3' : M2.1 59 = swS (aK A) (aS A) gg (j + 1) := by
            rw [p3, i6, i4, i5, i3, e62, e63, e587, e589, e5811, swS_s]
          have hbp := swS_ok v.1 v.2.1.1.1 gg (j + 1)
          have hz : ZR M2 59 62 63 := by
            refine ⟨fun k hk => ?_, fun k hk => ?_, fun k hk => ?_⟩
            · rw [p3']; exact hbp.1.2 k (by omega)
            · rw [p2.2 62 (by decide), i4, e62]; exact v.2.1.1.1.sp k hk
            · rw [p2.2 63 (by decide), i5, e63]; exact v.2.1.1.1.sk k hk
          rw [n2_s]
          refine hk _ ⟨⟨i1.trial (p2.mono (by decide)) hz, i2.trans (p2.kM (by decide))⟩, ⟨?_, ?_, ?_⟩, p3', fst_no i7 (fun w => ?_)⟩
          · rw [p2.2 58 (by decide), i3]
          · rw [p2.2 62 (by decide), i4]
          · rw [p2.2 63 (by decide), i5]
          · exact of_decide_eq_true w z
        · refine OC.ret' ?_ i1 i2
          rw [fst_yes i7 (decide_eq_true z) 21 hj]
          rfl
      · intro f s hI
        obtain ⟨⟨i1, i2⟩, -, -, i7⟩ := hI
        refine wp_brt (by decide) (OC.ret' ?_ i1 i2)
        rw [i7]; rfl
    · have e : f_X11_needWithin y 1 m 0 99 M = some (2, 0, M) := e
      rw [e, if_neg u]
      exact OC.thr h (by decide)
  · rw [e, if_neg q]
    exact OC.thr h (by decide)
theorem toSwish_m {y : Lay} (hy : LY y) {A : St} {M : Mem} (h : MR A M) (v : VAL A) (g m : Int32) : wp (f_X12_toSwish y 73 g m M) (OM A (tswP A g m) M) := by
  unfold f_X12_toSwish
  have hg6 := v.1.2.1.2.2
  have h30 := v.1.n30
  rw [gK_t (k_73 hy)]
  refine OM.start hy h (fun M0 h0 g0 hc0 => ?_)
  unfold tswP
  rcases isGirl_s hy h0.1.1.2.2.2.2 hg6 g with ⟨q, e⟩ | ⟨q, e⟩
  · rw [e, cp_s, if_pos q]
    refine wp_brf (by decide) ?_
    obtain ⟨e1, e2⟩ := inN_n q
    generalize g.toInt.toNat = gg at e1 e2 ⊢
    subst e1
    have g6 : gg < 6 := by omega
    rcases isIn_r (y := y) (M := M0) (a := 0) (b := 99) (la := 0) (lb := 99) (by decide) (by decide) m with ⟨u, e⟩ | ⟨u, e⟩
    · rw [e, cp_s, if_pos u]
      refine wp_brf (by decide) ?_
      have hS0 := h0.sok v
      rw [r_73_42 hy, gN_t (by decide)]
      refine look_in hy (fun r M1 hL hV => ?_)
      have hv1 : vo (moV M1) = vo (aS A) := by rw [hV]; exact h0.2.1.1
      obtain ⟨s1, s2⟩ := v.2.1.1.1.2.1.n gg h30
      have s1 : (sSp (aS A) gg).toNatClampNeg < kn (aK A) := s1
      have s2 : sSp (aS A) gg = n2 (sSp (aS A) gg).toNatClampNeg := s2
      unfold tswQ
      generalize hcc : (sSp (aS A) gg).toNatClampNeg = cc at s1 s2 ⊢
      have hc30 : cc < 30 := Nat.lt_of_lt_of_le s1 h30
      refine wp_for (i0 := 0) 21 (fun j s => LK M0 s ∧ (s.1 73 = M1.1 73 ∧ s.1 88 = M1.1 88 ∧ s.1 85 = M1.1 85) ∧ s.1 87 = swS (aK A) (aS A) gg j ∧ fst (fun k => decide (¬ swS (aK A) (aS A) gg k cc < m)) j = none) (by decide) rfl (by decide) ⟨hL, ⟨rfl, rfl, rfl⟩, b_eqo hv1, rfl⟩ ?_ ?_
      · intro f j s hj hI hk
        obtain ⟨i1, ⟨i3, i4, i5⟩, i6, i7⟩ := hI
        have e88 : s.1 88 = sSp (aS A) := by rw [i4]; exact sp_eqo hv1
        have e85 : s.1 85 = sSk (aS A) := by rw [i5]; exact sk_eqo hv1
        have e34 : s.1 73 34 = sPg (aS A) := by rw [i3]; exact pg_eqo hv1
        have e32 : s.1 73 32 = sKn (aS A) := by rw [i3]; exact kn_eqo hv1
        have e31 : s.1 73 31 = sDy (aS A) := by rw [i3]; exact dy_eqo hv1
        have hbp := swS_ok v.1 v.2.1.1.1 gg j
        have hSs : SOK (aK A) (moV s) := by
          refine ⟨?_, ?_, ?_, ?_⟩
          · show BP (kn (aK A)) (s.1 73 34) (s.1 87)
            rw [e34, i6]; exact hbp
          · show SPK (kn (aK A)) (s.1 88)
            rw [e88]; exact v.2.1.1.1.2.1
          · show SKK (s.1 85)
            rw [e85]; exact v.2.1.1.1.2.2.1
          · show KNB (s.1 73 32)
            rw [e32]; exact v.2.1.1.1.2.2.2
        rw [jn_s]
        refine wp_brf (by rw [show (20 : Int32) = n2 20 from rfl, n2_lt (by decide) (by omega)]; omega) ?_
        rw [r_73_28 hy, r_73_29 hy, gN_t (by decide), gN_t (by decide), gA_n (k_88 hy) g6 (by omega), n2_nat (show gg < 2147483648 by omega), e88, s2, gA_n (k_87 hy) hc30 (by omega), n2_nat (show cc < 2147483648 by omega), i6]
        refine wp_br (fun z => ?_) (fun z => ?_)
        · refine look_out hy h0 v g0 hc0 i1 hSs (fun _ N n1 n2' n3 _ => ?_)
          rw [jn_s]
          refine wp_brt (by rw [show (20 : Int32) = n2 20 from rfl, n2_le (by omega) (by decide)]; omega) ?_
          refine OM.ret' ?_ n1 n2' n3
          have z' : ¬ swS (aK A) (aS A) gg j cc < m := by rw [i_lt]; rw [i_le] at z; omega
          rw [fst_yes i7 (decide_eq_true z') 21 hj]
          rfl
        · refine wp_c0 _ (swishM hy v.1 (i1.com h0.1) hSs.1 hSs.2.1 hSs.2.2.1 e2 _) (fun r M2 p => ?_)
          obtain ⟨-, p2, p3⟩ := p
          dsimp only at p2 p3
          have p3' : M2.1 87 = swS (aK A) (aS A) gg (j + 1) := by
            rw [p3, i6, e88, e85, e34, e31, e32, swS_s]
          rw [lT_s, n2_s]
          refine hk _ ⟨i1.step (p2.mono (by decide)) (F73.row (p2.2 73 (by decide))), ⟨?_, ?_, ?_⟩, p3', fst_no i7 (fun w => ?_)⟩
          · rw [p2.2 73 (by decide), i3]
          · rw [p2.2 88 (by decide), i4]
          · rw [p2.2 85 (by decide), i5]
          · have w' := of_decide_eq_true w
            rw [i_lt] at w'
            rw [i_le] at z
            omega
      · intro f s hI
        obtain ⟨i1, ⟨i3, i4, i5⟩, i6, i7⟩ := hI
        have e88 : s.1 88 = sSp (aS A) := by rw [i4]; exact sp_eqo hv1
        have e85 : s.1 85 = sSk (aS A) := by rw [i5]; exact sk_eqo hv1
        have e34 : s.1 73 34 = sPg (aS A) := by rw [i3]; exact pg_eqo hv1
        have e32 : s.1 73 32 = sKn (aS A) := by rw [i3]; exact kn_eqo hv1
        have hbp := swS_ok v.1 v.2.1.1.1 gg 21
        have hSs : SOK (aK A) (moV s) := by
          refine ⟨?_, ?_, ?_, ?_⟩
          · show BP (kn (aK A)) (s.1 73 34) (s.1 87)
            rw [e34, i6]; exact hbp
          · show SPK (kn (aK A)) (s.1 88)
            rw [e88]; exact v.2.1.1.1.2.1
          · show SKK (s.1 85)
            rw [e85]; exact v.2.1.1.1.2.2.1
          · show KNB (s.1 73 32)
            rw [e32]; exact v.2.1.1.1.2.2.2
        rw [jn_s]
        refine wp_brt (by decide) ?_
        refine look_out hy h0 v g0 hc0 i1 hSs (fun _ N n1 n2' n3 _ => ?_)
        rw [jn_s]
        refine wp_brf (by decide) (OM.ret' ?_ n1 n2' n3)
        rw [i7]; rfl
    · rw [e, cp_s, if_neg u]
      exact wp_brt rfl (OM.fail hy rfl (by decide) h0 g0)
  · rw [e, cp_s, if_neg q]
    exact wp_brt rfl (OM.fail hy rfl (by decide) h0 g0)
