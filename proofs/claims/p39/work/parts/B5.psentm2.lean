/-! ===== calls: sent, the model ===== -/
theorem l64 : ∀ n : Fin 31, (((1 : Int64) <<< ((n2 n.val).toInt64 &&& 63)) - (1 : Int64)).toInt = ((2 ^ n.val - 1 : Nat) : Int) := by decide +kernel
theorem Wn_s (k : Nat) (c : Nat → Nat → Nat) (r i : Nat) (s : Int32) (j : Nat) : Wn k c (r + 1) i s (j + 1) = Wn k c r (i + 1) (s ||| bit (ownL k c r i s)) j := rfl
theorem Wn_0 (k : Nat) (c : Nat → Nat → Nat) (r i : Nat) (s : Int32) : Wn k c (r + 1) i s 0 = ownL k c r i s := rfl
theorem tkc_z {k : Nat} (hk : k ≤ 32) : tkc k 0 = 0 := by
  have : ∀ k, k ≤ 32 → tkc k 0 = 0 := by
    intro k
    induction k with
    | zero => intro _; rfl
    | succ k ih => intro hk; rw [tkc_s, if_neg (bt_0 (by omega)), ih (by omega)]
  exact this _ hk
theorem MR.tab {A : St} {M N : Mem} (h : MR A M) (e : Eqx [95, 96] M N) : MR A N := by
  unfold MR MPR MPI moV at h ⊢
  rw [e.2 73 (by decide), e.2 84 (by decide), e.2 85 (by decide), e.2 86 (by decide), e.2 87 (by decide), e.2 88 (by decide), e.2 89 (by decide), e.2 97 (by decide), e.2 98 (by decide), e.2 99 (by decide), e.2 104 (by decide), e.2 105 (by decide), e.2 106 (by decide), e.2 107 (by decide), e.2 108 (by decide), e.2 109 (by decide)]
  exact ⟨h.1.frame (e.2 77 (by decide)) (e.2 79 (by decide)) (e.2 82 (by decide)) (e.2 83 (by decide)), h.2⟩
theorem sent_m {y : Lay} (hy : LY y) {A : St} {M : Mem} (h : MR A M) (v : VAL A) (x cell : Int32) : wp (f_X12_sent y 73 x cell M) (OM A (sentP A x cell) M) := by
  have hK := v.1
  have h30 := hK.n30
  have hg6 : kg (aK A) ≤ 6 := hK.2.1.2.2
  unfold f_X12_sent
  rw [gK_t (k_73 hy)]
  refine OM.start hy h (fun M0 h0 k0 hc0 => ?_)
  have g0 := h0.1.geo hK
  rw [cellsG hy g0, cp_s]
  have hpw : ((2 : Int) ^ kn (aK A)) = ((2 ^ kn (aK A) : Nat) : Int) := by rw [Int.natCast_pow]; rfl
  have thr2 : ¬ ((0 ≤ x.toInt ∧ x.toInt < 2 ^ kn (aK A)) ∧ pcF 32 x.toInt.toNat ≤ 6) → wp (c0 (f_X12_fail y 73 (2 : Int32) M0) fun (r6 : Int32) (M7 : Mem) => some (r6, M7)) (OM A (sentP A x cell) M) := by
    intro q
    unfold sentP
    rw [if_neg q]
    exact OM.fail hy rfl (by decide) h0 k0
  have el := l64 ⟨kn (aK A), by omega⟩
  dsimp only at el
  rcases isIn_r (y := y) (M := M0) (a := 0) (b := 2 ^ kn (aK A) - 1) (la := 0) rfl el x with ⟨q, e⟩ | ⟨q, e⟩
  · have q' : 0 ≤ x.toInt ∧ x.toInt ≤ ((2 ^ kn (aK A) - 1 : Nat) : Int) := ⟨q.1, q.2⟩
    have e : f_X12_isIn y x.toInt64 (0 : Int64) (((1 : Int64) <<< ((n2 (kw (aK A) * kh (aK A))).toInt64 &&& 63)) - (1 : Int64)) M0 = some 1 := e
    rw [e, cp_s]
    refine wp_jn (wp_brf (by decide) ?_)
    have ex : x = n2 x.toInt.toNat := n2_of q'.1
    have hxb := (i_bd x).2
    have hmi : x.toInt = (x.toInt.toNat : Int) := by omega
    have hm31 : x.toInt.toNat < 2147483648 := by omega
    generalize hmm : x.toInt.toNat = m at ex hmi hm31
    have q1 : m < 2 ^ kn (aK A) := by
      have := q'.2
      rw [hmi] at this
      have hpos : 0 < 2 ^ kn (aK A) := Nat.pow_pos (by decide)
      omega
    have hp32 := pcF_le 32 m
    rw [ex, bitsOf_s hm31, bcJ_n (by omega), cp_s]
    by_cases q2 : ¬ pcF 32 m ≤ 6
    · refine wp_brf (by rw [show (6 : Int32) = n2 6 from rfl, n2_le (by omega) (by decide)]; exact q2) ?_
      rw [← ex]
      refine thr2 (fun z => q2 ?_)
      rw [← hmm]; exact z.2
    have q2 : pcF 32 m ≤ 6 := Decidable.not_not.mp q2
    refine wp_brt (by rw [show (6 : Int32) = n2 6 from rfl, n2_le (by omega) (by decide)]; exact q2) (wp_jn ?_)
    have ok : (0 ≤ (n2 m).toInt ∧ (n2 m).toInt < 2 ^ kn (aK A)) ∧ pcF 32 (n2 m).toInt.toNat ≤ 6 := by
      rw [n2_int hm31, hpw]
      refine ⟨⟨by omega, by exact_mod_cast q1⟩, ?_⟩
      rw [Int.toNat_natCast]
      exact q2
    have hM6 := snM_6 hK q2
    have main : (cell = -1 ∨ (inN (kn (aK A)) cell ∧ bt (n2 m) cell.toInt.toNat = 1)) → wp (fixN (fun _ _ _ => none) (fun (s17 : Int32 → Int32 → Mem → Option (Int32 × Mem)) (v14 : Int32) (v15 : Int32) (M16 : Mem) => cp (f_X12_cells y 73 M16) fun (r19 : Int32) => br (r19 ≤ v15) (gN (y.2.1 73 5) (gA y (y.2.1 73 5) 1 (2 : Int32) (br (v14 ≤ (M16.1 (y.2.1 73 5) (2 : Int32).toNatClampNeg)) (c0 (f_X12_tellLeast y 73 v14 M16) fun (r26 : Int32) (M27 : Mem) => br (cell = ((-1) : Int32)) (gN (y.2.1 73 44) (gA y (y.2.1 73 44) 1 (0 : Int32) (some ((M27.1 (y.2.1 73 44) (0 : Int32).toNatClampNeg), M27)))) (fixN (fun _ _ => none) (fun (s32 : Int32 → Int32 → Option (Int32 × Mem)) (v30 : Int32) (v31 : Int32) => br (v14 ≤ v31) (some (((-1) : Int32), M27)) (lt ((-1) : Int32) fun (v36 : Int32) => gA y (y.2.1 73 5) 1 (2 : Int32) (lt ((M27.1 (y.2.1 73 5) (2 : Int32).toNatClampNeg) - (1 : Int32)) fun (v38 : Int32) => fixN (fun _ _ => none) (fun (s41 : Int32 → Int32 → Option (Int32 × Mem)) (v39 : Int32) (v40 : Int32) => br (v40 < 0) (gN (y.2.1 73 45) (gA y (y.2.1 73 45) 1 v31 (br ((M27.1 (y.2.1 73 45) v31.toNatClampNeg) = cell) (some (v39, M27)) (lt (v30 ||| ((1 : Int32) <<< (v39 &&& 31))) fun (v49 : Int32) => lt (v31 + (1 : Int32)) fun (v50 : Int32) => s32 v49 v50)))) (cp (f_X12_isOf y v30 v40 M27) fun (r51 : Int32) => jn (fun (v52 : Int32) => lt (v40 + ((-1) : Int32)) fun (v54 : Int32) => s41 v52 v54) fun j53 => br (r51 = 0) (cp (f_X12_with y 73 v31 v30 v40 M27) fun (r57 : Int32) => gN (y.2.1 73 44) (gA y (y.2.1 73 44) 1 ((v31 <<< ((6 : Int32) &&& 31)) + v30) (br (r57 = (M27.1 (y.2.1 73 44) ((v31 <<< ((6 : Int32) &&& 31)) + v30).toNatClampNeg)) (j53 v40) (j53 v39)))) (j53 v39))) FUEL v36 v38))) FUEL (0 : Int32) (0 : Int32))) (some (((-2) : Int32), M16))))) (cp (f_X12_isOf y (n2 m) v15 M16) fun (r64 : Int32) => jn (fun (v65 : Int32) (M66 : Mem) => lt (v15 + (1 : Int32)) fun (v68 : Int32) => s17 v65 v68 M66) fun j67 => br (r64 = 0) (j67 v14 M16) (gN (y.2.1 73 45) (gA y (y.2.1 73 45) 1 v14 (lt (wI M16 (y.2.1 73 45) v14.toNatClampNeg v15) fun (M73 : Mem) => lt (v14 + (1 : Int32)) fun (v74 : Int32) => j67 v74 M73))))) FUEL (0 : Int32) (0 : Int32) M0) (OM A (sentP A (n2 m) cell) M) := by
      intro hcell
      have hF0 : FUEL = 100000 := rfl
      refine wp_for2M (kn (aK A)) (fun i nn N => nn = n2 (gl (n2 m) i).2 ∧ Eqx [96] M0 N ∧ ∀ j, j < (gl (n2 m) i).2 → N.1 96 j = (gl (n2 m) i).1 j) (by omega) rfl (Nat.zero_le _) ⟨rfl, Eqx.refl _ _, fun j hj => absurd hj (Nat.not_lt_zero j)⟩ ?_ ?_
      · intro f i nn N hi hI hk
        obtain ⟨i1, i2, i3⟩ := hI
        have hN := h0.tab (i2.mono (by decide))
        rw [cellsG hy (hN.1.geo hK), cp_s]
        have hkn : kw (aK A) * kh (aK A) ≤ 30 := h30
        have hi' : i < kw (aK A) * kh (aK A) := hi
        refine wp_brf (by rw [n2_le (by omega) (by omega)]; omega) ?_
        rw [isOf_s, cp_s]
        refine wp_jn ?_
        by_cases q : bt (n2 m) i = 1
        · have hle := gl_mono (n2 m) (i + 1) (kn (aK A) - (i + 1))
          rw [show i + 1 + (kn (aK A) - (i + 1)) = kn (aK A) by omega] at hle
          have hle : (gl (n2 m) (i + 1)).2 ≤ snM A (n2 m) := hle
          have e1 : (gl (n2 m) (i + 1)).2 = (gl (n2 m) i).2 + 1 := by rw [gl_y q]
          have e2 : (gl (n2 m) (i + 1)).1 = up (gl (n2 m) i).1 (gl (n2 m) i).2 (n2 i) := by rw [gl_y q]
          rw [if_pos q]
          refine wp_brf (by decide) ?_
          rw [r_73_45 hy, gN_t (by decide), i1, gA_n (k_96 hy) (by omega) (by omega), n2_nat (by omega)]
          refine wp_lt (wp_lt (wp_lt ?_))
          rw [wI_sr, n2_s, n2_s]
          refine hk _ _ ⟨by rw [e1], i2.sr (by decide), fun j hj => ?_⟩
          rw [sr_ap, e2]
          by_cases ej : j = (gl (n2 m) i).2
          · rw [ej, up_eq, up_eq]
          · rw [up_ne ej, up_ne ej]; exact i3 j (by omega)
        · rw [if_neg q]
          refine wp_brt rfl (wp_lt ?_)
          rw [n2_s]
          refine hk _ N ⟨by rw [gl_n q]; exact i1, i2, fun j hj => ?_⟩
          rw [gl_n q] at hj ⊢
          exact i3 j hj
      · intro f nn N hI
        obtain ⟨i1, i2, i3⟩ := hI
        have i1 : nn = n2 (snM A (n2 m)) := i1
        have hN := h0.tab (i2.mono (by decide))
        have kN : kC M N := k0.trans (i2.kC (by decide))
        have cN : N.1 73 4 = 0 := by rw [i2.2 73 (by decide)]; exact hc0
        rw [cellsG hy (hN.1.geo hK), cp_s]
        have hkn : kw (aK A) * kh (aK A) ≤ 30 := h30
        refine wp_brt (by rw [n2_le (by omega) (by omega)]; exact Nat.le_refl _) ?_
        have e2g : N.1 77 (2 : Int32).toNatClampNeg = n2 (kg (aK A)) := hN.1.1.2.2.2.2
        rw [r_73_5 hy, gN_t (by decide), gA_t (k_77 hy) (by decide), e2g, i1]
        unfold sentP
        rw [if_pos ok, if_pos hcell]
        by_cases q3 : ¬ snM A (n2 m) ≤ kg (aK A)
        · rw [if_neg q3]
          exact wp_brf (by rw [n2_le (by omega) (by omega)]; exact q3) (OM.ret hN kN cN)
        have q3 : snM A (n2 m) ≤ kg (aK A) := Decidable.not_not.mp q3
        rw [if_pos q3]
        refine wp_brt (by rw [n2_le (by omega) (by omega)]; exact q3) ?_
        have hs := hN.v
        have hFS : FSm (snM A (n2 m)) (snG A (n2 m)) (kw (aK A)) (kh (aK A)) (kg (aK A)) (snS A) N := by
          refine ⟨fun j hj => ?_, hN.1.geo hK, e2g, fun g _ => ?_⟩
          · rw [i3 j hj]; exact (snG_v A hK (n2 m) j).2
          · rw [hs.1.2.1]; exact (snS_v v g).2
        have hGb : ∀ i, snG A (n2 m) i < 64 := fun i => (snG_v A hK (n2 m) i).1
        have hSb : ∀ g, snS A g < 64 := fun g => (snS_v v g).1
        refine wp_c0 _ (tellLeast_m hy hM6 hg6 hGb hSb hK.1.1.2 hFS) (fun r N2 hq => ?_)
        obtain ⟨t1, t2⟩ := hq
        have t1 : Eqx [95] N N2 := t1
        have t2 : ∀ i, i ≤ snM A (n2 m) → RT (kg (aK A)) (snC A (n2 m)) (snM A (n2 m)) i N2 := t2
        have hN2 := hN.tab (t1.mono (by decide))
        have kN2 : kC M N2 := kN.trans (t1.kC (by decide))
        have cN2 : N2.1 73 4 = 0 := by rw [t1.2 73 (by decide)]; exact cN
        have hFS2 := hFS.eq t1
        rw [r_73_44 hy, r_73_45 hy]
        by_cases q4 : cell = -1
        · rw [if_pos q4]
          refine wp_brt q4 ?_
          rw [gN_t (by decide), gA_t (k_95 hy) (by decide)]
          have e0 : N2.1 95 (0 : Int32).toNatClampNeg = n2 (snL A (n2 m)) := by
            have := t2 0 (Nat.zero_le _) 0 (Nat.pow_pos (by decide))
            exact this
          rw [e0]
          exact OM.ret hN2 kN2 cN2
        · rw [if_neg q4]
          refine wp_brf q4 ?_
          have h2k : 2 ^ kg (aK A) ≤ 64 := Nat.pow_le_pow_right (by decide) hg6
          have hcb : ∀ i g, g < kg (aK A) → snC A (n2 m) i g < 128 := fun i g _ => dist_lt (hSb g) (hGb i) hK.1.1.2
          refine wp_for2 (snM A (n2 m)) (fun i gone => snF A (n2 m) cell i = none ∧ ∃ s, s < 2 ^ kg (aK A) ∧ gone = n2 s ∧ tkc (kg (aK A)) (n2 s) = i ∧ ∀ j, Wn (kg (aK A)) (snC A (n2 m)) (snM A (n2 m) - i) i (n2 s) j = snW A (n2 m) (i + j)) (by omega) (i0 := 0) rfl (Nat.zero_le _) ⟨rfl, 0, Nat.pow_pos (by decide), rfl, tkc_z (by omega), fun j => by rw [Nat.zero_add]; rfl⟩ ?_ ?_
          · intro f2 i gone hi hJ hk2
            obtain ⟨j1, s, j2, j3, j4, j5⟩ := hJ
            have h64 := p64 hg6 j2
            have e6 := sh6 ⟨i, by omega⟩
            dsimp only at e6
            refine wp_brf (by rw [n2_le (by omega) (by omega)]; omega) (wp_lt ?_)
            have e2g2 : N2.1 77 (2 : Int32).toNatClampNeg = n2 (kg (aK A)) := hN2.1.1.2.2.2.2
            rw [gA_t (k_77 hy) (by decide), e2g2]
            refine wp_lt ?_
            have hr : snM A (n2 m) - i = (snM A (n2 m) - (i + 1)) + 1 := by omega
            have htk : tkc (kg (aK A)) (n2 s) + ((snM A (n2 m) - (i + 1)) + 1) ≤ kg (aK A) := by rw [j4]; omega
            obtain ⟨o1, o2, o3, o4⟩ := ownL_sp hg6 hcb (i := i) htk
            have hwith : ∀ g, g < kg (aK A) → f_X12_with y 73 (n2 i) (n2 s) (n2 g) N2 = some (n2 (vL (kg (aK A)) (snC A (n2 m)) (snM A (n2 m) - (i + 1)) i (n2 s) g)) := fun g hg => with_m hy hM6 hg6 hGb hSb hFS2 hi j2 hg (t2 (i + 1) (by omega))
            have e95 : N2.1 95 (64 * i + s) = n2 (Lf (kg (aK A)) (snC A (n2 m)) ((snM A (n2 m) - (i + 1)) + 1) i (n2 s)) := by rw [← hr]; exact t2 i (by omega) s j2
            have vb : ∀ g, g < kg (aK A) → vL (kg (aK A)) (snC A (n2 m)) (snM A (n2 m) - (i + 1)) i (n2 s) g < 2147483648 := fun g hg => by
              have := Lf_le (kg (aK A)) (snC A (n2 m)) (snM A (n2 m) - (i + 1)) (i + 1) (n2 s ||| bit g)
              have := hcb i g hg
              unfold vL
              omega
            have Lb := Lf_le (kg (aK A)) (snC A (n2 m)) ((snM A (n2 m) - (i + 1)) + 1) i (n2 s)
            -- the girls from the last
            refine wp_fork (κ := Int32 → Int32 → Option (Int32 × Mem)) (S := Int32) (fun f t o => f o (n2 (kg (aK A) - t) - 1)) (fun t o => (o = -1 ∧ kg (aK A) - t > ownL (kg (aK A)) (snC A (n2 m)) (snM A (n2 m) - (i + 1)) i (n2 s) ∨ (∃ g, o = n2 g ∧ kg (aK A) - t ≤ g ∧ g < kg (aK A) ∧ ownL (kg (aK A)) (snC A (n2 m)) (snM A (n2 m) - (i + 1)) i (n2 s) ≤ g ∧ (kg (aK A) - t ≤ ownL (kg (aK A)) (snC A (n2 m)) (snM A (n2 m) - (i + 1)) i (n2 s) → g = ownL (kg (aK A)) (snC A (n2 m)) (snM A (n2 m) - (i + 1)) i (n2 s))) ∨ (o = -1 ∧ False))) (kg (aK A)) (by omega) (i0 := 0) (Nat.zero_le _) (Or.inl ⟨rfl, by omega⟩) ?_ ?_
            · intro f3 t o ht hL hk3
              have et : n2 (kg (aK A) - t) - 1 = n2 (kg (aK A) - (t + 1)) := by
                rw [show (1 : Int32) = n2 1 from rfl, n2_sub (by omega)]
                congr 1
              rw [et]
              refine wp_brf (n2_n0 (by omega)) ?_
              rw [j3, isOf_s, cp_s]
              refine wp_jn ?_
              have hgt : kg (aK A) - (t + 1) < kg (aK A) := by omega
              have stay : ¬ (kg (aK A) - (t + 1) = ownL (kg (aK A)) (snC A (n2 m)) (snM A (n2 m) - (i + 1)) i (n2 s)) → wp (lt (n2 (kg (aK A) - (t + 1)) + ((-1) : Int32)) fun (v54 : Int32) => f3 o v54) (OM A (0, snA A (n2 m) cell) M) := by
                intro hne
                refine wp_lt ?_
                rw [am1]
                refine hk3 o ?_
                rcases hL with ⟨a, b⟩ | ⟨g, a, b1, b2, b3, b4⟩ | ⟨-, b⟩
                · exact Or.inl ⟨a, by omega⟩
                · exact Or.inr (Or.inl ⟨g, a, by omega, b2, b3, fun z => b4 (by omega)⟩)
                · exact absurd b id
              by_cases q : bt (n2 s) (kg (aK A) - (t + 1)) = 1
              · rw [if_pos q]
                exact wp_brf (by decide) (stay (fun z => by rw [z] at q; exact o2 q))
              · rw [if_neg q]
                refine wp_brt rfl ?_
                rw [hwith _ hgt, cp_s, gN_t (by decide), e6, n2_add, gA_n (k_95 hy) (by omega) (by omega), n2_nat (by omega), e95]
                refine wp_br (fun z => ?_) (fun z => ?_)
                · rw [n2_inj (vb _ hgt) (by omega)] at z
                  refine wp_lt ?_
                  rw [am1]
                  refine hk3 _ (Or.inr (Or.inl ⟨_, rfl, Nat.le_refl _, hgt, ?_, ?_⟩))
                  · by_cases w : ownL (kg (aK A)) (snC A (n2 m)) (snM A (n2 m) - (i + 1)) i (n2 s) ≤ kg (aK A) - (t + 1)
                    · exact w
                    · exact absurd z (o4 _ (by omega) q)
                  · intro w
                    by_cases e : kg (aK A) - (t + 1) = ownL (kg (aK A)) (snC A (n2 m)) (snM A (n2 m) - (i + 1)) i (n2 s)
                    · exact e
                    · exfalso
                      exact o4 (kg (aK A) - (t + 1)) (by omega) q z
                · rw [n2_inj (vb _ hgt) (by omega)] at z
                  exact stay (fun e => z (by rw [e]; exact o3))
            · intro f3 o hL
              rw [Nat.sub_self]
              refine wp_brt (by decide) ?_
              have eo : o = n2 (ownL (kg (aK A)) (snC A (n2 m)) (snM A (n2 m) - (i + 1)) i (n2 s)) := by
                rcases hL with ⟨a, b⟩ | ⟨g, a, b1, b2, b3, b4⟩ | ⟨-, b⟩
                · omega
                · rw [a, b4 (by omega)]
                · exact absurd b id
              have e0 := j5 0
              rw [hr, Wn_0, Nat.add_zero] at e0
              rw [gN_t (by decide), gA_n (k_96 hy) (by omega) (by omega), n2_nat (by omega), hFS2.1 i hi, ← (snG_v A hK (n2 m) i).2]
              refine wp_br (fun z => ?_) (fun z => wp_lt (wp_lt ?_))
              · have ea : snA A (n2 m) cell = o := by
                  unfold snA
                  have e : snF A (n2 m) cell (snM A (n2 m)) = some i := fst_yes j1 (by simpa using z) _ hi
                  rw [e]
                  show n2 (snW A (n2 m) i) = o
                  rw [eo, e0]
                  rfl
                rw [ea]
                exact OM.ret hN2 kN2 cN2
              · have ob := or2p ⟨s, h64⟩ ⟨ownL (kg (aK A)) (snC A (n2 m)) (snM A (n2 m) - (i + 1)) i (n2 s), by omega⟩
                dsimp only at ob
                rw [n2_s, j3, eo, ob.1]
                refine hk2 _ ⟨fst_no j1 (by simpa using z), _, or_lt j2 o1, rfl, ?_, fun j => ?_⟩
                · rw [← ob.1]
                  have := tkc_at hg6 o1 o2
                  rw [show bit (ownL (kg (aK A)) (snC A (n2 m)) (snM A (n2 m) - (i + 1)) i (n2 s)) = (1 : Int32) <<< (n2 (ownL (kg (aK A)) (snC A (n2 m)) (snM A (n2 m) - (i + 1)) i (n2 s)) &&& 31) from rfl] at this
                  rw [this, j4]
                · have e1 := j5 (j + 1)
                  rw [hr, Wn_s] at e1
                  rw [← ob.1, show i + 1 + j = i + (j + 1) by omega, ← e1]
                  rfl
          · intro f2 gone hJ
            refine wp_brt (by rw [n2_le (by omega) (by omega)]; exact Nat.le_refl _) ?_
            have ea : snA A (n2 m) cell = -1 := by unfold snA; rw [hJ.1]
            rw [ea]
            exact OM.ret hN2 kN2 cN2
    by_cases q4 : cell = -1
    · exact wp_brt q4 (main (Or.inl q4))
    · refine wp_brf q4 ?_
      have thr1 : ¬ (inN (kn (aK A)) cell ∧ bt (n2 m) cell.toInt.toNat = 1) → wp (c0 (f_X12_fail y 73 (1 : Int32) M0) fun (r79 : Int32) (M80 : Mem) => some (r79, M80)) (OM A (sentP A (n2 m) cell) M) := by
        intro q
        unfold sentP
        rw [if_pos ok, if_neg (fun z => z.elim q4 q)]
        exact OM.fail hy rfl (by decide) h0 k0
      rcases isCell_s hy g0 cell with ⟨q5, e5⟩ | ⟨q5, e5⟩
      · rw [e5, cp_s]
        obtain ⟨c1, c2⟩ := inN_n q5
        refine wp_jn (wp_brf (by decide) ?_)
        have ei : f_X12_isOf y (n2 m) cell M0 = some (if bt (n2 m) cell.toInt.toNat = 1 then 1 else 0) := by
          have := isOf_s (y := y) (x := n2 m) (c := cell.toInt.toNat) (M := M0)
          rw [← c1] at this
          exact this
        rw [ei, cp_s]
        by_cases q6 : bt (n2 m) cell.toInt.toNat = 1
        · rw [if_pos q6]
          exact wp_brf (by decide) (main (Or.inr ⟨q5, q6⟩))
        · rw [if_neg q6]
          exact wp_brt rfl (thr1 (fun z => q6 z.2))
      · rw [e5, cp_s]
        exact wp_jn (wp_brt rfl (thr1 (fun z => q5 z.1)))
  · have e : f_X12_isIn y x.toInt64 (0 : Int64) (((1 : Int64) <<< ((n2 (kw (aK A) * kh (aK A))).toInt64 &&& 63)) - (1 : Int64)) M0 = some 0 := e
    rw [e, cp_s]
    refine wp_jn (wp_brt rfl (thr2 (fun z => q ?_)))
    have h1 := z.1
    rw [hpw] at h1
    have hpos : 0 < 2 ^ kn (aK A) := Nat.pow_pos (by decide)
    exact ⟨h1.1, by omega⟩
