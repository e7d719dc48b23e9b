/-! ===== calls: sent, the class ===== -/
def snG (A : St) (x : Int32) (j : Nat) : Nat := ((gl x (kn (aK A))).1 j).toNatClampNeg
def snS (A : St) (g : Nat) : Nat := (sSp (aS A) g).toNatClampNeg
def snC (A : St) (x : Int32) : Nat → Nat → Nat := fun i g => dist (kw (aK A)) (snS A g) (snG A x i)
def snM (A : St) (x : Int32) : Nat := (gl x (kn (aK A))).2
def snL (A : St) (x : Int32) : Nat := Lf (kg (aK A)) (snC A x) (snM A x) 0 0
def snW (A : St) (x : Int32) (j : Nat) : Nat := Wn (kg (aK A)) (snC A x) (snM A x) 0 0 j
def snF (A : St) (x cell : Int32) (n : Nat) : Option Nat := fst (fun j => decide ((gl x (kn (aK A))).1 j = cell)) n
def snA (A : St) (x cell : Int32) : Int32 := match snF A x cell (snM A x) with
  | some j => n2 (snW A x j)
  | none => -1
def sentP (A : St) (x cell : Int32) : Nat × Int32 := if (0 ≤ x.toInt ∧ x.toInt < 2 ^ kn (aK A)) ∧ pcF 32 x.toInt.toNat ≤ 6 then (if cell = -1 ∨ (inN (kn (aK A)) cell ∧ bt x cell.toInt.toNat = 1) then (0, if snM A x ≤ kg (aK A) then (if cell = -1 then n2 (snL A x) else snA A x cell) else -2) else (1, 0)) else (2, 0)
theorem snG_v (A : St) (hK : KOK (aK A)) (x : Int32) (j : Nat) : snG A x j < 64 ∧ (gl x (kn (aK A))).1 j = n2 (snG A x j) := by
  have h30 := hK.n30
  obtain ⟨v, a, b⟩ := gl_v x (kn (aK A)) (by omega) j
  have e : snG A x j = v := by unfold snG; rw [b, n2_nat (by omega)]
  rw [e]
  exact ⟨a, b⟩
theorem snS_v {A : St} (v : VAL A) (g : Nat) : snS A g < 64 ∧ sSp (aS A) g = n2 (snS A g) := by
  have h30 := v.1.n30
  obtain ⟨u, a, b⟩ := v.2.1.1.1.2.1.1 g
  have b : sSp (aS A) g = n2 u := b
  have e : snS A g = u := by unfold snS; rw [b, n2_nat (by omega)]
  rw [e]
  exact ⟨by omega, b⟩
theorem snM_6 {A : St} (hK : KOK (aK A)) {m : Nat} (h : pcF 32 m ≤ 6) : snM A (n2 m) ≤ 6 := by
  have h30 := hK.n30
  unfold snM
  rw [gl_pc m _ (by omega)]
  exact Nat.le_trans (pc_le (by omega)) h
theorem find_c {y : Lay} (hy : LY y) {A : St} {M : Mem} (h : CR A M) (v : VAL A) {m : Nat} (hm : m < 2 ^ kn (aK A)) (h6 : pcF 32 m ≤ 6) : wp (f_X7_find y 65 (n2 m) M) (fun o => Eqx [65, 66, 67, 68] M o.2 ∧ if snM A (n2 m) ≤ kg (aK A) then o.1 = 1 ∧ o.2.1 65 4 = n2 (snM A (n2 m)) ∧ (∀ j, j < snM A (n2 m) → o.2.1 66 j = (gl (n2 m) (kn (aK A))).1 j) ∧ o.2.1 65 5 = n2 (snL A (n2 m)) ∧ ∀ j, j < snM A (n2 m) → o.2.1 68 j = n2 (snW A (n2 m) j) else o.1 = 0) := by
  have hK := v.1
  have h30 := hK.n30
  have hg6 : kg (aK A) ≤ 6 := hK.2.1.2.2
  have e30 : gl (n2 m) 30 = gl (n2 m) (kn (aK A)) := by
    have e := gl_end (x := n2 m) (n := kn (aK A)) (fun c h1 h2 => hi_0 hm h1 (by omega)) (30 - kn (aK A)) (by omega)
    rw [← e]
    congr 1
    omega
  have hM6 := snM_6 hK h6
  unfold f_X7_find
  rw [gK_t (k_65 hy)]
  refine wp_lt ?_
  rw [wI_sr]
  refine wp_for 30 (fun i N => Eqx [65, 66, 67, 68] M N ∧ N.1 65 4 = n2 (gl (n2 m) i).2 ∧ ∀ j, j < (gl (n2 m) i).2 → N.1 66 j = (gl (n2 m) i).1 j) (by decide) rfl (Nat.zero_le _) ⟨(Eqx.refl _ _).sr (by decide), by rw [sr_ap, up_eq]; rfl, fun j hj => absurd hj (Nat.not_lt_zero j)⟩ ?_ ?_
  · intro f i N hi hI hk
    obtain ⟨i1, i2, i3⟩ := hI
    refine wp_brf (by rw [show (30 : Int32) = n2 30 from rfl, n2_le (by decide) (by omega)]; omega) (wp_jn ?_)
    by_cases q : bt (n2 m) i = 1
    · have hle := gl_mono (n2 m) (i + 1) (30 - (i + 1))
      rw [show i + 1 + (30 - (i + 1)) = 30 by omega, e30] at hle
      have hle : (gl (n2 m) (i + 1)).2 ≤ snM A (n2 m) := hle
      have e1 : (gl (n2 m) (i + 1)).2 = (gl (n2 m) i).2 + 1 := by rw [gl_y q]
      have e2 : (gl (n2 m) (i + 1)).1 = up (gl (n2 m) i).1 (gl (n2 m) i).2 (n2 i) := by rw [gl_y q]
      refine wp_brf (by show ¬ bt (n2 m) i = 0; rw [q]; decide) (wp_brf (by rw [i2, show (6 : Int32) = n2 6 from rfl, n2_le (by decide) (by omega)]; omega) ?_)
      rw [r_65_0 hy, gN_t (by decide), i2, gA_n (k_66 hy) (by omega) (by omega), n2_nat (by omega)]
      refine wp_lt (wp_lt (wp_lt ?_))
      rw [wI_sr, wI_sr, sr_ne (show ¬ 65 = 66 by decide), i2, n2_s, n2_s]
      refine hk _ ⟨(i1.sr (by decide)).sr (by decide), by rw [sr_ap, up_eq, e1], fun j hj => ?_⟩
      rw [sr_ne (by decide), sr_ap, e2]
      by_cases ej : j = (gl (n2 m) i).2
      · rw [ej, up_eq, up_eq]
      · rw [up_ne ej, up_ne ej]; exact i3 j (by omega)
    · refine wp_brt (bt_0n q) (wp_lt ?_)
      rw [n2_s]
      refine hk N ⟨i1, by rw [gl_n q]; exact i2, fun j hj => ?_⟩
      rw [gl_n q] at hj ⊢
      exact i3 j hj
  · intro f N hI
    obtain ⟨i1, i2, i3⟩ := hI
    rw [e30] at i2 i3
    have i2 : N.1 65 4 = n2 (snM A (n2 m)) := i2
    have hC := h.off i1 (by decide)
    refine wp_brt rfl ?_
    rw [r_65_3 hy, gN_t (by decide), gK_t (k_37 hy), r_37_0 hy, gN_t (by decide), gK_t (k_4 hy), i2, hC.1.1.2.2.2.2.1]
    refine wp_br (fun q => ?_) (fun q => ?_)
    · rw [n2_le (by omega) (by omega)] at q
      refine wp_lt ?_
      rw [wI_sr]
      have hg := hC.1.geo hK
      have hs := hC.v
      have hFS : FS (snM A (n2 m)) (snG A (n2 m)) (kw (aK A)) (kh (aK A)) (kg (aK A)) (snS A) (sr N 65 (up (N.1 65) 5 1000000)) := by
        refine ⟨⟨?_, fun j hj => ?_⟩, hg, hC.1.1.2.2.2.2.1, fun g _ => ?_⟩
        · rw [sr_ap, up_ne (by decide)]; exact i2
        · rw [sr_ne (by decide), i3 j hj]; exact (snG_v A hK (n2 m) j).2
        · rw [sr_ne (by decide), hs.1.2.1]; exact (snS_v v g).2
      have z0 : tkc (kg (aK A)) 0 = 0 := by
        have : ∀ k, k ≤ 32 → tkc k 0 = 0 := by
          intro k
          induction k with
          | zero => intro _; rfl
          | succ k ih => intro hk; rw [tkc_s, if_neg (bt_0 (by omega)), ih (by omega)]
        exact this _ (by omega)
      have fc := fill_c hy hM6 hg6 (fun i => (snG_v A hK (n2 m) i).1) (fun g => (snS_v v g).1) hK.1.1.2 (snM A (n2 m)) 0 0 12 0 1000000 _ (Nat.zero_add _) (by omega) (by rw [z0]; omega) (Nat.le_refl _) hFS (Nat.le_refl _) (by rw [sr_ap, up_eq]; rfl)
      refine wp_c0 _ fc (fun r N2 q2 => wp_some ?_)
      obtain ⟨⟨x1, x2, x3⟩, x4⟩ := q2
      have x1 : Eqx [65, 67, 68] _ N2 := x1
      have hL := Lf_lt hg6 (c := snC A (n2 m)) (fun i g _ => dist_lt (snS_v v g).1 (snG_v A hK (n2 m) i).1 hK.1.1.2) (snM A (n2 m)) 0 0 (by rw [z0]; omega)
      have hL2 : snL A (n2 m) ≤ 128 * snM A (n2 m) := hL
      refine ⟨i1.trans (((Eqx.refl _ _).sr (by decide)).trans (x1.mono (by decide))), ?_⟩
      rw [if_pos q]
      rcases x4 with ⟨l1, l2, l3, l4⟩ | ⟨l1, -, -⟩
      · refine ⟨rfl, ?_, fun j hj => ?_, ?_, fun j hj => ?_⟩
        · rw [x2 4 (by decide), sr_ap, up_ne (by decide)]; exact i2
        · rw [x1.2 66 (by decide), sr_ne (by decide)]; exact i3 j hj
        · rw [l2, Nat.zero_add]; rfl
        · have := l4 j hj
          rw [Nat.zero_add] at this
          exact this
      · exfalso
        refine l1 ?_
        show 0 + snL A (n2 m) < 1000000
        omega
    · rw [n2_le (by omega) (by omega)] at q
      refine wp_some ⟨i1, ?_⟩
      rw [if_neg q]
theorem girlFor_c {y : Lay} (hy : LY y) {A : St} {M : Mem} {x cell : Int32} (hM6 : snM A x ≤ 6) (e4 : M.1 65 4 = n2 (snM A x)) (eg : ∀ j, j < snM A x → M.1 66 j = (gl x (kn (aK A))).1 j) (eb : ∀ j, j < snM A x → M.1 68 j = n2 (snW A x j)) : f_X7_girlFor y 65 cell M = some (snA A x cell) := by
  refine wp_eq ?_
  unfold f_X7_girlFor
  refine wp_for0 (snM A x) (fun j => snF A x cell j = none) (by show snM A x < 100000; omega) rfl (Nat.zero_le _) rfl ?_ ?_
  · intro f j hj hI hk
    rw [gK_t (k_65 hy), e4]
    refine wp_jn (wp_brf (by rw [n2_le (by omega) (by omega)]; omega) (wp_brf (by rw [show (6 : Int32) = n2 6 from rfl, n2_le (by decide) (by omega)]; omega) ?_))
    rw [r_65_0 hy, gN_t (by decide), gA_n (k_66 hy) (by omega) (by omega), n2_nat (by omega), eg j hj]
    refine wp_br (fun q => ?_) (fun q => wp_lt ?_)
    · rw [r_65_2 hy, gN_t (by decide), gA_n (k_68 hy) (by omega) (by omega), eb j hj]
      refine wp_some ?_
      unfold snA
      have e : snF A x cell (snM A x) = some j := fst_yes hI (by simpa using q) _ hj
      rw [e]
    · rw [n2_s]
      exact hk (fst_no hI (by simpa using q))
  · intro f hI
    rw [gK_t (k_65 hy), e4]
    refine wp_jn (wp_brt (by rw [n2_le (by omega) (by omega)]; exact Nat.le_refl _) (wp_some ?_))
    unfold snA
    rw [hI]
theorem sh31 : ∀ n : Fin 31, ((n2 n.val).toUInt32 &&& Int32.toUInt32 31).toNat % 32 = n.val := by decide +kernel
theorem sent_c {y : Lay} (hy : LY y) {A : St} {M : Mem} (h : CR A M) (v : VAL A) (x cell : Int32) : wp (f_X11_sent y 1 x cell M) (OC A (sentP A x cell) M) := by
  have hK := v.1
  have h30 := hK.n30
  have thr2 : ¬ ((0 ≤ x.toInt ∧ x.toInt < 2 ^ kn (aK A)) ∧ pcF 32 x.toInt.toNat ≤ 6) → wp (some ((2 : Nat), (0 : Int32), M)) (OC A (sentP A x cell) M) := by
    intro q
    unfold sentP
    rw [if_neg q]
    exact OC.thr h (by decide)
  unfold f_X11_sent
  refine wp_jn ?_
  by_cases x0 : x < 0
  · refine wp_brt x0 (thr2 (fun q => ?_))
    rw [i_lt] at x0
    have : (0 : Int32).toInt = 0 := rfl
    omega
  refine wp_brf x0 ?_
  have x0' : 0 ≤ x.toInt := by rw [i_lt] at x0; have : (0 : Int32).toInt = 0 := rfl; omega
  have ex : x = n2 x.toInt.toNat := n2_of x0'
  have hxb := (i_bd x).2
  have hmi : x.toInt = (x.toInt.toNat : Int) := by omega
  have hm31 : x.toInt.toNat < 2147483648 := by omega
  generalize hmm : x.toInt.toNat = m at ex hmi hm31
  have hpw : ((2 : Int) ^ kn (aK A)) = ((2 ^ kn (aK A) : Nat) : Int) := by rw [Int.natCast_pow]; rfl
  rw [gK_t (k_1 hy), r_1_1 hy, gN_t (by decide), gK_t (k_4 hy), cells_4 hy (h.1.geo hK), cp_s]
  have e1 : ((x.toUInt32 >>> ((n2 (kw (aK A) * kh (aK A))).toUInt32 &&& Int32.toUInt32 31)).toInt32) = n2 (m / 2 ^ kn (aK A)) := by
    rw [ex]
    exact sh_n (sh31 ⟨kn (aK A), by omega⟩) (by omega)
  rw [e1]
  have hdl : m / 2 ^ kn (aK A) ≤ m := Nat.div_le_self _ _
  have hpos : 0 < 2 ^ kn (aK A) := Nat.pow_pos (by decide)
  by_cases q1 : m < 2 ^ kn (aK A)
  · refine wp_brt (by rw [Nat.div_eq_of_lt q1]; rfl) ?_
    rw [bitCount_s, cp_s, ex, bcJ_n (by omega)]
    have hp32 := pcF_le 32 m
    by_cases q2 : pcF 32 m ≤ 6
    · refine wp_brt (by rw [show (6 : Int32) = n2 6 from rfl, n2_le (by omega) (by decide)]; exact q2) (wp_jn ?_)
      have ok : (0 ≤ (n2 m).toInt ∧ (n2 m).toInt < 2 ^ kn (aK A)) ∧ pcF 32 (n2 m).toInt.toNat ≤ 6 := by
        rw [n2_int hm31, hpw]
        refine ⟨⟨by omega, by exact_mod_cast q1⟩, ?_⟩
        rw [Int.toNat_natCast]
        exact q2
      have main : (cell = -1 ∨ (inN (kn (aK A)) cell ∧ bt (n2 m) cell.toInt.toNat = 1)) → wp (gN (y.2.1 1 6) (gK y (y.2.1 1 6) (0, 7) (c0 (f_X7_find y (y.2.1 1 6) (n2 m) M) fun (r17 : Int32) (M18 : Mem) => br (r17 = 0) (some (0, ((-2) : Int32), M18)) (jn (fun (v21 : Int32) => some (0, v21, M18)) fun j22 => br (cell = ((-1) : Int32)) (j22 (M18.1 (y.2.1 1 6) 5)) (cp (f_X7_girlFor y (y.2.1 1 6) cell M18) fun (r25 : Int32) => j22 r25))))) (OC A (sentP A (n2 m) cell) M) := by
        intro hcell
        rw [r_1_6 hy, gN_t (by decide), gK_t (k_65 hy)]
        refine wp_c0 _ (find_c hy h v q1 q2) (fun r N hq => ?_)
        obtain ⟨p1, p2⟩ := hq
        have p1 : Eqx [65, 66, 67, 68] M N := p1
        have hN : CR A N := h.off p1 (by decide)
        have kN : kM M N := p1.kM (by decide)
        unfold sentP
        rw [if_pos ok, if_pos hcell]
        by_cases q3 : snM A (n2 m) ≤ kg (aK A)
        · rw [if_pos q3] at p2 ⊢
          obtain ⟨z1, z2, z3, z4, z5⟩ := p2
          have z1 : r = 1 := z1
          rw [z1]
          refine wp_brf (by decide) (wp_jn ?_)
          by_cases q4 : cell = -1
          · rw [if_pos q4]
            refine wp_brt q4 ?_
            have z4 : N.1 65 5 = n2 (snL A (n2 m)) := z4
            rw [z4]
            exact OC.ret hN kN
          · rw [if_neg q4]
            refine wp_brf q4 ?_
            rw [girlFor_c hy (snM_6 hK q2) z2 z3 z5, cp_s]
            exact OC.ret hN kN
        · rw [if_neg q3] at p2 ⊢
          have p2 : r = 0 := p2
          rw [p2]
          exact wp_brt rfl (OC.ret hN kN)
      by_cases q4 : cell = -1
      · exact wp_brt q4 (main (Or.inl q4))
      · refine wp_brf q4 ?_
        have thr1 : ¬ (inN (kn (aK A)) cell ∧ bt (n2 m) cell.toInt.toNat = 1) → wp (some ((1 : Nat), (0 : Int32), M)) (OC A (sentP A (n2 m) cell) M) := by
          intro q
          unfold sentP
          rw [if_pos ok, if_neg (fun z => z.elim q4 q)]
          exact OC.thr h (by decide)
        rcases needCell_s hy (h.1.geo hK) cell with ⟨q5, e5⟩ | ⟨q5, e5⟩
        · rw [e5, cx_s]
          obtain ⟨c1, c2⟩ := inN_n q5
          by_cases q6 : bt (n2 m) cell.toInt.toNat = 1
          · refine wp_brf ?_ (main (Or.inr ⟨q5, q6⟩))
            rw [c1]
            show ¬ bt (n2 m) cell.toInt.toNat = 0
            rw [q6]; decide
          · refine wp_brt ?_ (thr1 (fun z => q6 z.2))
            rw [c1]
            exact bt_0n q6
        · rw [e5]
          exact thr1 (fun z => q5 z.1)
    · refine wp_brf (by rw [show (6 : Int32) = n2 6 from rfl, n2_le (by omega) (by decide)]; exact q2) ?_
      rw [← ex]
      refine thr2 (fun q => q2 ?_)
      rw [← hmm]; exact q.2
  · refine wp_brf ?_ (thr2 (fun q => ?_))
    · rw [show (0 : Int32) = n2 0 from rfl, n2_inj (by omega) (by decide)]
      have : 1 ≤ m / 2 ^ kn (aK A) := (Nat.le_div_iff_mul_le hpos).mpr (by omega)
      omega
    · have q' := q.1.2
      rw [hpw, hmi] at q'
      exact q1 (by exact_mod_cast q')
