/-! ===== calls: way, nearest, streak ===== -/
/-- the first of which p holds -/
def fst (p : Nat → Bool) (n : Nat) : Option Nat := it (fun k o => match o with
  | some j => some j
  | none => if p k = true then some k else none) none n
theorem fst_s (p : Nat → Bool) (n : Nat) : fst p (n + 1) = match fst p n with
  | some j => some j
  | none => if p n = true then some n else none := rfl
theorem fst_no {p : Nat → Bool} {n : Nat} (h : fst p n = none) (q : ¬ p n = true) : fst p (n + 1) = none := by
  rw [fst_s, h]; exact if_neg q
theorem fst_yes {p : Nat → Bool} {n : Nat} (h : fst p n = none) (q : p n = true) : ∀ m, n < m → fst p m = some n := by
  intro m
  induction m with
  | zero => intro h; omega
  | succ m ih =>
    intro hm
    rw [fst_s]
    by_cases e : m = n
    · rw [e, h]; exact if_pos q
    · rw [ih (by omega)]
/-! way -/
def wayF (K : KG) (pg v : Int32) : Nat → Int32 → Int32 := fun c z => if bt pg c = 0 then (if bes K c &&& v = 0 then z else z ||| bit c) else z
def wayN (K : KG) (pg v : Int32) : Int32 := it (wayF K pg v) v (kn K)
def wayS (K : KG) (pg : Int32) (a : Nat) (k : Nat) : Int32 := it (fun _ v => wayN K pg v) (bit a) k
def wayQ (K : KG) (pg : Int32) (a b : Nat) : Nat → Bool := fun k => decide (bt (wayS K pg a k) b = 1)
def wayV (K : KG) (pg : Int32) (a b : Nat) : Int32 := if bt pg a = 0 ∧ bt pg b = 0 then enc (fst (wayQ K pg a b) 30) else -1
def wayP (A : St) (a b : Int32) : Nat × Int32 := if inN (kn (aK A)) a ∧ inN (kn (aK A)) b then (0, wayV (aK A) (sPg (aS A)) a.toInt.toNat b.toInt.toNat) else (1, 0)
theorem wayS_s (K : KG) (pg : Int32) (a k : Nat) : wayS K pg a (k + 1) = wayN K pg (wayS K pg a k) := rfl
theorem pgf {M : Mem} {x : Int32} {c : Nat} (h : M.1 37 7 = x) : (if ((M.1 37 7 >>> (n2 c &&& 31)) &&& 1) = 0 then (0 : Int32) else 1) = fl01 x c := by rw [h]; rfl
theorem wayBetween_s {y : Lay} (hy : LY y) {A : St} {M : Mem} (h : CR A M) (v : VAL A) {a b : Nat} (ha : a < kn (aK A)) (hb : b < kn (aK A)) : f_X8_wayBetween y 37 (n2 a) (n2 b) M = some (wayV (aK A) (sPg (aS A)) a b) := by
  unfold f_X8_wayBetween wayV
  have h30 := v.1.n30
  have g := h.1.geo v.1
  simp only [lT_s, jn_s, c0_s, cp_s, cx_s, cx_t, gK_t (k_37 hy), gN_t (r := 37) (by decide), r_37_0 hy, r_37_1 hy, r_37_2 hy, r_37_3 hy, r_37_4 hy, r_37_5 hy, r_37_6 hy, gK_t (k_4 hy), gN_t (r := 4) (by decide), r_4_6 hy, r_4_7 hy, r_4_8 hy, isPegged_g (k_37 hy), pgf h.v.2.1, cells_4 hy g]
  rcases bt01 (sPg (aS A)) a with pa | pa
  · rw [fl01_0 pa, bR_t rfl]
    rcases bt01 (sPg (aS A)) b with pb | pb
    · rw [fl01_0 pb, bR_t rfl, if_pos ⟨pa, pb⟩]
      have e0 : (1 : Int32) <<< (n2 a &&& 31) = bit a := rfl
      rw [e0]
      refine wp_eq ?_
      refine wp_for2 (i0 := 0) 30 (fun i z => z = wayS (aK A) (sPg (aS A)) a i ∧ fst (wayQ (aK A) (sPg (aS A)) a b) i = none) (by decide) rfl (by omega) ⟨rfl, rfl⟩ ?_ ?_
      · intro f i z hi hI hk
        obtain ⟨rfl, hn⟩ := hI
        refine wp_brf (nle_l (m := 30) rfl hi (by omega)) ?_
        have e1 : (wayS (aK A) (sPg (aS A)) a i >>> (n2 b &&& 31)) &&& 1 = bt (wayS (aK A) (sPg (aS A)) a i) b := rfl
        rw [e1]
        refine wp_br (fun q => ?_) (fun q => ?_)
        · have hn' := fst_no hn (show ¬ wayQ (aK A) (sPg (aS A)) a b i = true from fun z => by
            have := of_decide_eq_true z
            rw [q] at this
            exact absurd this (by decide))
          rw [wayS_s] at hk
          generalize wayS (aK A) (sPg (aS A)) a i = z at hk ⊢
          refine wp_for2 (i0 := 0) (kn (aK A)) (fun c w => w = it (wayF (aK A) (sPg (aS A)) z) z c) (by have : FUEL = 100000 := rfl; omega) rfl (by omega) rfl ?_ ?_
          · intro f2 c w hc hJ hk2
            subst hJ
            refine wp_brf (by show ¬ n2 (kn (aK A)) ≤ n2 c; rw [n2_le (by omega) (by omega)]; omega) ?_
            rw [besideBits_4 hy (show c < 30 by omega), h.1.be v.1 hc, pgf h.v.2.1]
            have hS : it (wayF (aK A) (sPg (aS A)) z) z (c + 1) = wayF (aK A) (sPg (aS A)) z c (it (wayF (aK A) (sPg (aS A)) z) z c) := rfl
            rw [hS] at hk2
            generalize it (wayF (aK A) (sPg (aS A)) z) z c = w at hk2 ⊢
            unfold wayF at hk2
            rcases bt01 (sPg (aS A)) c with pc | pc
            · rw [fl01_0 pc]
              rw [if_pos pc] at hk2
              refine wp_brt rfl ?_
              rw [cp_s]
              refine wp_br (fun q => ?_) (fun q => ?_)
              · rw [if_pos q] at hk2
                rw [n2_s]; exact hk2 _ rfl
              · rw [if_neg q] at hk2
                rw [n2_s]; exact hk2 _ rfl
            · rw [fl01_1 pc]
              rw [if_neg (by rw [pc]; decide)] at hk2
              refine wp_brf (by decide) ?_
              rw [n2_s]; exact hk2 _ rfl
          · intro f2 w hJ
            subst hJ
            refine wp_brt (Int32.le_refl _) ?_
            rw [n2_s]
            exact hk _ ⟨rfl, hn'⟩
        · refine wp_some ?_
          rw [fst_yes hn (decide_eq_true (bt_ne.mp q)) 30 hi]
          rfl
      · intro f z hI
        obtain ⟨rfl, hn⟩ := hI
        refine wp_brt (by decide) (wp_some ?_)
        rw [hn]; rfl
    · rw [fl01_1 pb, bR_f (by decide), if_neg (fun z => by rw [pb] at z; exact absurd z.2 (by decide))]
  · rw [fl01_1 pa, bR_f (by decide), if_neg (fun z => by rw [pa] at z; exact absurd z.1 (by decide))]
theorem way_c {y : Lay} (hy : LY y) {A : St} {M : Mem} (h : CR A M) (v : VAL A) (a b : Int32) : wp (f_X11_way y 1 a b M) (OC A (wayP A a b) M) := by
  unfold f_X11_way wayP
  rw [gK_t (k_1 hy)]
  rcases needCell_s hy (h.1.geo v.1) a with ⟨q, e⟩ | ⟨q, e⟩
  · rcases needCell_s hy (h.1.geo v.1) b with ⟨q', e'⟩ | ⟨q', e'⟩
    · have qq : inN (kn (aK A)) a ∧ inN (kn (aK A)) b := ⟨q, q'⟩
      rw [e, cx_s, e', cx_s, if_pos qq]
      clear qq
      obtain ⟨e1, e2⟩ := inN_n q
      obtain ⟨e3, e4⟩ := inN_n q'
      generalize a.toInt.toNat = aa at e1 e2 ⊢
      generalize b.toInt.toNat = bb at e3 e4 ⊢
      subst e1 e3
      simp only [lT_s, jn_s, c0_s, cp_s, cx_s, cx_t, gK_t (k_1 hy), gN_t (r := 1) (by decide), r_1_0 hy, r_1_1 hy, r_1_2 hy, r_1_3 hy, r_1_4 hy, r_1_5 hy, r_1_6 hy, r_1_7 hy, r_1_8 hy, r_1_9 hy, r_1_10 hy, gK_t (k_30 hy), gN_t (r := 30) (by decide), r_30_0 hy, r_30_1 hy, r_30_2 hy, r_30_3 hy, r_30_4 hy, r_30_5 hy, gK_t (k_37 hy), gN_t (r := 37) (by decide), r_37_0 hy, r_37_1 hy, r_37_2 hy, r_37_3 hy, r_37_4 hy, r_37_5 hy, r_37_6 hy, wayBetween_s hy h v e2 e4]
      exact OC.ret h (kM.refl M)
    · rw [e, cx_s, e', if_neg (fun z => q' z.2)]
      exact OC.thr h (by decide)
  · rw [e, if_neg (fun z => q z.1)]
    exact OC.thr h (by decide)
/-- the model's sets are the class's -/
theorem wayN_bt {K : KG} (hK : KOK K) {pg v : Int32} {i : Nat} (hi : i < 32) : bt (wayN K pg v) i = 1 ↔ (bt v i = 1 ∨ (i < kn K ∧ bt pg i = 0 ∧ ¬ bes K i &&& v = 0)) := by
  have h30 := hK.n30
  have key : ∀ n, n ≤ 30 → (bt (it (wayF K pg v) v n) i = 1 ↔ (bt v i = 1 ∨ (i < n ∧ bt pg i = 0 ∧ ¬ bes K i &&& v = 0))) := by
    intro n
    induction n with
    | zero => intro _; exact ⟨fun q => Or.inl q, fun q => by rcases q with q | q; exact q; exact absurd q.1 (Nat.not_lt_zero _)⟩
    | succ n ih =>
      intro hn
      have hi2 := ih (by omega)
      show bt (wayF K pg v n (it (wayF K pg v) v n)) i = 1 ↔ _
      unfold wayF
      unfold wayF at hi2
      by_cases q1 : bt pg n = 0
      · rw [if_pos q1]
        by_cases q2 : bes K n &&& v = 0
        · rw [if_pos q2, hi2]
          constructor
          · intro z; rcases z with z | z
            · exact Or.inl z
            · exact Or.inr ⟨by omega, z.2⟩
          · intro z; rcases z with z | z
            · exact Or.inl z
            · by_cases e : i = n
              · rw [e] at z; exact absurd q2 z.2.2
              · exact Or.inr ⟨by omega, z.2⟩
        · rw [if_neg q2, bt_or hi, hi2, bt_b (by omega) hi]
          constructor
          · intro z; rcases z with (z | z) | z
            · exact Or.inl z
            · exact Or.inr ⟨by omega, z.2⟩
            · rw [z]; exact Or.inr ⟨by omega, q1, q2⟩
          · intro z; rcases z with z | z
            · exact Or.inl (Or.inl z)
            · by_cases e : i = n
              · exact Or.inr e
              · exact Or.inl (Or.inr ⟨by omega, z.2⟩)
      · rw [if_neg q1, hi2]
        constructor
        · intro z; rcases z with z | z
          · exact Or.inl z
          · exact Or.inr ⟨by omega, z.2⟩
        · intro z; rcases z with z | z
          · exact Or.inl z
          · by_cases e : i = n
            · rw [e] at z; exact absurd z.2.1 q1
            · exact Or.inr ⟨by omega, z.2⟩
  exact key _ h30
theorem and_ne {x v : Int32} : (¬ x &&& v = 0) ↔ ∃ j, j < 32 ∧ bt x j = 1 ∧ bt v j = 1 := by
  constructor
  · intro h
    by_cases q : ∃ j, j < 32 ∧ bt x j = 1 ∧ bt v j = 1
    · exact q
    · exact absurd (bt_ext (fun i hi => ⟨fun z => absurd ⟨i, hi, (bt_and hi).mp z⟩ q, fun z => absurd z (bt_0 hi)⟩)) h
  · intro ⟨j, hj, h1, h2⟩ h
    have : bt (x &&& v) j = 1 := (bt_and hj).mpr ⟨h1, h2⟩
    rw [h] at this
    exact bt_0 hj this
/-- a set of cells without pegs -/
def WOK (K : KG) (pg v : Int32) : Prop := ∀ i, i < 32 → bt v i = 1 → i < kn K ∧ ¬ bt pg i = 1
theorem wayN_ok {K : KG} (hK : KOK K) {pg v : Int32} (h : WOK K pg v) : WOK K pg (wayN K pg v) := fun i hi q => by
  rcases (wayN_bt hK hi).mp q with z | z
  · exact h i hi z
  · exact ⟨z.1, by rw [z.2.1]; decide⟩
theorem not_bt {x : Int32} {i : Nat} (hi : i < 32) : bt (x ^^^ -1) i = 1 ↔ ¬ bt x i = 1 := by
  have hm := bt_m1 ⟨i, hi⟩
  dsimp only at hm
  rw [bt_xor hi, hm]
  constructor
  · intro z q; exact z ⟨fun _ => rfl, fun _ => q⟩
  · intro z q; exact z (q.mpr rfl)
theorem wayM_step {K : KG} (hK : KOK K) {pg v w : Int32} (h : WOK K pg v) (hw : ∀ i, i < 32 → (bt w i = 1 ↔ (bt v i = 1 ∨ ∃ c, c < kn K ∧ bt v c = 1 ∧ bt (bes K c) i = 1))) : w &&& (pg ^^^ -1) = wayN K pg v := by
  refine bt_ext (fun i hi => ?_)
  have h30 := hK.n30
  rw [bt_and hi, not_bt hi, hw i hi, wayN_bt hK hi, and_ne]
  constructor
  · intro ⟨z, p⟩
    rcases z with z | ⟨c, c1, c2, c3⟩
    · exact Or.inl z
    · have hin : i < kn K := by
        by_cases q : i < kn K
        · exact q
        · unfold bes at c3
          exact absurd c3 (bes_0 _ _ _ (by omega) i (by omega) hi)
      refine Or.inr ⟨hin, ?_, c, by omega, (bes_c hK c1 hin).mp c3, c2⟩
      rcases bt01 pg i with q | q
      · exact q
      · exact absurd q p
  · intro z
    rcases z with z | ⟨z1, z2, j, j1, j2, j3⟩
    · exact ⟨Or.inl z, (h i hi z).2⟩
    · obtain ⟨l1, l2⟩ := h j j1 j3
      exact ⟨Or.inr ⟨j, l1, j3, (bes_c hK z1 l1).mp j2⟩, by rw [z2]; decide⟩
theorem way_m {y : Lay} (hy : LY y) {A : St} {M : Mem} (h : MR A M) (v : VAL A) (a b : Int32) : wp (f_X12_way y 73 a b M) (OM A (wayP A a b) M) := by
  unfold f_X12_way wayP
  have h30 := v.1.n30
  rw [gK_t (k_73 hy)]
  refine OM.start hy h (fun M0 h0 g0 hc => ?_)
  simp only [lT_s, jn_s, c0_s, cp_s, cx_s, cx_t]
  have hth : ¬ (inN (kn (aK A)) a ∧ inN (kn (aK A)) b) → wp (c0 (f_X12_fail y 73 1 M0) fun (r5 : Int32) (M6 : Mem) => some (r5, M6)) (OM A (if inN (kn (aK A)) a ∧ inN (kn (aK A)) b then (0, wayV (aK A) (sPg (aS A)) a.toInt.toNat b.toInt.toNat) else (1, 0)) M) := fun q => by
    rw [if_neg q]
    exact OM.fail hy rfl (by decide) h0 g0
  have g := h0.1.geo v.1
  rcases isCell_s hy g a with ⟨q, e⟩ | ⟨q, e⟩
  · rw [e, cp_s]
    refine wp_brf (by decide) ?_
    rcases isCell_s hy g b with ⟨q', e'⟩ | ⟨q', e'⟩
    · have qq : inN (kn (aK A)) a ∧ inN (kn (aK A)) b := ⟨q, q'⟩
      rw [e', cp_s, if_pos qq]
      clear qq hth
      refine wp_brf (by decide) ?_
      obtain ⟨e1, e2⟩ := inN_n q
      obtain ⟨e3, e4⟩ := inN_n q'
      generalize a.toInt.toNat = aa at e1 e2 ⊢
      generalize b.toInt.toNat = bb at e3 e4 ⊢
      subst e1 e3
      have e2 : aa < kn (aK A) := e2
      have e4 : bb < kn (aK A) := e4
      rw [h0.v.2.1]
      simp only [cellsG hy g]
      have e0 : (1 : Int32) <<< (n2 aa &&& 31) = bit aa := rfl
      rw [e0]
      unfold wayV
      generalize hpg : sPg (aS A) = pg
      rcases bt01 pg aa with pa | pa
      · have ev : bit aa &&& (pg ^^^ -1) = wayS (aK A) pg aa 0 := by
          refine bt_ext (fun i hi => ?_)
          show _ ↔ bt (bit aa) i = 1
          rw [bt_and hi, not_bt hi, bt_b (by omega) hi]
          exact ⟨fun z => z.1, fun z => ⟨z, by rw [z, pa]; decide⟩⟩
        rw [ev]
        refine wp_for2 (i0 := 0) 30 (fun i z => z = wayS (aK A) pg aa i ∧ WOK (aK A) pg z ∧ fst (wayQ (aK A) pg aa bb) i = none) (by decide) rfl (by omega) ⟨rfl, ?_, rfl⟩ ?_ ?_
        · intro i hi z
          have z : bt (bit aa) i = 1 := z
          rw [bt_b (by omega) hi] at z
          rw [z]; exact ⟨e2, by rw [pa]; decide⟩
        · intro f i z hi hI hk
          obtain ⟨rfl, hok, hn⟩ := hI
          refine wp_brf (nle_l (m := 30) rfl hi (by omega)) ?_
          rw [isOf_f, cp_s]
          rcases bt01 (wayS (aK A) pg aa i) bb with q | q
          · rw [fl01_0 q]
            refine wp_brt rfl ?_
            have hn' := fst_no hn (show ¬ wayQ (aK A) pg aa bb i = true from fun z => by
              have := of_decide_eq_true z
              rw [q] at this
              exact absurd this (by decide))
            rw [wayS_s] at hk
            generalize wayS (aK A) pg aa i = z at hk hok ⊢
            refine wp_for2 (i0 := 0) (kn (aK A)) (fun c w => ∀ i, i < 32 → (bt w i = 1 ↔ (bt z i = 1 ∨ ∃ c', c' < c ∧ bt z c' = 1 ∧ bt (bes (aK A) c') i = 1))) (by have : FUEL = 100000 := rfl; omega) rfl (by omega) (fun i hi => ⟨fun u => Or.inl u, fun u => by rcases u with u | ⟨c', u, -⟩; exact u; omega⟩) ?_ ?_
            · intro f2 c w hc hJ hk2
              refine wp_brf (by show ¬ n2 (kn (aK A)) ≤ n2 c; rw [n2_le (by omega) (by omega)]; omega) ?_
              rw [isOf_f, cp_s, besideM hy g (show c < 30 by omega)]
              have eb : besP (kw (aK A)) (kw (aK A) * kh (aK A)) c = bes (aK A) c := rfl
              rw [eb]
              rcases bt01 z c with pc | pc
              · rw [fl01_0 pc]
                refine wp_brt rfl ?_
                rw [or_0, n2_s]
                refine hk2 _ (fun i hi => ?_)
                rw [hJ i hi]
                constructor
                · intro u; rcases u with u | ⟨c', u1, u2⟩
                  · exact Or.inl u
                  · exact Or.inr ⟨c', by omega, u2⟩
                · intro u; rcases u with u | ⟨c', u1, u2⟩
                  · exact Or.inl u
                  · by_cases ec : c' = c
                    · rw [ec, pc] at u2; exact absurd u2.1 (by decide)
                    · exact Or.inr ⟨c', by omega, u2⟩
              · rw [fl01_1 pc]
                refine wp_brf (by decide) ?_
                rw [cp_s, n2_s]
                refine hk2 _ (fun i hi => ?_)
                rw [bt_or hi, hJ i hi]
                constructor
                · intro u; rcases u with (u | ⟨c', u1, u2⟩) | u
                  · exact Or.inl u
                  · exact Or.inr ⟨c', by omega, u2⟩
                  · exact Or.inr ⟨c, by omega, pc, u⟩
                · intro u; rcases u with u | ⟨c', u1, u2⟩
                  · exact Or.inl (Or.inl u)
                  · by_cases ec : c' = c
                    · rw [ec] at u2; exact Or.inr u2.2
                    · exact Or.inl (Or.inr ⟨c', by omega, u2⟩)
            · intro f2 w hJ
              refine wp_brt (Int32.le_refl _) ?_
              rw [n2_s, wayM_step v.1 hok hJ]
              exact hk _ ⟨rfl, wayN_ok v.1 hok, hn'⟩
          · rw [fl01_1 q]
            refine wp_brf (by decide) ?_
            have pb : ¬ bt pg bb = 1 := (hok bb (by omega) q).2
            have pb0 : bt pg bb = 0 := by
              rcases bt01 pg bb with u | u
              · exact u
              · exact absurd u pb
            refine OM.ret' ?_ h0 g0 hc
            rw [if_pos ⟨pa, pb0⟩, fst_yes hn (decide_eq_true q) 30 hi]
            rfl
        · intro f z hI
          obtain ⟨rfl, hok, hn⟩ := hI
          refine wp_brt (by decide) (OM.ret' ?_ h0 g0 hc)
          split
          · rw [hn]; rfl
          · rfl
      · rw [if_neg (fun z => by rw [pa] at z; exact absurd z.1 (by decide))]
        have ev : bit aa &&& (pg ^^^ -1) = 0 := by
          refine bt_ext (fun i hi => ?_)
          rw [bt_and hi, not_bt hi, bt_b (by omega) hi]
          exact ⟨fun z => by rw [z.1] at z; exact absurd pa z.2, fun z => absurd z (bt_0 hi)⟩
        rw [ev]
        refine wp_for2 (i0 := 0) 30 (fun i z => z = 0) (by decide) rfl (by omega) rfl ?_ ?_
        · intro f i z hi hI hk
          subst hI
          refine wp_brf (nle_l (m := 30) rfl hi (by omega)) ?_
          rw [isOf_f, cp_s, fl01_0 (bt_z ⟨bb, by omega⟩)]
          refine wp_brt rfl ?_
          refine wp_for2 (i0 := 0) (kn (aK A)) (fun c w => w = 0) (by have : FUEL = 100000 := rfl; omega) rfl (by omega) rfl ?_ ?_
          · intro f2 c w hc2 hJ hk2
            subst hJ
            refine wp_brf (by show ¬ n2 (kn (aK A)) ≤ n2 c; rw [n2_le (by omega) (by omega)]; omega) ?_
            rw [isOf_f, cp_s, fl01_0 (bt_z ⟨c, by omega⟩)]
            refine wp_brt rfl ?_
            rw [n2_s]
            exact hk2 _ (or_0 0)
          · intro f2 w hJ
            subst hJ
            refine wp_brt (Int32.le_refl _) ?_
            rw [n2_s]
            refine hk _ (bt_ext (fun i hi => ?_))
            rw [bt_and hi]
            exact ⟨fun z => z.1, fun z => absurd z (bt_0 hi)⟩
        · intro f z hI
          exact wp_brt (by decide) (OM.ret h0 g0 hc)
    · rw [e', cp_s]
      exact wp_brt rfl (hth (fun z => q' z.2))
  · rw [e, cp_s]
    exact wp_brt rfl (hth (fun z => q z.1))
/-! nearest -/
def nrF (w : Nat) (sp : Row) (c : Nat) : Nat → Option Nat → Option Nat := fun g o => match o with
  | none => some g
  | some j => if dist w (sp g).toNatClampNeg c < dist w (sp j).toNatClampNeg c then some g else some j
def nrP (K : KG) (sp : Row) (c : Nat) (n : Nat) : Option Nat := it (nrF (kw K) sp c) none n
theorem nrP_s (K : KG) (sp : Row) (c n : Nat) : nrP K sp c (n + 1) = nrF (kw K) sp c n (nrP K sp c n) := rfl
theorem nrP_lt (K : KG) (sp : Row) (c : Nat) : ∀ n j, nrP K sp c n = some j → j < n := by
  intro n
  induction n with
  | zero => intro j h; cases h
  | succ n ih =>
    intro j h
    rw [nrP_s] at h
    unfold nrF at h
    split at h
    · cases h; omega
    · rename_i k hk
      split at h
      · cases h; omega
      · cases h; have := ih _ hk; omega
def nearP (A : St) (c : Int32) : Nat × Int32 := if inN (kn (aK A)) c then (0, enc (nrP (aK A) (sSp (aS A)) c.toInt.toNat (kg (aK A)))) else (1, 0)
def lst (K : KG) (sp : Row) (c : Nat) : Option Nat → Int32
  | none => 1000000
  | some j => n2 (dist (kw K) (sp j).toNatClampNeg c)
theorem nearest_c {y : Lay} (hy : LY y) {A : St} {M : Mem} (h : CR A M) (v : VAL A) (c : Int32) : wp (f_X11_nearest y 1 c M) (OC A (nearP A c) M) := by
  unfold f_X11_nearest nearP
  have hg6 := v.1.2.1.2.2
  have h30 := v.1.n30
  rw [gK_t (k_1 hy)]
  rcases needCell_s hy (h.1.geo v.1) c with ⟨q, e⟩ | ⟨q, e⟩
  · have qq : inN (kn (aK A)) c := q
    rw [e, cx_s, if_pos qq]
    clear qq
    obtain ⟨e1, e2⟩ := inN_n q
    generalize c.toInt.toNat = cc at e1 e2 ⊢
    subst e1
    have e2 : cc < kn (aK A) := e2
    simp only [lT_s, jn_s, c0_s, cp_s, cx_s, cx_t, gK_t (k_1 hy), gN_t (r := 1) (by decide), r_1_0 hy, r_1_1 hy, r_1_2 hy, r_1_3 hy, r_1_4 hy, r_1_5 hy, r_1_6 hy, r_1_7 hy, r_1_8 hy, r_1_9 hy, r_1_10 hy, gK_t (k_4 hy), gN_t (r := 4) (by decide), r_4_6 hy, r_4_7 hy, r_4_8 hy, gK_t (k_30 hy), gN_t (r := 30) (by decide), r_30_0 hy, r_30_1 hy, r_30_2 hy, r_30_3 hy, r_30_4 hy, r_30_5 hy, gK_t (k_37 hy), gN_t (r := 37) (by decide), r_37_0 hy, r_37_1 hy, r_37_2 hy, r_37_3 hy, r_37_4 hy, r_37_5 hy, r_37_6 hy, h.1.1.2.2.2.2.1]
    refine wp_for3 (i0 := 0) (kg (aK A)) (fun i a b => a = enc (nrP (aK A) (sSp (aS A)) cc i) ∧ b = lst (aK A) (sSp (aS A)) cc (nrP (aK A) (sSp (aS A)) cc i)) (by have : FUEL = 100000 := rfl; omega) rfl (by omega) ⟨rfl, rfl⟩ ?_ ?_
    · intro f i a b hi hI hk
      obtain ⟨rfl, rfl⟩ := hI
      refine wp_brf (by rw [n2_le (by omega) (by omega)]; omega) ?_
      obtain ⟨s1, s2⟩ := (h.sok v).2.1.n i h30
      have hv : M.1 41 = sSp (aS A) := h.v.1.2.1
      have s1 : (M.1 41 i).toNatClampNeg < kn (aK A) := s1
      have s2 : M.1 41 i = n2 (M.1 41 i).toNatClampNeg := s2
      rw [hv] at s1 s2
      rw [spotOf_37 hy (show i < 6 by omega), cp_s, hv]
      rw [s2, stepsBetween_4 hy (h.1.geo v.1) (by omega) (by omega), cp_s]
      rw [nrP_s] at hk
      have hd := dist_lt (w := kw (aK A)) (a := (sSp (aS A) i).toNatClampNeg) (b := cc) (by omega) (by omega) v.1.1.1.2
      generalize nrP (aK A) (sSp (aS A)) cc i = o at hk ⊢
      cases o with
      | none =>
        refine wp_brf (by show ¬ (1000000 : Int32) ≤ _; rw [show (1000000 : Int32) = n2 1000000 from rfl, n2_le (by decide) (by omega)]; omega) ?_
        rw [n2_s]
        exact hk _ _ ⟨rfl, rfl⟩
      | some j =>
        obtain ⟨t1, t2⟩ := (h.sok v).2.1.n j h30
        have t1 : (M.1 41 j).toNatClampNeg < kn (aK A) := t1
        rw [hv] at t1
        have hd2 := dist_lt (w := kw (aK A)) (a := (sSp (aS A) j).toNatClampNeg) (b := cc) (by omega) (by omega) v.1.1.1.2
        unfold nrF at hk
        dsimp only at hk
        by_cases w : dist (kw (aK A)) (sSp (aS A) i).toNatClampNeg cc < dist (kw (aK A)) (sSp (aS A) j).toNatClampNeg cc
        · rw [if_pos w] at hk
          refine wp_brf (by show ¬ n2 _ ≤ n2 _; rw [n2_le (by omega) (by omega)]; omega) ?_
          rw [n2_s]
          exact hk _ _ ⟨rfl, rfl⟩
        · rw [if_neg w] at hk
          refine wp_brt (by show n2 _ ≤ n2 _; rw [n2_le (by omega) (by omega)]; omega) ?_
          rw [n2_s]
          exact hk _ _ ⟨rfl, rfl⟩
    · intro f a b hI
      obtain ⟨rfl, rfl⟩ := hI
      exact wp_brt (Int32.le_refl _) (OC.ret h (kM.refl M))
  · have qq : ¬ inN (kn (aK A)) c := q
    rw [e, if_neg qq]
    exact OC.thr h (by decide)
theorem nearest_m {y : Lay} (hy : LY y) {A : St} {M : Mem} (h : MR A M) (v : VAL A) (c : Int32) : wp (f_X12_nearest y 73 c M) (OM A (nearP A c) M) := by
  unfold f_X12_nearest nearP
  have hg6 := v.1.2.1.2.2
  have h30 := v.1.n30
  rw [gK_t (k_73 hy)]
  refine OM.start hy h (fun M0 h0 g0 hc => ?_)
  rcases isCell_s hy (h0.1.geo v.1) c with ⟨q, e⟩ | ⟨q, e⟩
  · have qq : inN (kn (aK A)) c := q
    rw [e, cp_s, if_pos qq]
    clear qq
    refine wp_brf (by decide) ?_
    obtain ⟨e1, e2⟩ := inN_n q
    generalize c.toInt.toNat = cc at e1 e2 ⊢
    subst e1
    have e2 : cc < kn (aK A) := e2
    have hv : M0.1 88 = sSp (aS A) := h0.v.1.2.1
    simp only [lT_s, jn_s, c0_s, cp_s, cx_s, cx_t, gN_t (r := 77) (by decide), gN_t (r := 88) (by decide), r_73_5 hy, r_73_29 hy, zc2, h0.1.1.2.2.2.2, hv]
    refine wp_for2 (i0 := 0) (kg (aK A)) (fun i a => a = enc (nrP (aK A) (sSp (aS A)) cc i)) (by have : FUEL = 100000 := rfl; omega) rfl (by omega) rfl ?_ ?_
    · intro f i a hi hI hk
      subst hI
      rw [gA_t (k_77 hy) (by decide)]
      refine wp_brf (by rw [n2_le (by omega) (by omega)]; omega) ?_
      obtain ⟨s1, s2⟩ := (h0.sok v).2.1.n i h30
      have s1 : (M0.1 88 i).toNatClampNeg < kn (aK A) := s1
      have s2 : M0.1 88 i = n2 (M0.1 88 i).toNatClampNeg := s2
      rw [hv] at s1 s2
      rw [nrP_s] at hk
      have hlt := nrP_lt (aK A) (sSp (aS A)) cc i
      have hd := dist_lt (w := kw (aK A)) (a := (sSp (aS A) i).toNatClampNeg) (b := cc) (by omega) (by omega) v.1.1.1.2
      generalize nrP (aK A) (sSp (aS A)) cc i = o at hk hlt ⊢
      cases o with
      | none =>
        refine wp_brt rfl ?_
        rw [n2_s]
        exact hk _ rfl
      | some j =>
        have hj := hlt j rfl
        refine wp_brf (fun e => by cases (enc_m1 (fun k hk => by have := hlt k hk; omega)).mp e) ?_
        obtain ⟨t1, t2⟩ := (h0.sok v).2.1.n j h30
        have t1 : (M0.1 88 j).toNatClampNeg < kn (aK A) := t1
        have t2 : M0.1 88 j = n2 (M0.1 88 j).toNatClampNeg := t2
        rw [hv] at t1 t2
        have hd2 := dist_lt (w := kw (aK A)) (a := (sSp (aS A) j).toNatClampNeg) (b := cc) (by omega) (by omega) v.1.1.1.2
        unfold nrF at hk
        dsimp only at hk
        show wp (gA y 88 1 (n2 i) (cp (f_X12_farOf y 73 (sSp (aS A) (n2 i).toNatClampNeg) (n2 cc) M0) fun r23 => gA y 88 1 (n2 j) (cp (f_X12_farOf y 73 (sSp (aS A) (n2 j).toNatClampNeg) (n2 cc) M0) fun r25 => br (r25 ≤ r23) (f (n2 j) (n2 i + 1)) (f (n2 i) (n2 i + 1))))) _
        rw [gA_n (k_88 hy) (show i < 6 by omega) (by omega), n2_nat (show i < 2147483648 by omega), s2, farM hy (h0.1.geo v.1) (by omega) (by omega), cp_s, gA_n (k_88 hy) (show j < 6 by omega) (by omega), n2_nat (show j < 2147483648 by omega), t2, farM hy (h0.1.geo v.1) (by omega) (by omega), cp_s]
        by_cases w : dist (kw (aK A)) (sSp (aS A) i).toNatClampNeg cc < dist (kw (aK A)) (sSp (aS A) j).toNatClampNeg cc
        · rw [if_pos w] at hk
          refine wp_brf (by rw [n2_le (by omega) (by omega)]; omega) ?_
          rw [n2_s]
          exact hk _ rfl
        · rw [if_neg w] at hk
          refine wp_brt (by rw [n2_le (by omega) (by omega)]; omega) ?_
          rw [n2_s]
          exact hk _ rfl
    · intro f a hI
      subst hI
      rw [gA_t (k_77 hy) (by decide)]
      exact wp_brt (Int32.le_refl _) (OM.ret h0 g0 hc)
  · have qq : ¬ inN (kn (aK A)) c := q
    rw [e, cp_s, if_neg qq]
    exact wp_brt rfl (OM.fail hy rfl (by decide) h0 g0)
