/-! ===== skies: that they end well ===== -/
theorem n2_div {v n : Nat} (hv : v < 2147483648) (hn : n < 2147483648) : n2 v / n2 n = n2 (v / n) := by
  have h1 : v / n ≤ v := Nat.div_le_self v n
  have e : (v : Int).tdiv (n : Int) = ((v / n : Nat) : Int) := rfl
  generalize v / n = q at h1 e ⊢
  rw [i_eq, Int32.toInt_div, n2_int hv, n2_int hn, n2_int (by omega), e]
  exact Int.bmod_eq_of_le (by omega) (by omega)
theorem n2_mod {v n : Nat} (hv : v < 2147483648) (hn : n < 2147483648) : n2 v - n2 v / n2 n * n2 n = n2 (v % n) := by
  have h1 : v / n * n ≤ v := Nat.div_mul_le_self v n
  rw [n2_div hv hn, n2_mul, n2_sub h1]
  congr 1
  have := Nat.div_add_mod v n
  rw [Nat.mul_comm] at this
  omega
theorem b15 (z : Int32) : z &&& 32767 = n2 (z.toBitVec.toNat % 32768) := by
  apply Int32.toBitVec_inj.1
  apply BitVec.eq_of_toNat_eq
  show (z.toBitVec &&& 32767#32).toNat = (BitVec.ofNat 32 (z.toBitVec.toNat % 32768)).toNat
  rw [BitVec.toNat_and, BitVec.toNat_ofNat, BitVec.toNat_ofNat]
  have e : 32767 % 2 ^ 32 = 2 ^ 15 - 1 := by decide
  rw [e, Nat.and_two_pow_sub_one_eq_mod]
  omega
theorem CR.off {A : St} {M N : Mem} (h : CR A M) {ps : List Nat} (e : Eqx ps M N) (d : ps.all (fun p => !([1, 2, 3, 4, 5, 6, 7, 9, 10, 30, 31, 32, 33, 34, 35, 36, 37, 38, 41, 42, 44, 45, 46, 47, 48, 49, 50, 51, 52, 55, 56, 59, 62, 63].contains p)) = true) : CR A N := by
  have k : ∀ p, [1, 2, 3, 4, 5, 6, 7, 9, 10, 30, 31, 32, 33, 34, 35, 36, 37, 38, 41, 42, 44, 45, 46, 47, 48, 49, 50, 51, 52, 55, 56, 59, 62, 63].contains p = true → N.1 p = M.1 p := fun p hp => e.2 p (fun hq => by
    have := List.all_eq_true.mp d p hq
    rw [hp] at this
    cases this)
  obtain ⟨h1, h2, h3, h4, h5, h6⟩ := h
  refine ⟨h1.frame (k 4 (by decide)) (k 5 (by decide)) (k 6 (by decide)) (k 7 (by decide)) (k 9 (by decide)) (k 10 (by decide)), CMM.frame h2 (fun p hp => k p ?_), ?_, ?_, ?_, ?_⟩
  · simp only [List.mem_cons, List.not_mem_nil, or_false] at hp
    rcases hp with rfl | rfl | rfl | rfl | rfl | rfl | rfl | rfl | rfl | rfl | rfl <;> rfl
  · unfold ZR at h3 ⊢
    rw [k 52 (by decide), k 55 (by decide), k 56 (by decide), k 59 (by decide), k 62 (by decide), k 63 (by decide)]
    exact h3
  · rw [k 1 (by decide)]
    refine ⟨h4.1, fun q => CMM.frame (h4.2 q) (fun p hp => k p ?_)⟩
    simp only [List.mem_cons, List.not_mem_nil, or_false] at hp
    rcases hp with rfl | rfl | rfl | rfl | rfl | rfl | rfl | rfl | rfl | rfl | rfl <;> rfl
  · unfold CTP at h5 ⊢
    rw [k 2 (by decide), k 3 (by decide)]
    exact h5
  · rw [k 1 (by decide)]; exact h6
theorem draw_c {y : Lay} (hy : LY y) {M : Mem} {n : Nat} (hn : 1 ≤ n) (hn2 : n ≤ 30) : wp (f_X3_draw y 69 (n2 n) M) (fun o => (∃ u, u < n ∧ o.1 = n2 u) ∧ Eqx [69] M o.2) := by
  unfold f_X3_draw
  rw [gK_t (k_69 hy), lT_s, lT_s, jn_s, wI_sr, b15]
  refine wp_brf (by rw [show (0 : Int32) = n2 0 from rfl, n2_le (by omega) (by decide)]; omega) ?_
  have hm : ∀ x, x % 32768 < 2147483648 := fun x => Nat.lt_trans (Nat.mod_lt x (by decide)) (by decide)
  rw [gd_t (by rw [show (0 : Int32) = n2 0 from rfl, n2_inj (by omega) (by decide)]; omega), n2_mod (hm _) (by omega)]
  exact wp_some ⟨⟨_, Nat.mod_lt _ hn, rfl⟩, (Eqx.refl _ _).sr (by decide)⟩
theorem drawOf_m {y : Lay} (hy : LY y) {M : Mem} {n : Nat} (hn : 1 ≤ n) (hn2 : n ≤ 30) : wp (f_X12_drawOf y 73 (n2 n) M) (fun o => (∃ u, u < n ∧ o.1 = n2 u) ∧ ∃ x, o.2 = sr M 73 (up (M.1 73) 54 x)) := by
  unfold f_X12_drawOf
  have hm : ∀ x, x % 32768 < 2147483648 := fun x => Nat.lt_trans (Nat.mod_lt x (by decide)) (by decide)
  rw [gK_t (k_73 hy), lT_s, wI_sr, b15, gd_t (by rw [show (0 : Int32) = n2 0 from rfl, n2_inj (by omega) (by decide)]; omega), n2_mod (hm _) (by omega)]
  exact wp_some ⟨⟨_, Nat.mod_lt _ hn, rfl⟩, _, rfl⟩
theorem u5 {u : Nat} (h : u < 5) : u = 0 ∨ u = 1 ∨ u = 2 ∨ (u = 3 ∨ u = 4) := by omega
theorem drawAhead_c {y : Lay} (hy : LY y) {A : St} {M : Mem} (h : CR A M) (v : VAL A) (hS : SOK (aK A) (skV M 58 59 62 63)) : wp (f_X11_drawAhead y 1 M) (fun o => CR A o.2 ∧ kM M o.2 ∧ SOK (aK A) (skV o.2 58 59 62 63)) := by
  unfold f_X11_drawAhead
  have h30 := v.1.n30
  have hn1 := v.1.n1
  have hg6 := v.1.2.1.2.2
  have z69 : ∀ {N : Mem}, Eqx [69] M N → CR A N ∧ kM M N ∧ SOK (aK A) (skV N 58 59 62 63) := fun {N} e => by
    refine ⟨h.off e (by decide), e.kM (by decide), ?_⟩
    have : skV N 58 59 62 63 = skV M 58 59 62 63 := by
      unfold skV
      rw [e.2 58 (by decide), e.2 59 (by decide), e.2 62 (by decide), e.2 63 (by decide)]
    rw [this]; exact hS
  have step : ∀ {N N' : Mem}, CR A N → kM M N → Eqx [58, 59, 62] N N' → SOK (aK A) (skV N' 58 59 62 63) → wp (some ((0 : Int32), N')) (fun o => CR A o.2 ∧ kM M o.2 ∧ SOK (aK A) (skV o.2 58 59 62 63)) := fun {N N'} n1 n2 e hz => wp_some ⟨n1.trial (e.mono (by decide)) (SOK.zr (s := 58) v.1 hz), n2.trans (e.kM (by decide)), hz⟩
  rw [gK_t (k_1 hy), r_1_7 hy, gN_t (by decide), gK_t (k_69 hy)]
  refine wp_c0 _ (draw_c hy (n := 5) (by decide) (by decide)) (fun r M1 q => ?_)
  obtain ⟨⟨u, hu, rfl⟩, q2⟩ := q
  dsimp only at q2
  obtain ⟨c1, c2, c3⟩ := z69 q2
  refine wp_jn ?_
  rcases u5 hu with rfl | rfl | rfl | hu34
  · refine wp_brf (by decide) (wp_brt (by decide) ?_)
    rw [r_1_5 hy, r_1_1 hy, gN_t (by decide), gN_t (by decide), gK_t (k_4 hy), cells_4 hy (c1.1.geo v.1), cp_s]
    refine wp_c0 _ (draw_c hy (n := kn (aK A)) hn1 h30) (fun r M2 q => ?_)
    obtain ⟨⟨c, hc, rfl⟩, w2⟩ := q
    dsimp only at w2
    obtain ⟨d1, d2, d3⟩ := z69 (q2.trans w2)
    rw [gK_t (k_58 hy), addBlue_58 hy (show c < 30 by omega), c0_s]
    refine step d1 d2 ((Eqx.refl _ _).sr (by decide)) ?_
    exact ⟨BP.add (m := 20) d3.1 hc (by decide), d3.2⟩
  · refine wp_brf (by decide) (wp_brf (by decide) (wp_brt (by decide) ?_))
    rw [r_1_1 hy, gN_t (by decide), gK_t (k_4 hy), c1.1.1.2.2.2.2.1]
    refine wp_br (fun _ => wp_some ⟨c1, c2, c3⟩) (fun z => ?_)
    rw [show (0 : Int32) = n2 0 from rfl, n2_le (by omega) (by decide)] at z
    refine wp_c0 _ (draw_c hy (n := kg (aK A)) (by omega) (by omega)) (fun r M2 q => ?_)
    obtain ⟨⟨g, hg, rfl⟩, w2⟩ := q
    dsimp only at w2
    obtain ⟨d1, d2, d3⟩ := z69 (q2.trans w2)
    rw [r_1_5 hy, gN_t (by decide), cells_4 hy (d1.1.geo v.1), cp_s]
    refine wp_c0 _ (draw_c hy (n := kn (aK A)) hn1 h30) (fun r M3 q => ?_)
    obtain ⟨⟨c, hc, rfl⟩, x2⟩ := q
    dsimp only at x2
    obtain ⟨e1, e2, e3⟩ := z69 ((q2.trans w2).trans x2)
    have g6 : g < 6 := by omega
    unfold f_X8_setSpot
    rw [gK_t (k_58 hy), jn_s, bR_f (n2_n0 (show g < 2147483648 by omega)), bR_f (nle_l (c := 6) (m := 6) rfl g6 (by omega)), gK_t (k_58 hy), r_58_4 hy, gN_t (by decide), gA_n (k_62 hy) g6 (by omega), lT_s, n2_nat (show g < 2147483648 by omega), wI_sr, c0_s]
    refine step e1 e2 ((Eqx.refl _ _).sr (by decide)) ?_
    exact ⟨e3.1, spk_up e3.2.1 g6 hc, e3.2.2⟩
  · refine wp_brf (by decide) (wp_brf (by decide) (wp_brf (by decide) ?_))
    rw [r_1_5 hy, gN_t (by decide), gK_t (k_58 hy)]
    unfold f_X8_addKnobs
    rw [gK_t (k_58 hy), lT_s, c0_s, wI_sr]
    refine step c1 c2 ((Eqx.refl _ _).sr (by decide)) ⟨c3.1, c3.2.1, c3.2.2.1, ?_⟩
    obtain ⟨k, hk, hk2⟩ := c3.2.2.2
    have hk2 : M1.1 58 9 = n2 k := hk2
    show ∃ v, v ≤ 99 ∧ up (M1.1 58) 9 (jmin 99 (M1.1 58 9 + 5)) 9 = n2 v
    rw [up_eq, hk2]
    exact jm99 (m := 5) hk (by decide)
  · refine wp_brt ?_ (wp_some ⟨c1, c2, c3⟩)
    rcases hu34 with rfl | rfl <;> decide
def skiE (n w : Int32) : Nat := if inR 0 2 w then (if inR 0 40 n then 0 else 2) else 1
theorem skies_c {y : Lay} (hy : LY y) {A : St} {M : Mem} (h : CR A M) (v : VAL A) (s n w : Int32) : wp (f_X11_skies y 1 s n w M) (fun o => o.1 = skiE n w ∧ CR A o.2.2 ∧ kM M o.2.2) := by
  unfold f_X11_skies skiE
  rw [gK_t (k_1 hy)]
  rcases needWhat_s (y := y) (M := M) (m := 2) (by decide) w with ⟨q, e⟩ | ⟨q, e⟩
  · have e : f_X11_needWhat y 1 w 2 M = some (0, 0, M) := e
    have qq : inR 0 2 w := ⟨q.1, by have := q.2; omega⟩
    rw [e, cx_s, if_pos qq]
    rcases needWithin_s (y := y) (M := M) (a := 0) (b := 40) (by decide) (by decide) n with ⟨u, e⟩ | ⟨u, e⟩
    · have e : f_X11_needWithin y 1 n 0 40 M = some (0, 0, M) := e
      rw [e, cx_s, if_pos u]
      obtain ⟨u1, -, u3⟩ := inR_n u
      generalize n.toInt.toNat = nn at u1 u3 ⊢
      subst u1
      refine wp_c0 _ (la_c hy h v (d := 0) (by decide)) (fun r M1 q => ?_)
      obtain ⟨q1, q2, T, q3, q5, q4⟩ := q
      dsimp only at q1 q2 q4
      rw [r_1_7 hy, gN_t (by decide), gK_t (k_69 hy), lT_s, wI_sr]
      have hE0 : Eqx [69] M1 (sr M1 69 (up (M1.1 69) 0 s)) := (Eqx.refl _ _).sr (by decide)
      refine wp_for (i0 := 0) nn (fun j z => CR A z ∧ kM M z ∧ SOK (aK A) (skV z 58 59 62 63)) (by have : FUEL = 100000 := rfl; omega) rfl (by omega) ⟨q1.off hE0 (by decide), q2.trans (hE0.kM (by decide)), ?_⟩ ?_ ?_
      · have : skV (sr M1 69 (up (M1.1 69) 0 s)) 58 59 62 63 = skV M1 58 59 62 63 := rfl
        rw [this, q4]
        exact q5
      · intro f j z hj hI hk
        obtain ⟨i1, i2, i3⟩ := hI
        refine wp_brf (by rw [n2_le (by omega) (by omega)]; omega) ?_
        refine wp_c0 _ (drawAhead_c hy i1 v i3) (fun r M2 p => ?_)
        obtain ⟨p1, p2, p3⟩ := p
        dsimp only at p1 p2 p3
        rw [r_1_5 hy, gN_t (by decide), gK_t (k_58 hy)]
        refine wp_c0 _ (tday_c hy p1 v p3) (fun r M3 x => ?_)
        obtain ⟨x1, x2, x3, -⟩ := x
        dsimp only at x1 x2 x3
        rw [lT_s, n2_s]
        exact hk _ ⟨x1, (i2.trans p2).trans x2, by rw [x3]; exact pDay_ok v.1 p3⟩
      · intro f z hI
        obtain ⟨i1, i2, -⟩ := hI
        refine wp_brt (Int32.le_refl _) ?_
        have fin : ∀ r : Int32, wp (some (0, r, z)) (fun o => o.1 = 0 ∧ CR A o.2.2 ∧ kM M o.2.2) := fun r => wp_some ⟨rfl, i1, i2⟩
        rw [r_1_5 hy, r_1_3 hy, gN_t (by decide), gK_t (k_58 hy), gN_t (by decide), gK_t (k_30 hy), r_30_0 hy, gN_t (by decide), gK_t (k_37 hy), gN_t (by decide), gK_t (k_58 hy), gN_t (by decide), gK_t (k_58 hy), allBlue_58 hy, cp_s]
        exact wp_br (fun _ => fin _) (fun _ => wp_br (fun _ => fin _) (fun _ => fin _))
    · have e : f_X11_needWithin y 1 n 0 40 M = some (2, 0, M) := e
      rw [e, if_neg u]
      exact wp_some ⟨rfl, h, kM.refl M⟩
  · have e : f_X11_needWhat y 1 w 2 M = some (1, 0, M) := e
    have qq : ¬ inR 0 2 w := fun z => q ⟨z.1, by have := z.2; omega⟩
    rw [e, if_neg qq]
    exact wp_some ⟨rfl, h, kM.refl M⟩
/-! the model -/
theorem something_m {y : Lay} (hy : LY y) {A : St} {M0 s : Mem} (h0 : MR A M0) (v : VAL A) (hL : LK M0 s) (hS : SOK (aK A) (moV s)) : wp (f_X12_something y 73 s) (fun o => LK M0 o.2 ∧ SOK (aK A) (moV o.2)) := by
  unfold f_X12_something
  have h30 := v.1.n30
  have hn1 := v.1.n1
  have hg6 := v.1.2.1.2.2
  have dr : ∀ {z : Mem} {n : Nat} {β : Type} {k : Int32 → Mem → Option β} {Q : β → Prop}, LK M0 z → SOK (aK A) (moV z) → 1 ≤ n → n ≤ 30 → (∀ u N, u < n → LK M0 N → SOK (aK A) (moV N) → wp (k (n2 u) N) Q) → wp (c0 (f_X12_drawOf y 73 (n2 n) z) k) Q := fun {z n β k Q} zL zS n1 n3 hk => by
    refine wp_c0 _ (drawOf_m hy n1 n3) (fun r N q => ?_)
    obtain ⟨⟨u, hu, rfl⟩, x, hN⟩ := q
    have hN : N = sr z 73 (up (z.1 73) 54 x) := hN
    subst hN
    exact hk u _ hu (zL.step ((Eqx.refl _ _).sr (by decide)) (F73.up (by decide))) zS
  rw [gK_t (k_73 hy)]
  refine dr hL hS (n := 5) (by decide) (by decide) (fun u N hu n1 n3 => ?_)
  have last : ∀ {z : Mem}, LK M0 z → SOK (aK A) (moV z) → wp (br (n2 u = (2 : Int32)) (lt (wI z 73 32 (jmin (99 : Int32) ((z.1 73 32) + (5 : Int32)))) fun (M12 : Mem) => some ((0 : Int32), M12)) (some ((0 : Int32), z))) (fun o => LK M0 o.2 ∧ SOK (aK A) (moV o.2)) := fun {z} zL zS => by
    refine wp_br (fun _ => ?_) (fun _ => wp_some ⟨zL, zS⟩)
    rw [lT_s, wI_sr]
    refine wp_some ⟨zL.step ((Eqx.refl _ _).sr (by decide)) (F73.up (by decide)), zS.1, zS.2.1, zS.2.2.1, ?_⟩
    obtain ⟨k, hk, hk2⟩ := zS.2.2.2
    have hk2 : z.1 73 32 = n2 k := hk2
    show ∃ v, v ≤ 99 ∧ up (z.1 73) 32 (jmin 99 (z.1 73 32 + 5)) 32 = n2 v
    rw [up_eq, hk2]
    exact jm99 (m := 5) hk (by decide)
  have mid : ∀ {z : Mem} {J : Mem → Option (Int32 × Mem)}, LK M0 z → SOK (aK A) (moV z) → (∀ z', LK M0 z' → SOK (aK A) (moV z') → wp (J z') (fun o => LK M0 o.2 ∧ SOK (aK A) (moV o.2))) → wp (br (n2 u = (1 : Int32)) (gN (y.2.1 73 5) (gA y (y.2.1 73 5) 1 (2 : Int32) (br ((z.1 (y.2.1 73 5) (2 : Int32).toNatClampNeg) ≤ 0) (J z) (gA y (y.2.1 73 5) 1 (2 : Int32) (c0 (f_X12_drawOf y 73 (z.1 (y.2.1 73 5) (2 : Int32).toNatClampNeg) z) fun (r20 : Int32) (M21 : Mem) => gN (y.2.1 73 29) (cp (f_X12_cells y 73 M21) fun (r23 : Int32) => c0 (f_X12_drawOf y 73 r23 M21) fun (r24 : Int32) (M25 : Mem) => gA y (y.2.1 73 29) 1 r20 (lt (wI M25 (y.2.1 73 29) r20.toNatClampNeg r24) fun (M27 : Mem) => J M27))))))) (J z)) (fun o => LK M0 o.2 ∧ SOK (aK A) (moV o.2)) := fun {z J} zL zS hJ => by
    refine wp_br (fun _ => ?_) (fun _ => hJ z zL zS)
    have hg : z.1 77 2 = n2 (kg (aK A)) := (zL.com h0.1).1.2.2.2.2
    rw [r_73_5 hy, r_73_29 hy, zc2, gN_t (by decide), gA_t (k_77 hy) (by decide), hg]
    refine wp_br (fun _ => hJ z zL zS) (fun w => ?_)
    rw [show (0 : Int32) = n2 0 from rfl, n2_le (by omega) (by decide)] at w
    rw [gA_t (k_77 hy) (by decide)]
    refine dr zL zS (n := kg (aK A)) (by omega) (by omega) (fun g N2 hgg m1 m2 => ?_)
    rw [gN_t (by decide), cellsG hy ((m1.com h0.1).geo v.1), cp_s]
    refine dr m1 m2 (n := kn (aK A)) hn1 h30 (fun c N3 hcc l1 l2 => ?_)
    have g6 : g < 6 := by omega
    rw [gA_n (k_88 hy) g6 (by omega), lT_s, n2_nat (show g < 2147483648 by omega), wI_sr]
    refine hJ _ (l1.step ((Eqx.refl _ _).sr (by decide)) (F73.row (sr_ne (by decide)))) ?_
    exact ⟨l2.1, spk_up l2.2.1 g6 hcc, l2.2.2⟩
  refine wp_jn (wp_br (fun _ => ?_) (fun _ => ?_))
  · rw [cellsG hy ((n1.com h0.1).geo v.1), cp_s]
    refine dr n1 n3 (n := kn (aK A)) hn1 h30 (fun c N2 hcc m1 m2 => ?_)
    rw [dye_s hy (show c < 30 by omega) m2.1.2, c0_s]
    refine wp_jn (mid (m1.step ((Eqx.refl _ _).sr (by decide)) (F73.row (sr_ne (by decide)))) ?_ (fun z' a b => wp_jn (last a b)))
    exact ⟨BP.add (m := 20) m2.1 hcc (by decide), m2.2⟩
  · exact wp_jn (mid n1 n3 (fun z' a b => wp_jn (last a b)))
theorem skies_m {y : Lay} (hy : LY y) {A : St} {M : Mem} (h : MR A M) (v : VAL A) (s n w : Int32) : wp (f_X12_skies y 73 s n w M) (fun o => o.2.1 73 4 = n2 (skiE n w) ∧ MR A o.2 ∧ kC M o.2) := by
  unfold f_X12_skies
  rw [gK_t (k_73 hy)]
  refine OM.start hy h (fun M0 h0 g0 hc0 => ?_)
  have hS0 := h0.sok v
  have fl : ∀ {e : Nat} {k : Int32}, k = n2 e → e ≠ 0 → skiE n w = e → wp (c0 (f_X12_fail y 73 k M0) fun (r : Int32) (M' : Mem) => some (r, M')) (fun o => o.2.1 73 4 = n2 (skiE n w) ∧ MR A o.2 ∧ kC M o.2) := fun {e k} hk he hh => by
    refine wp_mono (OM.fail (r := 0) hy hk he h0 g0) (fun o p => ?_)
    obtain ⟨p1, -, p2, p3⟩ := p
    rw [hh]
    exact ⟨p1, p2, p3⟩
  rcases isIn_r (y := y) (M := M0) (a := 0) (b := 2) (la := 0) (lb := 2) (by decide) (by decide) w with ⟨q, e⟩ | ⟨q, e⟩
  · rw [e, cp_s]
    refine wp_brf (by decide) ?_
    rcases isIn_r (y := y) (M := M0) (a := 0) (b := 40) (la := 0) (lb := 40) (by decide) (by decide) n with ⟨u, e⟩ | ⟨u, e⟩
    · rw [e, cp_s]
      refine wp_brf (by decide) ?_
      have hE : skiE n w = 0 := by unfold skiE; rw [if_pos q, if_pos u]
      rw [hE]
      obtain ⟨u1, -, u3⟩ := inR_n u
      generalize n.toInt.toNat = nn at u1 u3 ⊢
      subst u1
      rw [r_73_42 hy, gN_t (by decide)]
      refine look_in hy (fun r M1 hL hV => ?_)
      rw [lT_s, wI_sr]
      have hL2 : LK M0 (sr M1 73 (up (M1.1 73) 54 s)) := hL.step ((Eqx.refl _ _).sr (by decide)) (F73.up (by decide))
      have hS2 : SOK (aK A) (moV (sr M1 73 (up (M1.1 73) 54 s))) := by
        have : moV (sr M1 73 (up (M1.1 73) 54 s)) = moV M1 := rfl
        rw [this, hV]; exact hS0
      refine wp_fork (κ := Int32 → Int32 → Mem → Option (Int32 × Mem)) (S := Int32 × Mem) (fun f j z => f z.1 (n2 j) z.2) (fun j z => LK M0 z.2 ∧ SOK (aK A) (moV z.2)) nn (by have : FUEL = 100000 := rfl; omega) (i0 := 0) (s0 := (0, sr M1 73 (up (M1.1 73) 54 s))) (by omega) ⟨hL2, hS2⟩ ?_ ?_
      · intro f j z hj hI hk
        obtain ⟨b, z⟩ := z
        obtain ⟨i1, i2⟩ := hI
        dsimp only at i1 i2 hk ⊢
        refine wp_brf (by rw [n2_le (by omega) (by omega)]; omega) ?_
        refine wp_c0 _ (something_m hy h0 v i1 i2) (fun r M2 p => ?_)
        obtain ⟨p1, p2⟩ := p
        dsimp only at p1 p2
        refine wp_c0 _ (lday_m hy h0 v p1 p2) (fun r M3 x => ?_)
        obtain ⟨x1, x2, -⟩ := x
        dsimp only at x1 x2
        have e5 : M3.1 73 41 = sOv (pDay (aK A) (moV M2)) := by
          have e : M3.1 73 41 = sOv (moV M3) := rfl
          rw [e, x2]
        rw [e5, bitsOv, cp_s, lT_s, lT_s, n2_s]
        exact hk (_, M3) ⟨x1, by rw [x2]; exact pDay_ok v.1 p2⟩
      · intro f z hI
        obtain ⟨b, z⟩ := z
        obtain ⟨i1, i2⟩ := hI
        dsimp only at i1 i2 ⊢
        refine wp_brt (Int32.le_refl _) (wp_jn ?_)
        have fin : ∀ r : Int32, wp (c0 (f_X12_unpack y 73 93 0 z) fun (r22 : Int32) (M23 : Mem) => some (r, M23)) (fun o => o.2.1 73 4 = n2 0 ∧ MR A o.2 ∧ kC M o.2) := fun r => look_out hy h0 v g0 hc0 i1 i2 (fun _ N n1 n2' n3 _ => wp_some ⟨n3, n1, n2'⟩)
        refine wp_br (fun _ => fin _) (fun _ => wp_br (fun _ => ?_) (fun _ => fin _))
        rw [allBlueM hy ((i1.com h0.1).geo v.1), cp_s]
        exact fin _
    · rw [e, cp_s]
      exact wp_brt rfl (fl (e := 2) rfl (by decide) (by unfold skiE; rw [if_pos q, if_neg u]))
  · rw [e, cp_s]
    exact wp_brt rfl (fl (e := 1) rfl (by decide) (by unfold skiE; rw [if_neg q]))
