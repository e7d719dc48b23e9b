/-! ===== calls: toRest, toStand, toSwish, missed ===== -/
def rsS (S : Sk) (x : Int32) : Sk := (sB S, sSp S, sSk S, sPg S, x, sKn S, sMa S, sDy S, 0)
def spS (S : Sk) (sp : Row) : Sk := (sB S, sp, sSk S, sPg S, sRs S, sKn S, sMa S, sDy S, 0)
def unS (K : KG) (S : Sk) : Int32 := unP (sPg S) (sB S) (kn K)
def unN (K : KG) (S : Sk) : Int32 := unS K (pDay K S)
theorem unS_eqo {K : KG} {S T : Sk} (h : vo S = vo T) : unS K S = unS K T := by unfold unS; rw [pg_eqo h, b_eqo h]
theorem unN_eqo {K : KG} {S T : Sk} (h : vo S = vo T) : unN K S = unN K T := by unfold unN; rw [vo_pDay h]
def wS (A : St) (S : Sk) : St := wM A (S, mA (aM A), mN (aM A), mT (aM A))
theorem VAL.wS {A : St} (v : VAL A) {S : Sk} (h : AOK (aK A) S) (hk : sSk S = sSk (aS A)) : VAL (wS A S) := by
  obtain ⟨v1, ⟨v2, v3, v4⟩, v5, v6⟩ := v
  exact ⟨v1, ⟨h, v3, v4⟩, fun q => ⟨(v5 q).1, (v5 q).2.trans hk.symm⟩, v6⟩
theorem aok_rs {K : KG} {S : Sk} (h : AOK K S) (x : Int32) : AOK K (rsS S x) := h
theorem aok_sp {K : KG} {S : Sk} (h : AOK K S) {sp : Row} (hs : SPK (kn K) sp) : AOK K (spS S sp) := ⟨⟨h.1.1, hs, h.1.2.2⟩, h.2⟩
theorem unevenNext_m {y : Lay} (hy : LY y) {A : St} {M : Mem} (h : MR A M) (v : VAL A) (hc : M.1 73 4 = 0) : wp (f_X12_unevenNext y 73 M) (fun o => o.1 = unN (aK A) (aS A) ∧ MR A o.2 ∧ kC M o.2 ∧ o.2.1 73 4 = 0) := by
  unfold f_X12_unevenNext
  simp only [gK_t (k_73 hy), gN_t (r := 73) (by decide), r_73_0 hy, r_73_1 hy, r_73_2 hy, r_73_5 hy, r_73_6 hy, r_73_7 hy, r_73_8 hy, r_73_9 hy, r_73_10 hy, r_73_11 hy, r_73_12 hy, r_73_13 hy, r_73_14 hy, r_73_28 hy, r_73_29 hy, r_73_30 hy, r_73_38 hy, r_73_39 hy, r_73_40 hy, r_73_42 hy, r_73_43 hy, r_73_44 hy, r_73_45 hy, r_73_46 hy, r_73_47 hy, r_73_48 hy, r_73_49 hy, r_73_50 hy, r_73_51 hy, r_73_53 hy, r_73_58 hy, r_73_59 hy, r_73_60 hy, r_73_61 hy, r_73_62 hy, r_73_63 hy, gN_t (r := 93) (by decide)]
  refine look_in hy (fun r M1 hL hV => ?_)
  refine wp_c0 _ (lday_m hy h v hL (by rw [hV]; exact h.sok v)) (fun r M2 p => ?_)
  obtain ⟨q1, q2, -⟩ := p
  dsimp only at q1 q2
  rw [hV] at q2
  rw [unevenM hy ((q1.com h.1).geo v.1), cp_s]
  refine look_out hy h v (kC.refl M) hc q1 (by rw [q2]; exact pDay_ok v.1 (h.sok v)) (fun _ N n1 n2 n3 _ => wp_some ⟨?_, n1, n2, n3⟩)
  have e : unP (M2.1 73 34) (M2.1 87) (kw (aK A) * kh (aK A)) = unS (aK A) (moV M2) := rfl
  show unP (M2.1 73 34) (M2.1 87) (kw (aK A) * kh (aK A)) = _
  rw [e, q2]
  exact unN_eqo h.2.1.1
/-- the class: a day on, if she rests -/
def rsOn (S : Sk) (g : Nat) : Sk := rsS S (sRs S ||| bit g)
def rsOff (S : Sk) (g : Nat) : Sk := rsS S (sRs S &&& (bit g ^^^ -1))
def rsB (S : Sk) (g : Nat) (b : Int32) : Sk := if b = 0 then rsOff S g else rsOn S g
theorem lir_c {y : Lay} (hy : LY y) {A : St} {M : Mem} (h : CR A M) (v : VAL A) (g : Nat) (b : Int32) : wp (f_X11_lookAheadIfResting y 1 (n2 g) b M) (fun o => CR A o.2 ∧ kM M o.2 ∧ skV o.2 58 59 62 63 = pDay (aK A) (rsB (aS A) g b)) := by
  have hS := h.sok v
  have hK := v.1
  unfold f_X11_lookAheadIfResting
  simp only [gK_t (k_1 hy), gN_t (r := 1) (by decide), r_1_0 hy, r_1_1 hy, r_1_2 hy, r_1_3 hy, r_1_4 hy, r_1_5 hy, r_1_6 hy, r_1_7 hy, r_1_8 hy, r_1_9 hy, r_1_10 hy, gK_t (k_30 hy), gN_t (r := 30) (by decide), r_30_0 hy, r_30_1 hy, r_30_2 hy, r_30_3 hy, r_30_4 hy, r_30_5 hy, gK_t (k_37 hy), gN_t (r := 37) (by decide), r_37_0 hy, r_37_1 hy, r_37_2 hy, r_37_3 hy, r_37_4 hy, r_37_5 hy, r_37_6 hy, gK_t (k_58 hy), gN_t (r := 58) (by decide), r_58_0 hy, r_58_1 hy, r_58_2 hy, r_58_3 hy, r_58_4 hy, r_58_5 hy, r_58_6 hy]
  refine wp_c0 _ (copyFrom_58_37 hy h.2.2.1.2 (hS.zr hK)) (fun r M1 h1 => ?_)
  obtain ⟨-, h2, h3, -⟩ := h1
  dsimp only at h2 h3
  have hv : vo (skV M1 58 59 62 63) = vo (aS A) := by rw [h3]; exact h.2.1.1
  have hz1 : SOK (aK A) (skV M1 58 59 62 63) := by rw [h3]; exact hS
  have hM1 : CR A M1 := h.trial (h2.mono (by decide)) (SOK.zr (s := 58) hK hz1)
  have e8 : M1.1 58 8 = sRs (aS A) := rs_eqo hv
  unfold f_X8_setResting
  simp only [lT_s, jn_s, c0_s, cp_s, cx_s, cx_t, gK_t (k_58 hy), gN_t (r := 58) (by decide), r_58_0 hy, r_58_1 hy, r_58_2 hy, r_58_3 hy, r_58_4 hy, r_58_5 hy, r_58_6 hy, wI_sr, e8]
  have fin : ∀ x, x = sRs (rsB (aS A) g b) → wp (c0 (some ((0 : Int32), sr M1 58 (up (M1.1 58) 8 x))) fun (r9 : Int32) (M10 : Mem) => c0 (f_X8_passDay y 58 M10) fun (r11 : Int32) (M12 : Mem) => some ((0 : Int32), M12)) (fun o => CR A o.2 ∧ kM M o.2 ∧ skV o.2 58 59 62 63 = pDay (aK A) (rsB (aS A) g b)) := fun x hx => by
    rw [c0_s]
    have hz2 : SOK (aK A) (skV (sr M1 58 (up (M1.1 58) 8 x)) 58 59 62 63) := hz1
    have hM2 : CR A (sr M1 58 (up (M1.1 58) 8 x)) := hM1.trial ((Eqx.refl _ _).sr (by decide)) (SOK.zr (s := 58) hK hz2)
    refine wp_c0 _ (tday_c hy hM2 v hz2) (fun r M3 q => ?_)
    obtain ⟨w1, w2, w3, -⟩ := q
    dsimp only at w1 w2 w3
    refine wp_some ⟨w1, ((h2.kM (by decide)).trans (kM_sr (kM.refl M1) (by decide))).trans w2, ?_⟩
    show skV M3 58 59 62 63 = _
    rw [w3]
    refine vo_pDay ?_
    have e2 : vo (skV (sr M1 58 (up (M1.1 58) 8 x)) 58 59 62 63) = rsS (skV M1 58 59 62 63) x := rfl
    rw [e2, hx]
    unfold rsB rsOn rsOff
    have eb := b_eqo hv
    have es := sp_eqo hv
    have ek := sk_eqo hv
    have ep := pg_eqo hv
    have en := kn_eqo hv
    have em := ma_eqo hv
    have ed := dy_eqo hv
    unfold rsS
    rw [eb, es, ek, ep, en, em, ed]
    split <;> rfl
  by_cases q : b = 0
  · rw [bR_t q]
    exact fin _ (by unfold rsB; rw [if_pos q]; rfl)
  · rw [bR_f q]
    exact fin _ (by unfold rsB; rw [if_neg q]; rfl)
/-! toRest -/
def trF (K : KG) (S : Sk) : Nat → Int32 × Int32 → Int32 × Int32 := fun g q => if bt (sRs S) g = 0 then (if q.2 ≤ unN K (rsOn S g) then q else (n2 g, unN K (rsOn S g))) else q
def trR (A : St) : Int32 := (it (trF (aK A) (aS A)) (-1, unN (aK A) (aS A)) (kg (aK A))).1
theorem toRest_c {y : Lay} (hy : LY y) {A : St} {M : Mem} (h : CR A M) (v : VAL A) : wp (f_X11_toRest y 1 M) (OD A (trR A) M) := by
  unfold f_X11_toRest
  have hg6 := v.1.2.1.2.2
  rw [gK_t (k_1 hy)]
  refine wp_c0 _ (la_c hy h v (d := 1) (by decide)) (fun r M1 q => ?_)
  obtain ⟨q1, q2, T, q3, q5, q4⟩ := q
  dsimp only at q1 q2 q4
  simp only [lT_s, jn_s, c0_s, cp_s, cx_s, cx_t, gK_t (k_1 hy), gN_t (r := 1) (by decide), r_1_0 hy, r_1_1 hy, r_1_2 hy, r_1_3 hy, r_1_4 hy, r_1_5 hy, r_1_6 hy, r_1_7 hy, r_1_8 hy, r_1_9 hy, r_1_10 hy, gK_t (k_4 hy), gN_t (r := 4) (by decide), r_4_6 hy, r_4_7 hy, r_4_8 hy, gK_t (k_30 hy), gN_t (r := 30) (by decide), r_30_0 hy, r_30_1 hy, r_30_2 hy, r_30_3 hy, r_30_4 hy, r_30_5 hy, gK_t (k_37 hy), gN_t (r := 37) (by decide), r_37_0 hy, r_37_1 hy, r_37_2 hy, r_37_3 hy, r_37_4 hy, r_37_5 hy, r_37_6 hy, gK_t (k_58 hy), gN_t (r := 58) (by decide), r_58_0 hy, r_58_1 hy, r_58_2 hy, r_58_3 hy, r_58_4 hy, r_58_5 hy, r_58_6 hy, uneven_58 hy (q1.1.geo v.1)]
  have e0 : unP (M1.1 58 7) (M1.1 59) (kw (aK A) * kh (aK A)) = unN (aK A) (aS A) := by
    have e : unP (M1.1 58 7) (M1.1 59) (kw (aK A) * kh (aK A)) = unS (aK A) (skV M1 58 59 62 63) := rfl
    rw [e, q4]
    exact unN_eqo q3
  rw [e0]
  refine wp_fork (κ := Int32 → Int32 → Int32 → Mem → Option (Int32 × Mem)) (S := Int32 × Int32 × Mem) (fun f j s => f s.1 s.2.1 (n2 j) s.2.2) (fun j s => CR A s.2.2 ∧ kM M s.2.2 ∧ (s.1, s.2.1) = it (trF (aK A) (aS A)) (-1, unN (aK A) (aS A)) j) (kg (aK A)) (by have : FUEL = 100000 := rfl; omega) (i0 := 0) (s0 := (-1, unN (aK A) (aS A), M1)) (by omega) ⟨q1, q2, rfl⟩ ?_ ?_
  · intro f j s hj hI hk
    obtain ⟨b, l, s⟩ := s
    obtain ⟨i1, i2, i3⟩ := hI
    dsimp only at i1 i2 i3 hk ⊢
    refine wp_brf (by rw [i1.1.1.2.2.2.2.1, n2_le (by omega) (by omega)]; omega) ?_
    have hf : (if ((s.1 37 8 >>> (n2 j &&& 31)) &&& 1) = 0 then (0 : Int32) else 1) = fl01 (sRs (aS A)) j := by rw [i1.v.2.2.1]; rfl
    rw [isResting_g (k_37 hy), cp_s, hf]
    have hS : it (trF (aK A) (aS A)) (-1, unN (aK A) (aS A)) (j + 1) = trF (aK A) (aS A) j (b, l) := by rw [i3]; rfl
    rw [hS] at hk
    unfold trF at hk
    rcases bt01 (sRs (aS A)) j with u | u
    · rw [fl01_0 u]
      rw [if_pos u] at hk
      refine wp_brt rfl ?_
      refine wp_c0 _ (lir_c hy i1 v j 1) (fun r M2 w => ?_)
      obtain ⟨w1, w2, w3⟩ := w
      dsimp only at w1 w2 w3
      rw [uneven_58 hy (w1.1.geo v.1), cp_s]
      have e1 : unP (M2.1 58 7) (M2.1 59) (kw (aK A) * kh (aK A)) = unN (aK A) (rsOn (aS A) j) := by
        have e : unP (M2.1 58 7) (M2.1 59) (kw (aK A) * kh (aK A)) = unS (aK A) (skV M2 58 59 62 63) := rfl
        rw [e, w3]
        rfl
      rw [e1]
      refine wp_br (fun z => ?_) (fun z => ?_)
      · rw [n2_s]
        refine hk (b, l, M2) ⟨w1, i2.trans w2, ?_⟩
        rw [if_pos z]
      · rw [n2_s]
        refine hk (n2 j, unN (aK A) (rsOn (aS A) j), M2) ⟨w1, i2.trans w2, ?_⟩
        rw [if_neg z]
    · rw [fl01_1 u]
      rw [if_neg (by rw [u]; decide)] at hk
      refine wp_brf (by decide) ?_
      rw [n2_s]
      exact hk (b, l, s) ⟨i1, i2, rfl⟩
  · intro f s hI
    obtain ⟨b, l, s⟩ := s
    obtain ⟨i1, i2, i3⟩ := hI
    dsimp only at i1 i2 i3 ⊢
    refine wp_brt (by rw [i1.1.1.2.2.2.2.1]; exact Int32.le_refl _) (wp_some ⟨?_, i1, i2⟩)
    show b = trR A
    unfold trR
    rw [← i3]
/-- the model, with another sky for a while -/
theorem MR.rs {A : St} {M : Mem} (h : MR A M) (x : Int32) : MR (wS A (rsS (aS A) x)) (sr M 73 (up (M.1 73) 35 x)) := by
  refine MR.sky h ((Eqx.refl _ _).sr (by decide)) (F73.up (by decide)) ?_
  have hv := h.v
  show (M.1 87, M.1 88, M.1 85, M.1 73 34, x, M.1 73 32, M.1 73 33, M.1 73 31, (0 : Int32)) = _
  rw [hv.1.1, hv.1.2.1, hv.1.2.2, hv.2.1, hv.2.2.2.1, hv.2.2.2.2.1, hv.2.2.2.2.2]
  rfl
theorem MR_vo {A : St} {M : Mem} {S T : Sk} (h : MR (wS A S) M) (e : vo S = vo T) : MR (wS A T) M := ⟨h.1, ⟨h.2.1.1.trans e, h.2.1.2⟩, h.2.2⟩
theorem MR.back {A : St} {M : Mem} (h : MR (wS A (aS A)) M) : MR A M := h
theorem rs_rs (S : Sk) (x z : Int32) : rsS (rsS S x) z = rsS S z := rfl
theorem rs_self (S : Sk) : vo (rsS S (sRs S)) = vo S := rfl
theorem toRest_m {y : Lay} (hy : LY y) {A : St} {M : Mem} (h : MR A M) (v : VAL A) : wp (f_X12_toRest y 73 M) (OM A (0, trR A) M) := by
  unfold f_X12_toRest
  have hg6 := v.1.2.1.2.2
  rw [gK_t (k_73 hy)]
  refine OM.start hy h (fun M0 h0 g0 hc0 => ?_)
  rw [lT_s]
  refine wp_c0 _ (unevenNext_m hy h0 v hc0) (fun r M1 q => ?_)
  obtain ⟨q1, q2, q3, q4⟩ := q
  dsimp only at q1 q2 q3 q4
  subst q1
  rw [lT_s, q2.v.2.2.1]
  simp only [lT_s, jn_s, c0_s, cp_s, cx_s, cx_t, gN_t (r := 77) (by decide), r_73_5 hy, zc2]
  refine wp_fork (κ := Int32 → Int32 → Int32 → Mem → Option (Int32 × Mem)) (S := Int32 × Int32 × Mem) (fun f j s => f s.1 s.2.1 (n2 j) s.2.2) (fun j s => MR A s.2.2 ∧ (kC M s.2.2 ∧ s.2.2.1 73 4 = 0) ∧ (s.1, s.2.1) = it (trF (aK A) (aS A)) (-1, unN (aK A) (aS A)) j) (kg (aK A)) (by have : FUEL = 100000 := rfl; omega) (i0 := 0) (s0 := (-1, unN (aK A) (aS A), M1)) (by omega) ⟨q2, ⟨g0.trans q3, q4⟩, rfl⟩ ?_ ?_
  · intro f j s hj hI hk
    obtain ⟨b, l, s⟩ := s
    obtain ⟨i1, ⟨i2, i4⟩, i3⟩ := hI
    dsimp only at i1 i2 i3 i4 hk ⊢
    rw [gA_t (k_77 hy) (by decide)]
    refine wp_brf (by rw [i1.1.1.2.2.2.2, n2_le (by omega) (by omega)]; omega) ?_
    rw [isOf_f, cp_s]
    have hS : it (trF (aK A) (aS A)) (-1, unN (aK A) (aS A)) (j + 1) = trF (aK A) (aS A) j (b, l) := by rw [i3]; rfl
    rw [hS] at hk
    unfold trF at hk
    rcases bt01 (sRs (aS A)) j with u | u
    · rw [fl01_0 u]
      rw [if_pos u] at hk
      refine wp_brt rfl ?_
      have eb : (1 : Int32) <<< (n2 j &&& 31) = bit j := rfl
      rw [eb, wI_sr]
      have hA := i1.rs (sRs (aS A) ||| bit j)
      have vA : VAL (wS A (rsS (aS A) (sRs (aS A) ||| bit j))) := v.wS (aok_rs v.2.1.1 _) rfl
      refine wp_c0 _ (unevenNext_m hy hA vA (by rw [sr_ap, up_ne (by decide)]; exact i4)) (fun r M2 w => ?_)
      obtain ⟨w1, w2, w3, w4⟩ := w
      dsimp only at w1 w2 w3 w4
      have w1 : r = unN (aK A) (rsOn (aS A) j) := w1
      subst w1
      rw [wI_sr]
      have hB : MR A (sr M2 73 (up (M2.1 73) 35 (sRs (aS A)))) := w2.rs (sRs (aS A))
      have kB : kC M (sr M2 73 (up (M2.1 73) 35 (sRs (aS A)))) := kC_sr ((i2.trans (kC_sr (kC.refl s) (by decide))).trans w3) (by decide)
      have cB : (sr M2 73 (up (M2.1 73) 35 (sRs (aS A)))).1 73 4 = 0 := by rw [sr_ap, up_ne (by decide)]; exact w4
      generalize sr M2 73 (up (M2.1 73) 35 (sRs (aS A))) = M3 at hB kB cB ⊢
      refine wp_br (fun z => ?_) (fun z => ?_)
      · rw [n2_s]
        refine hk (n2 j, unN (aK A) (rsOn (aS A) j), M3) ⟨hB, ⟨kB, cB⟩, ?_⟩
        rw [if_neg (show ¬ l ≤ unN (aK A) (rsOn (aS A) j) from by rw [i_lt] at z; rw [i_le]; omega)]
      · rw [n2_s]
        refine hk (b, l, M3) ⟨hB, ⟨kB, cB⟩, ?_⟩
        rw [if_pos (show l ≤ unN (aK A) (rsOn (aS A) j) from by rw [i_lt] at z; rw [i_le]; omega)]
    · rw [fl01_1 u]
      rw [if_neg (by rw [u]; decide)] at hk
      refine wp_brf (by decide) ?_
      rw [n2_s]
      exact hk (b, l, s) ⟨i1, ⟨i2, i4⟩, rfl⟩
  · intro f s hI
    obtain ⟨b, l, s⟩ := s
    obtain ⟨i1, ⟨i2, i4⟩, i3⟩ := hI
    dsimp only at i1 i2 i3 i4 ⊢
    rw [gA_t (k_77 hy) (by decide)]
    refine wp_brt (by rw [i1.1.1.2.2.2.2]; exact Int32.le_refl _) (OM.ret' ?_ i1 i2 i4)
    unfold trR
    rw [← i3]
theorem look_outL {y : Lay} (hy : LY y) {A : St} {M M0 s : Mem} (h0 : MR A M0) (v : VAL A) (g0 : kC M M0) (hc : M0.1 73 4 = 0) (hL : LK M0 s) (hS : SOK (aK A) (moV s)) {k : Int32 → Mem → Option (Int32 × Mem)} {Q : Int32 × Mem → Prop} (hk : ∀ r N, MR A N → kC M N → N.1 73 4 = 0 → LK M0 N → wp (k r N) Q) : wp (c0 (f_X12_unpack y 73 93 0 s) k) Q := by
  have hS0 := h0.sok v
  refine wp_c0 _ (unpack_93 hy (f := 0) (by decide) (S := moV M0) hL.2.2 ?_ ?_) (fun r N q => ?_)
  · intro k hk
    exact (hS.b v.1 k hk).trans (hS0.b v.1 k hk).symm
  · intro k hk
    exact (hS.sp k hk).trans (hS0.sp k hk).symm
  · obtain ⟨-, q2, q3, q4⟩ := q
    dsimp only at q2 q3 q4
    have hL2 : LK M0 N := hL.step (q2.mono (by decide)) (F73.un q4)
    refine hk r N (MR.look h0 (hL2.1.mono (by decide)) ?_ hL2.2.1) (g0.trans (hL2.1.kC (by decide))) ?_ hL2
    · rw [q3, hL.1.2 85 (by decide)]; rfl
    · have : N.1 73 4 = M0.1 73 4 := hL2.2.1 4 (by decide)
      rw [this, hc]
/-! missed -/
def allS (S : Sk) : Int32 := it (fun k a => a + sB S k) 0 30
def misP (A : St) (g : Int32) : Nat × Int32 := if inN (kg (aK A)) g then (0, allS (pDay (aK A) (rsOff (aS A) g.toInt.toNat)) - allS (pDay (aK A) (rsOn (aS A) g.toInt.toNat))) else (1, 0)
theorem missed_c {y : Lay} (hy : LY y) {A : St} {M : Mem} (h : CR A M) (v : VAL A) (g : Int32) : wp (f_X11_missed y 1 g M) (OC A (misP A g) M) := by
  unfold f_X11_missed misP
  have hg6 := v.1.2.1.2.2
  rw [gK_t (k_1 hy)]
  rcases needGirl_s hy h.1.1.2.2.2.2.1 hg6 g with ⟨q, e⟩ | ⟨q, e⟩
  · rw [e, cx_s, if_pos q]
    obtain ⟨e1, e2⟩ := inN_n q
    generalize g.toInt.toNat = gg at e1 e2 ⊢
    subst e1
    refine wp_c0 _ (lir_c hy h v gg 1) (fun r M1 w => ?_)
    obtain ⟨w1, w2, w3⟩ := w
    dsimp only at w1 w2 w3
    simp only [gK_t (k_1 hy), gN_t (r := 1) (by decide), r_1_0 hy, r_1_1 hy, r_1_2 hy, r_1_3 hy, r_1_4 hy, r_1_5 hy, r_1_6 hy, r_1_7 hy, r_1_8 hy, r_1_9 hy, r_1_10 hy, gK_t (k_58 hy), gN_t (r := 58) (by decide), r_58_0 hy, r_58_1 hy, r_58_2 hy, r_58_3 hy, r_58_4 hy, r_58_5 hy, r_58_6 hy, allBlue_58 hy, cp_s]
    refine wp_c0 _ (lir_c hy w1 v gg 0) (fun r M2 u => ?_)
    obtain ⟨u1, u2, u3⟩ := u
    dsimp only at u1 u2 u3
    refine OC.ret' ?_ u1 (w2.trans u2)
    have a1 : it (fun k a => a + M1.1 59 k) 0 30 = allS (skV M1 58 59 62 63) := rfl
    have a2 : it (fun k a => a + M2.1 59 k) 0 30 = allS (skV M2 58 59 62 63) := rfl
    rw [a1, a2, w3, u3]
    rfl
  · rw [e, if_neg q]
    exact OC.thr h (by decide)
theorem missed_m {y : Lay} (hy : LY y) {A : St} {M : Mem} (h : MR A M) (v : VAL A) (g : Int32) : wp (f_X12_missed y 73 g M) (OM A (misP A g) M) := by
  unfold f_X12_missed misP
  have hg6 := v.1.2.1.2.2
  rw [gK_t (k_73 hy)]
  refine OM.start hy h (fun M0 h0 g0 hc0 => ?_)
  rcases isGirl_s hy h0.1.1.2.2.2.2 hg6 g with ⟨q, e⟩ | ⟨q, e⟩
  · rw [e, cp_s, if_pos q]
    refine wp_brf (by decide) ?_
    obtain ⟨e1, e2⟩ := inN_n q
    generalize g.toInt.toNat = gg at e1 e2 ⊢
    subst e1
    simp only [gN_t (r := 93) (by decide), r_73_42 hy]
    have hS0 := h0.sok v
    have eb : (1 : Int32) <<< (n2 gg &&& 31) = bit gg := rfl
    refine look_in hy (fun r M1 hL hV => ?_)
    rw [lT_s, wI_sr, eb]
    have r1 : M1.1 73 35 = sRs (aS A) := by
      have e : M1.1 73 35 = sRs (moV M1) := rfl
      rw [e, hV]
      exact rs_eqo h0.2.1.1
    have hv1 : vo (moV M1) = vo (aS A) := by rw [hV]; exact h0.2.1.1
    have key : ∀ (s : Mem) (x : Int32), vo (moV s) = vo (aS A) → vo (moV (sr s 73 (up (s.1 73) 35 x))) = vo (rsS (aS A) x) := fun s x hs => by
      have e2 : vo (moV (sr s 73 (up (s.1 73) 35 x))) = rsS (moV s) x := rfl
      rw [e2]
      unfold rsS
      rw [b_eqo hs, sp_eqo hs, sk_eqo hs, pg_eqo hs, kn_eqo hs, ma_eqo hs, dy_eqo hs]
      rfl
    rw [r1]
    have hL1 : LK M0 (sr M1 73 (up (M1.1 73) 35 (sRs (aS A) &&& (bit gg ^^^ -1)))) := hL.step ((Eqx.refl _ _).sr (by decide)) (F73.up (by decide))
    have hm1 := key M1 (sRs (aS A) &&& (bit gg ^^^ -1)) hv1
    have hS1 : SOK (aK A) (moV (sr M1 73 (up (M1.1 73) 35 (sRs (aS A) &&& (bit gg ^^^ -1))))) := SOK.eqo (S := rsS (aS A) _) v.2.1.1.1 hm1.symm
    refine wp_c0 _ (lday_m hy h0 v hL1 hS1) (fun r M2 p => ?_)
    obtain ⟨q1, q2, -⟩ := p
    dsimp only at q1 q2
    have q2' : moV M2 = pDay (aK A) (rsOff (aS A) gg) := by rw [q2]; exact vo_pDay hm1
    have hS2 : SOK (aK A) (moV M2) := by rw [q2]; exact pDay_ok v.1 hS1
    rw [allBlueM hy ((q1.com h0.1).geo v.1), cp_s]
    have a1 : it (fun k a => a + M2.1 87 k) 0 (kw (aK A) * kh (aK A)) = allS (pDay (aK A) (rsOff (aS A) gg)) := by
      rw [← q2']
      unfold allS
      exact (abs_eq hS2.1.1 v.1.n30).symm
    rw [a1]
    refine look_outL hy h0 v g0 hc0 q1 hS2 (fun _ N n1 n2 n3 nL => ?_)
    have hvN : vo (moV N) = vo (aS A) := n1.2.1.1
    rw [lT_s, wI_sr, n1.v.2.2.1]
    have hL3 : LK M0 (sr N 73 (up (N.1 73) 35 (sRs (aS A) ||| bit gg))) := nL.step ((Eqx.refl _ _).sr (by decide)) (F73.up (by decide))
    have hm3 := key N (sRs (aS A) ||| bit gg) hvN
    have hS3 : SOK (aK A) (moV (sr N 73 (up (N.1 73) 35 (sRs (aS A) ||| bit gg)))) := SOK.eqo (S := rsS (aS A) _) v.2.1.1.1 hm3.symm
    refine wp_c0 _ (lday_m hy h0 v hL3 hS3) (fun r M4 p => ?_)
    obtain ⟨p1, p2, -⟩ := p
    dsimp only at p1 p2
    have p2' : moV M4 = pDay (aK A) (rsOn (aS A) gg) := by rw [p2]; exact vo_pDay hm3
    have hS4 : SOK (aK A) (moV M4) := by rw [p2]; exact pDay_ok v.1 hS3
    rw [allBlueM hy ((p1.com h0.1).geo v.1), cp_s]
    have a2 : it (fun k a => a + M4.1 87 k) 0 (kw (aK A) * kh (aK A)) = allS (pDay (aK A) (rsOn (aS A) gg)) := by
      rw [← p2']
      unfold allS
      exact (abs_eq hS4.1.1 v.1.n30).symm
    rw [a2]
    exact look_out hy h0 v g0 hc0 p1 hS4 (fun _ N2 w1 w2 w3 _ => OM.ret w1 w2 w3)
  · rw [e, cp_s, if_neg q]
    exact wp_brt rfl (OM.fail hy rfl (by decide) h0 g0)
/-! toStand -/
theorem deP_bd {n : Nat} {pg : Int32} {B : Row} (h : BOK n B) (m : Nat) : (unP pg B m).toInt < 1000000 := by
  unfold unP
  split
  · rename_i a b _ _
    obtain ⟨x, x1, x2⟩ := h.1 a
    obtain ⟨z, z1, z2⟩ := h.1 b
    rw [x2, z2, i_sub (by rw [n2_int (by omega), n2_int (by omega)]; omega) (by rw [n2_int (by omega), n2_int (by omega)]; omega), n2_int (by omega), n2_int (by omega)]
    omega
  · decide
def stS (S : Sk) (g c : Nat) : Sk := spS S (up (sSp S) g (n2 c))
def tsF (K : KG) (S : Sk) (g : Nat) : Nat → Nat × Int32 → Nat × Int32 := fun k q => if q.2 ≤ unN K (stS S g (k + 1)) then q else (k + 1, unN K (stS S g (k + 1)))
def tsQ (K : KG) (S : Sk) (g n : Nat) : Nat × Int32 := it (tsF K S g) (0, unN K (stS S g 0)) n
theorem tsQ_s (K : KG) (S : Sk) (g n : Nat) : tsQ K S g (n + 1) = tsF K S g n (tsQ K S g n) := rfl
theorem tsQ_le (K : KG) (S : Sk) (g : Nat) : ∀ n, (tsQ K S g n).1 ≤ n := by
  intro n
  induction n with
  | zero => exact Nat.le_refl 0
  | succ n ih => rw [tsQ_s]; unfold tsF; split; exact Nat.le_succ_of_le ih; exact Nat.le_refl _
def tstP (A : St) (g w : Int32) : Nat × Int32 := if inN (kg (aK A)) g ∧ inR 0 1 w then (0, if w = 0 then n2 (tsQ (aK A) (aS A) g.toInt.toNat (kn (aK A) - 1)).1 else (tsQ (aK A) (aS A) g.toInt.toNat (kn (aK A) - 1)).2) else (1, 0)
theorem aok_st {A : St} (v : VAL A) {g c : Nat} (hg : g < 6) (hc : c < kn (aK A)) : AOK (aK A) (stS (aS A) g c) := aok_sp v.2.1.1 (spk_up v.2.1.1.1.2.1 hg hc)
theorem unN_bd {A : St} (v : VAL A) {S : Sk} (h : SOK (aK A) S) : (unN (aK A) S).toInt < 1000000 := deP_bd (pDay_ok v.1 h).1.1 _
theorem toStand_c {y : Lay} (hy : LY y) {A : St} {M : Mem} (h : CR A M) (v : VAL A) (g w : Int32) : wp (f_X11_toStand y 1 g w M) (OC A (tstP A g w) M) := by
  unfold f_X11_toStand tstP
  have hg6 := v.1.2.1.2.2
  have h30 := v.1.n30
  have hn1 := v.1.n1
  rw [gK_t (k_1 hy)]
  rcases needGirl_s hy h.1.1.2.2.2.2.1 hg6 g with ⟨q, e⟩ | ⟨q, e⟩
  · rcases needWhat_s (y := y) (M := M) (m := 1) (by decide) w with ⟨q', e'⟩ | ⟨q', e'⟩
    · have e' : f_X11_needWhat y 1 w 1 M = some (0, 0, M) := e'
      have qq : inN (kg (aK A)) g ∧ inR 0 1 w := ⟨q, q'.1, by have := q'.2; omega⟩
      rw [e, cx_s, e', cx_s, if_pos qq]
      clear qq
      obtain ⟨e1, e2⟩ := inN_n q
      generalize g.toInt.toNat = gg at e1 e2 ⊢
      subst e1
      have g6 : gg < 6 := by omega
      simp only [lT_s, jn_s, c0_s, cp_s, cx_s, cx_t, gK_t (k_1 hy), gN_t (r := 1) (by decide), r_1_0 hy, r_1_1 hy, r_1_2 hy, r_1_3 hy, r_1_4 hy, r_1_5 hy, r_1_6 hy, r_1_7 hy, r_1_8 hy, r_1_9 hy, r_1_10 hy, gK_t (k_4 hy), gN_t (r := 4) (by decide), r_4_6 hy, r_4_7 hy, r_4_8 hy, gK_t (k_58 hy), gN_t (r := 58) (by decide), r_58_0 hy, r_58_1 hy, r_58_2 hy, r_58_3 hy, r_58_4 hy, r_58_5 hy, r_58_6 hy]
      refine wp_fork (κ := Int32 → Int32 → Int32 → Mem → Option (Nat × Int32 × Mem)) (S := Int32 × Int32 × Mem) (fun f j s => f s.1 s.2.1 (n2 j) s.2.2) (fun j s => CR A s.2.2 ∧ kM M s.2.2 ∧ ((j = 0 ∧ s.1 = 0 ∧ s.2.1 = 1000000) ∨ (0 < j ∧ s.1 = n2 (tsQ (aK A) (aS A) gg (j - 1)).1 ∧ s.2.1 = (tsQ (aK A) (aS A) gg (j - 1)).2))) (kn (aK A)) (by have : FUEL = 100000 := rfl; omega) (i0 := 0) (s0 := (0, 1000000, M)) (by omega) ⟨h, kM.refl M, Or.inl ⟨rfl, rfl, rfl⟩⟩ ?_ ?_
      · intro f j s hj hI hk
        obtain ⟨b, l, s⟩ := s
        obtain ⟨i1, i2, i3⟩ := hI
        dsimp only at i1 i2 i3 hk ⊢
        rw [cells_4 hy (i1.1.geo v.1), cp_s]
        refine wp_brf (by show ¬ n2 (kn (aK A)) ≤ n2 j; rw [n2_le (by omega) (by omega)]; omega) ?_
        refine wp_c0 _ (la_c hy i1 v (d := 0) (by decide)) (fun r M1 p => ?_)
        obtain ⟨q1, q2, T, q3, q5, q4⟩ := p
        dsimp only at q1 q2 q4
        have hv1 : vo (skV M1 58 59 62 63) = vo (aS A) := by rw [q4]; exact q3
        unfold f_X8_setSpot
        simp only [lT_s, jn_s, c0_s, cp_s, cx_s, cx_t, gK_t (k_58 hy), gN_t (r := 58) (by decide), r_58_0 hy, r_58_1 hy, r_58_2 hy, r_58_3 hy, r_58_4 hy, r_58_5 hy, r_58_6 hy, gN_t (r := 62) (by decide), bR_f (n2_n0 (show gg < 2147483648 by omega)), bR_f (nle_l (c := 6) (m := 6) rfl g6 (by omega)), gA_n (k_62 hy) g6 (by omega), n2_nat (show gg < 2147483648 by omega), wI_sr]
        have e62 : M1.1 62 = sSp (aS A) := sp_eqo hv1
        rw [e62]
        have hV2 : vo (skV (sr M1 62 (up (sSp (aS A)) gg (n2 j))) 58 59 62 63) = vo (stS (aS A) gg j) := by
          have e2 : vo (skV (sr M1 62 (up (sSp (aS A)) gg (n2 j))) 58 59 62 63) = spS (skV M1 58 59 62 63) (up (sSp (aS A)) gg (n2 j)) := rfl
          rw [e2]
          unfold spS
          rw [b_eqo hv1, sk_eqo hv1, pg_eqo hv1, rs_eqo hv1, kn_eqo hv1, ma_eqo hv1, dy_eqo hv1]
          rfl
        have hS2 : SOK (aK A) (skV (sr M1 62 (up (sSp (aS A)) gg (n2 j))) 58 59 62 63) := SOK.eqo (aok_st v g6 hj).1 hV2.symm
        have hM2 : CR A (sr M1 62 (up (sSp (aS A)) gg (n2 j))) := q1.trial ((Eqx.refl _ _).sr (by decide)) (SOK.zr (s := 58) v.1 hS2)
        refine wp_c0 _ (tday_c hy hM2 v hS2) (fun r M3 p => ?_)
        obtain ⟨w1, w2, w3, -⟩ := p
        dsimp only at w1 w2 w3
        have k3 : kM M M3 := ((i2.trans q2).trans (kM_sr (kM.refl M1) (by decide))).trans w2
        rw [uneven_58 hy (w1.1.geo v.1), cp_s]
        have e0 : unP (M3.1 58 7) (M3.1 59) (kw (aK A) * kh (aK A)) = unN (aK A) (stS (aS A) gg j) := by
          have e : unP (M3.1 58 7) (M3.1 59) (kw (aK A) * kh (aK A)) = unS (aK A) (skV M3 58 59 62 63) := rfl
          rw [e, w3]
          exact unN_eqo hV2
        rw [e0]
        rcases i3 with ⟨rfl, rfl, rfl⟩ | ⟨j0, rfl, rfl⟩
        · refine wp_brf ?_ ?_
          · have := unN_bd v (aok_st v (g := gg) g6 hj).1
            have z : (1000000 : Int32).toInt = 1000000 := by decide
            rw [i_le, z]
            omega
          · rw [n2_s]
            exact hk (n2 0, unN (aK A) (stS (aS A) gg 0), M3) ⟨w1, k3, Or.inr ⟨by omega, rfl, rfl⟩⟩
        · have hS : tsQ (aK A) (aS A) gg j = tsF (aK A) (aS A) gg (j - 1) (tsQ (aK A) (aS A) gg (j - 1)) := by
            have := tsQ_s (aK A) (aS A) gg (j - 1)
            rw [show j - 1 + 1 = j by omega] at this
            exact this
          unfold tsF at hS
          rw [show j - 1 + 1 = j by omega] at hS
          refine wp_br (fun z => ?_) (fun z => ?_)
          · rw [if_pos z] at hS
            rw [n2_s]
            exact hk (n2 (tsQ (aK A) (aS A) gg (j - 1)).1, (tsQ (aK A) (aS A) gg (j - 1)).2, M3) ⟨w1, k3, Or.inr ⟨by omega, by rw [show j + 1 - 1 = j by omega, hS], by rw [show j + 1 - 1 = j by omega, hS]⟩⟩
          · rw [if_neg z] at hS
            rw [n2_s]
            exact hk (n2 j, unN (aK A) (stS (aS A) gg j), M3) ⟨w1, k3, Or.inr ⟨by omega, by rw [show j + 1 - 1 = j by omega, hS], by rw [show j + 1 - 1 = j by omega, hS]⟩⟩
      · intro f s hI
        obtain ⟨b, l, s⟩ := s
        obtain ⟨i1, i2, i3⟩ := hI
        dsimp only at i1 i2 i3 ⊢
        rw [cells_4 hy (i1.1.geo v.1), cp_s]
        refine wp_brt (Int32.le_refl _) ?_
        rcases i3 with ⟨hz, -⟩ | ⟨-, rfl, rfl⟩
        · omega
        · exact wp_br (fun z => OC.ret' (by rw [if_pos z]) i1 i2) (fun z => OC.ret' (by rw [if_neg z]) i1 i2)
    · have e' : f_X11_needWhat y 1 w 1 M = some (1, 0, M) := e'
      rw [e, cx_s, e', if_neg (fun z => q' ⟨z.2.1, by have := z.2.2; omega⟩)]
      exact OC.thr h (by decide)
  · rw [e, if_neg (fun z => q z.1)]
    exact OC.thr h (by decide)
theorem MR.sp {A : St} {M : Mem} (h : MR A M) (sp : Row) : MR (wS A (spS (aS A) sp)) (sr M 88 sp) := by
  refine MR.sky h ((Eqx.refl _ _).sr (by decide)) (F73.row (sr_ne (by decide))) ?_
  have hv := h.v
  show (M.1 87, sp, M.1 85, M.1 73 34, M.1 73 35, M.1 73 32, M.1 73 33, M.1 73 31, (0 : Int32)) = _
  rw [hv.1.1, hv.1.2.2, hv.2.1, hv.2.2.1, hv.2.2.2.1, hv.2.2.2.2.1, hv.2.2.2.2.2]
  rfl
theorem toStand_m {y : Lay} (hy : LY y) {A : St} {M : Mem} (h : MR A M) (v : VAL A) (g w : Int32) : wp (f_X12_toStand y 73 g w M) (OM A (tstP A g w) M) := by
  unfold f_X12_toStand
  have hg6 := v.1.2.1.2.2
  have h30 := v.1.n30
  have hn1 := v.1.n1
  rw [gK_t (k_73 hy)]
  refine OM.start hy h (fun M0 h0 g0 hc0 => ?_)
  have hth : ¬ (inN (kg (aK A)) g ∧ inR 0 1 w) → wp (c0 (f_X12_fail y 73 1 M0) fun (r5 : Int32) (M6 : Mem) => some (r5, M6)) (OM A (tstP A g w) M) := fun q => by
    have e : tstP A g w = (1, 0) := if_neg q
    rw [e]
    exact OM.fail hy rfl (by decide) h0 g0
  have z0 : (0 : Int32).toInt = 0 := by decide
  have z1 : (1 : Int32).toInt = 1 := by decide
  rcases isGirl_s hy h0.1.1.2.2.2.2 hg6 g with ⟨q, e⟩ | ⟨q, e⟩
  · rw [e, cp_s, jn_s]
    refine wp_brf (by decide) ?_
    refine wp_br (fun q1 => hth (fun z => by rw [i_lt, z0] at q1; have := z.2.1; omega)) (fun q1 => wp_br (fun q2 => ?_) (fun q2 => hth (fun z => by rw [i_le, z1] at q2; have := z.2.2; omega)))
    have qq : inN (kg (aK A)) g ∧ inR 0 1 w := ⟨q, by rw [i_lt, z0] at q1; omega, by rw [i_le, z1] at q2; omega⟩
    have et : tstP A g w = (0, if w = 0 then n2 (tsQ (aK A) (aS A) g.toInt.toNat (kn (aK A) - 1)).1 else (tsQ (aK A) (aS A) g.toInt.toNat (kn (aK A) - 1)).2) := if_pos qq
    rw [et]
    clear qq hth et
    obtain ⟨e1, e2⟩ := inN_n q
    generalize g.toInt.toNat = gg at e1 e2 ⊢
    subst e1
    have g6 : gg < 6 := by omega
    rw [r_73_29 hy, gN_t (by decide), gA_n (k_88 hy) g6 (by omega), lT_s, lT_s, n2_nat (show gg < 2147483648 by omega), h0.v.1.2.1]
    have up2 : ∀ x z, up (up (sSp (aS A)) gg x) gg z = up (sSp (aS A)) gg z := fun x z => by
      funext k; unfold up; split <;> rfl
    have up1 : up (sSp (aS A)) gg (sSp (aS A) gg) = sSp (aS A) := by
      funext k; unfold up; split
      · rename_i q; rw [q]
      · rfl
    refine wp_fork (κ := Int32 → Int32 → Int32 → Mem → Option (Int32 × Mem)) (S := Int32 × Int32 × Mem) (fun f j s => f s.1 s.2.1 (n2 j) s.2.2) (fun j s => (∃ x, MR (wS A (spS (aS A) (up (sSp (aS A)) gg x))) s.2.2) ∧ (kC M s.2.2 ∧ s.2.2.1 73 4 = 0) ∧ ((j = 0 ∧ s.1 = -1 ∧ s.2.1 = 0) ∨ (0 < j ∧ s.1 = n2 (tsQ (aK A) (aS A) gg (j - 1)).1 ∧ s.2.1 = (tsQ (aK A) (aS A) gg (j - 1)).2))) (kn (aK A)) (by have : FUEL = 100000 := rfl; omega) (i0 := 0) (s0 := (-1, 0, M0)) (by omega) ⟨⟨sSp (aS A) gg, by rw [up1]; exact MR_vo (S := aS A) h0 rfl⟩, ⟨g0, hc0⟩, Or.inl ⟨rfl, rfl, rfl⟩⟩ ?_ ?_
    · intro f j s hj hI hk
      obtain ⟨b, l, s⟩ := s
      obtain ⟨⟨x, i1⟩, ⟨i2, i4⟩, i3⟩ := hI
      dsimp only at i1 i2 i3 i4 hk ⊢
      rw [cellsG hy (i1.1.geo v.1), cp_s]
      refine wp_brf (by show ¬ n2 (kn (aK A)) ≤ n2 j; rw [n2_le (by omega) (by omega)]; omega) ?_
      have s88 : s.1 88 = up (sSp (aS A)) gg x := i1.v.1.2.1
      rw [gA_n (k_88 hy) g6 (by omega), lT_s, wI_sr, s88, up2]
      have hB : MR (wS A (stS (aS A) gg j)) (sr s 88 (up (sSp (aS A)) gg (n2 j))) := i1.sp _
      have vB : VAL (wS A (stS (aS A) gg j)) := v.wS (aok_st v g6 hj) rfl
      refine wp_c0 _ (unevenNext_m hy hB vB (by rw [sr_ne (by decide)]; exact i4)) (fun r M3 p => ?_)
      obtain ⟨w1, w2, w3, w4⟩ := p
      dsimp only at w1 w2 w3 w4
      have w1 : r = unN (aK A) (stS (aS A) gg j) := w1
      subst w1
      have k3 : kC M M3 := (i2.trans (kC_sr (kC.refl s) (by decide))).trans w3
      rw [jn_s, jn_s]
      rcases i3 with ⟨rfl, rfl, rfl⟩ | ⟨j0, rfl, rfl⟩
      · refine wp_brt rfl ?_
        show wp (lt (n2 0 + 1) fun v39 => f (n2 0) (unN (aK A) (stS (aS A) gg 0)) v39 M3) _
        rw [lT_s, n2_s]
        exact hk (n2 0, unN (aK A) (stS (aS A) gg 0), M3) ⟨⟨n2 0, w2⟩, ⟨k3, w4⟩, Or.inr ⟨by omega, rfl, rfl⟩⟩
      · have hle := tsQ_le (aK A) (aS A) gg (j - 1)
        have hS : tsQ (aK A) (aS A) gg j = tsF (aK A) (aS A) gg (j - 1) (tsQ (aK A) (aS A) gg (j - 1)) := by
          have := tsQ_s (aK A) (aS A) gg (j - 1)
          rw [show j - 1 + 1 = j by omega] at this
          exact this
        unfold tsF at hS
        rw [show j - 1 + 1 = j by omega] at hS
        refine wp_brf (enc_ne _ (by omega)) ?_
        refine wp_br (fun z => ?_) (fun z => ?_)
        · rw [if_neg (by rw [i_lt] at z; rw [i_le]; omega)] at hS
          show wp (lt (n2 j + 1) fun v39 => f (n2 j) (unN (aK A) (stS (aS A) gg j)) v39 M3) _
          rw [lT_s, n2_s]
          exact hk (n2 j, unN (aK A) (stS (aS A) gg j), M3) ⟨⟨n2 j, w2⟩, ⟨k3, w4⟩, Or.inr ⟨by omega, by rw [show j + 1 - 1 = j by omega, hS], by rw [show j + 1 - 1 = j by omega, hS]⟩⟩
        · rw [if_pos (by rw [i_lt] at z; rw [i_le]; omega)] at hS
          show wp (lt (n2 j + 1) fun v39 => f (n2 (tsQ (aK A) (aS A) gg (j - 1)).1) (tsQ (aK A) (aS A) gg (j - 1)).2 v39 M3) _
          rw [lT_s, n2_s]
          exact hk (n2 (tsQ (aK A) (aS A) gg (j - 1)).1, (tsQ (aK A) (aS A) gg (j - 1)).2, M3) ⟨⟨n2 j, w2⟩, ⟨k3, w4⟩, Or.inr ⟨by omega, by rw [show j + 1 - 1 = j by omega, hS], by rw [show j + 1 - 1 = j by omega, hS]⟩⟩
    · intro f s hI
      obtain ⟨b, l, s⟩ := s
      obtain ⟨⟨x, i1⟩, ⟨i2, i4⟩, i3⟩ := hI
      dsimp only at i1 i2 i3 i4 ⊢
      rw [cellsG hy (i1.1.geo v.1), cp_s]
      refine wp_brt (Int32.le_refl _) ?_
      have s88 : s.1 88 = up (sSp (aS A)) gg x := i1.v.1.2.1
      rw [gA_n (k_88 hy) g6 (by omega), lT_s, jn_s, wI_sr, s88, up2, up1]
      have hB : MR A (sr s 88 (sSp (aS A))) := MR_vo (T := aS A) (i1.sp (sSp (aS A))) rfl
      have kB : kC M (sr s 88 (sSp (aS A))) := kC_sr i2 (by decide)
      have cB : (sr s 88 (sSp (aS A))).1 73 4 = 0 := by rw [sr_ne (by decide)]; exact i4
      rcases i3 with ⟨hz, -⟩ | ⟨-, rfl, rfl⟩
      · omega
      · exact wp_br (fun z => OM.ret' (by rw [if_pos z]) hB kB cB) (fun z => OM.ret' (by rw [if_neg z]) hB kB cB)
  · rw [e, cp_s, jn_s]
    exact wp_brt rfl (hth (fun z => q z.1))
