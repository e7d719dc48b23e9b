/-! ===== calls: bag, rest, go, peg, undo, forget, see ===== -/
theorem jm99 {a m : Nat} (ha : a ≤ 99) (hm : m ≤ 50) : ∃ v, v ≤ 99 ∧ jmin 99 (n2 a + n2 m) = n2 v := by
  rw [n2_add]
  unfold jmin
  by_cases h : n2 (a + m) < 99
  · rw [if_pos h]
    rw [show (99 : Int32) = n2 99 from rfl, n2_lt (by omega) (by decide)] at h
    exact ⟨a + m, by omega, rfl⟩
  · rw [if_neg h]; exact ⟨99, by decide, rfl⟩
def bagS (S : Sk) (n : Int32) : Sk := (sB S, sSp S, sSk S, sPg S, sRs S, jmin 99 (sKn S + n), sMa S, sDy S, 0)
def bagA (A : St) (n : Int32) : St := if inR 1 50 n then actA A (bagS (aS A) n) else refA A 1
def bagR (A : St) (n : Int32) : Int32 := if inR 1 50 n then jmin 99 (sKn (aS A) + n) else -1
theorem bag_val {A : St} (v : VAL A) (n : Int32) : VAL (bagA A n) := by
  unfold bagA
  split
  · rename_i q
    obtain ⟨q1, q2⟩ := inR_n q
    refine VAL.act v ⟨⟨v.2.1.1.1.1, v.2.1.1.1.2.1, v.2.1.1.1.2.2.1, ?_⟩, v.2.1.1.2⟩ rfl
    obtain ⟨k, hk, hk2⟩ := v.2.1.1.1.2.2.2
    show ∃ v, v ≤ 99 ∧ jmin 99 (sKn (aS A) + n) = n2 v
    have hk2 : sKn (aS A) = n2 k := hk2
    rw [hk2, q1]
    exact jm99 hk q2.2
  · exact v
theorem bag_c {y : Lay} (hy : LY y) {A : St} {M : Mem} (h : CR A M) (v : VAL A) (n : Int32) : wp (f_X11_bag y 1 n M) (OD (bagA A n) (bagR A n) M) := by
  unfold f_X11_bag
  simp only [lT_s, jn_s, c0_s, cp_s, cx_s, cx_t, gK_t (k_1 hy), gN_t (r := 1) (by decide), r_1_0 hy, r_1_1 hy, r_1_2 hy, r_1_3 hy, r_1_4 hy, r_1_5 hy, r_1_6 hy, r_1_7 hy, r_1_8 hy, r_1_9 hy, r_1_10 hy, gK_t (k_30 hy), gN_t (r := 30) (by decide), r_30_0 hy, r_30_1 hy, r_30_2 hy, r_30_3 hy, r_30_4 hy, r_30_5 hy, gK_t (k_37 hy), gN_t (r := 37) (by decide), r_37_0 hy, r_37_1 hy, r_37_2 hy, r_37_3 hy, r_37_4 hy, r_37_5 hy, r_37_6 hy]
  have z1 : (1 : Int32).toInt = 1 := by decide
  have z50 : (50 : Int32).toInt = 50 := by decide
  have hrf : ¬ inR 1 50 n → wp (c0 (f_X11_refuseAct y 1 M) fun (r3 : Int32) (M4 : Mem) => some (r3, M4)) (OD (bagA A n) (bagR A n) M) := fun q => by
    unfold bagA bagR
    rw [if_neg q, if_neg q]
    exact wp_c0 _ (refuseAct_c hy h) (fun r M1 q => wp_some q)
  refine wp_br (fun q => hrf (fun z => ?_)) (fun q1 => wp_br (fun q2 => ?_) (fun q => hrf (fun z => ?_)))
  · rw [i_lt, z1] at q; have := z.1; omega
  · rw [i_lt, z1] at q1
    rw [i_le, z50] at q2
    have hq : inR 1 50 n := ⟨by omega, by omega⟩
    unfold bagA bagR
    rw [if_pos hq, if_pos hq]
    refine wp_c0 _ (keep_oc hy h v) (fun r M1 q => ?_)
    obtain ⟨-, w2, w3⟩ := q
    dsimp only at w2 w3
    have hv := w3.v
    unfold f_X8_addKnobs
    rw [gK_t (k_37 hy), lT_s, c0_s, wI_sr, sr_ap, up_eq, hv.2.2.2.1]
    refine wp_some ⟨rfl, ?_, kM_sr (w2.kM (by decide)) (by decide)⟩
    refine CR.sky w3 ((Eqx.refl _ _).sr (by decide)) (S := bagS (aS A) n) ?_
    show (M1.1 38, M1.1 41, M1.1 42, M1.1 37 7, M1.1 37 8, jmin 99 (sKn (aS A) + n), M1.1 37 10, M1.1 37 11, (0 : Int32)) = _
    rw [hv.1.1, hv.1.2.1, hv.1.2.2, hv.2.1, hv.2.2.1, hv.2.2.2.2.1, hv.2.2.2.2.2]
    rfl
  · rw [i_le, z50] at q; have := z.2; omega
/-- code and frame of a call's first step -/
theorem OM.start {y : Lay} (hy : LY y) {A : St} {M : Mem} (h : MR A M) {k : Mem → Option (Int32 × Mem)} {Q : Int32 × Mem → Prop} (hk : ∀ M0, MR A M0 → kC M M0 → M0.1 73 4 = 0 → wp (k M0) Q) : wp (lt (wI M 73 4 0) k) Q := by
  rw [lT_s, wI_sr]
  exact hk _ (h.code 0) (kC_sr (kC.refl M) (by decide)) (code0 M)
theorem bag_m {y : Lay} (hy : LY y) {A : St} {M : Mem} (h : MR A M) (v : VAL A) (n : Int32) : wp (f_X12_bag y 73 n M) (OM (bagA A n) (0, bagR A n) M) := by
  unfold f_X12_bag
  simp only [gK_t (k_73 hy)]
  refine OM.start hy h (fun M0 h0 g0 hc => ?_)
  rcases isIn_r (y := y) (M := M0) (a := 1) (b := 50) (la := 1) (lb := 50) (by decide) (by decide) n with ⟨q1, q2⟩ | ⟨q1, q2⟩
  · rw [q2, cp_s]
    refine wp_brf (by decide) ?_
    unfold bagA bagR
    rw [if_pos q1, if_pos q1]
    refine wp_c0 _ (keep_om hy h0 v) (fun r M1 q => ?_)
    obtain ⟨-, w2, w3, w4⟩ := q
    dsimp only at w2 w3 w4
    have hv := w3.v
    rw [lT_s, wI_sr, sr_ap, up_eq, hv.2.2.2.1]
    refine wp_some ⟨?_, fun _ => rfl, ?_, ?_⟩
    · show (sr M1 73 _).1 73 4 = 0
      rw [sr_ap, up_ne (by decide), w4 4 (by decide), hc]
    · refine MR.sky w3 ((Eqx.refl _ _).sr (by decide)) (F73.up (by decide)) (S := bagS (aS A) n) ?_
      show (M1.1 87, M1.1 88, M1.1 85, M1.1 73 34, M1.1 73 35, jmin 99 (sKn (aS A) + n), M1.1 73 33, M1.1 73 31, (0 : Int32)) = _
      rw [hv.1.1, hv.1.2.1, hv.1.2.2, hv.2.1, hv.2.2.1, hv.2.2.2.2.1, hv.2.2.2.2.2]
      rfl
    · exact kC_sr (g0.trans (w2.kC (by decide))) (by decide)
  · rw [q2, cp_s]
    refine wp_brt rfl ?_
    unfold bagA bagR
    rw [if_neg q1, if_neg q1]
    exact refuse_om hy h0 g0 hc (k := 1) (by decide)
/-! rest -/
theorem bt_m1 : ∀ i : Fin 32, bt (-1) i.val = 1 := by decide +kernel
theorem set_x {x : Int32} {g : Nat} (hg : g < 32) (h : bt x g = 0) : x ||| bit g = x ^^^ bit g := by
  refine bt_ext (fun i hi => ?_)
  rw [bt_or hi, bt_xor hi, bt_b hg hi]
  by_cases e : i = g
  · subst e
    rw [h]
    exact ⟨fun _ q => absurd (q.mpr rfl) (by decide), fun _ => Or.inr rfl⟩
  · constructor
    · intro q z
      rcases q with q | q
      · exact e (z.mp q)
      · exact e q
    · intro q
      by_cases z : bt x i = 1
      · exact Or.inl z
      · exact absurd ⟨fun w => absurd w z, fun w => absurd w e⟩ q
theorem clr_x {x : Int32} {g : Nat} (hg : g < 32) (h : bt x g = 1) : x &&& (bit g ^^^ -1) = x ^^^ bit g := by
  refine bt_ext (fun i hi => ?_)
  have hm := bt_m1 ⟨i, hi⟩
  dsimp only at hm
  rw [bt_and hi, bt_xor hi, bt_xor hi, bt_b hg hi, hm]
  by_cases e : i = g
  · subst e
    rw [h]
    exact ⟨fun q => absurd ⟨fun _ => rfl, fun _ => rfl⟩ q.2, fun q => absurd ⟨fun _ => rfl, fun _ => rfl⟩ q⟩
  · constructor
    · intro q z
      exact e (z.mp q.1)
    · intro q
      refine ⟨?_, fun z => e (z.mpr rfl)⟩
      by_cases z : bt x i = 1
      · exact z
      · exact absurd ⟨fun w => absurd w z, fun w => absurd w e⟩ q
/-- a flag as 0 or 1 -/
def fl01 (x : Int32) (i : Nat) : Int32 := if bt x i = 0 then 0 else 1
theorem fl01_0 {x : Int32} {i : Nat} (h : bt x i = 0) : fl01 x i = 0 := if_pos h
theorem fl01_1 {x : Int32} {i : Nat} (h : bt x i = 1) : fl01 x i = 1 := if_neg (by rw [h]; decide)
theorem isOf_f {y : Lay} {x : Int32} {c : Nat} {M : Mem} : f_X12_isOf y x (n2 c) M = some (fl01 x c) := by
  rw [isOf_s]
  rcases bt01 x c with h | h
  · rw [fl01_0 h, if_neg (by rw [h]; decide)]
  · rw [fl01_1 h, if_pos h]
def restS (S : Sk) (g : Nat) : Sk := (sB S, sSp S, sSk S, sPg S, sRs S ^^^ bit g, sKn S, sMa S, sDy S, 0)
def restA (A : St) (g a : Int32) : St := if inN (kg (aK A)) g then (if fl01 (sRs (aS A)) g.toInt.toNat = a then refA A 1 else actA A (restS (aS A) g.toInt.toNat)) else A
def restP (A : St) (g a : Int32) : Nat × Int32 := if inN (kg (aK A)) g then (if fl01 (sRs (aS A)) g.toInt.toNat = a then (0, 0) else (0, 1)) else (1, 0)
theorem rest_val {A : St} (v : VAL A) (g a : Int32) : VAL (restA A g a) := by
  unfold restA
  split
  · split
    · exact v
    · exact VAL.act v ⟨v.2.1.1.1, v.2.1.1.2⟩ rfl
  · exact v
theorem rest_c {y : Lay} (hy : LY y) {A : St} {M : Mem} (h : CR A M) (v : VAL A) (g a : Int32) (ha : a = 0 ∨ a = 1) : wp (f_X11_rest y 1 g a M) (OC (restA A g a) (restP A g a) M) := by
  unfold f_X11_rest
  have hg6 := v.1.2.1.2.2
  rw [gK_t (k_1 hy)]
  unfold restA restP
  rcases needGirl_s hy h.1.1.2.2.2.2.1 hg6 g with ⟨q, e⟩ | ⟨q, e⟩
  · rw [e, cx_s, if_pos q, if_pos q]
    obtain ⟨e1, e2⟩ := inN_n q
    generalize g.toInt.toNat = gg at e1 e2
    subst e1
    simp only [lT_s, jn_s, c0_s, cp_s, cx_s, cx_t, gK_t (k_1 hy), gN_t (r := 1) (by decide), r_1_0 hy, r_1_1 hy, r_1_2 hy, r_1_3 hy, r_1_4 hy, r_1_5 hy, r_1_6 hy, r_1_7 hy, r_1_8 hy, r_1_9 hy, r_1_10 hy, gK_t (k_30 hy), gN_t (r := 30) (by decide), r_30_0 hy, r_30_1 hy, r_30_2 hy, r_30_3 hy, r_30_4 hy, r_30_5 hy, gK_t (k_37 hy), gN_t (r := 37) (by decide), r_37_0 hy, r_37_1 hy, r_37_2 hy, r_37_3 hy, r_37_4 hy, r_37_5 hy, r_37_6 hy, isResting_g (k_37 hy)]
    have hf : (if ((M.1 37 8 >>> (n2 gg &&& 31)) &&& 1) = 0 then (0 : Int32) else 1) = fl01 (sRs (aS A)) gg := by rw [h.v.2.2.1]; rfl
    rw [hf]
    by_cases hq : fl01 (sRs (aS A)) gg = a
    · rw [if_pos hq, if_pos hq]
      refine wp_brt hq ?_
      rw [refuse_c1 hy, c0_s]
      exact OC.ret (h.ref (by decide)) (kM_sr (kM.refl M) (by decide))
    · rw [if_neg hq, if_neg hq]
      refine wp_brf hq ?_
      refine wp_c0 _ (keep_oc hy h v) (fun r M1 q => ?_)
      obtain ⟨-, w2, w3⟩ := q
      dsimp only at w2 w3
      have hv := w3.v
      have fin : ∀ x, x = sRs (aS A) ^^^ bit gg → wp (some (0, (1 : Int32), sr M1 37 (up (M1.1 37) 8 x))) (OC (actA A (restS (aS A) gg)) (0, 1) M) := fun x hx => by
        refine OC.ret ?_ (kM_sr (w2.kM (by decide)) (by decide))
        refine CR.sky w3 ((Eqx.refl _ _).sr (by decide)) (S := restS (aS A) gg) ?_
        show (M1.1 38, M1.1 41, M1.1 42, M1.1 37 7, x, M1.1 37 9, M1.1 37 10, M1.1 37 11, (0 : Int32)) = _
        rw [hx, hv.1.1, hv.1.2.1, hv.1.2.2, hv.2.1, hv.2.2.2.1, hv.2.2.2.2.1, hv.2.2.2.2.2]
        rfl
      unfold f_X8_setResting
      simp only [lT_s, jn_s, c0_s, cp_s, cx_s, cx_t, gK_t (k_37 hy), gN_t (r := 37) (by decide), r_37_0 hy, r_37_1 hy, r_37_2 hy, r_37_3 hy, r_37_4 hy, r_37_5 hy, r_37_6 hy, wI_sr, hv.2.2.1]
      rcases ha with rfl | rfl
      · rw [bR_t rfl, c0_s]
        rcases bt01 (sRs (aS A)) gg with hb | hb
        · exact absurd (fl01_0 hb) hq
        · exact fin _ (clr_x (by omega) hb)
      · rw [bR_f (by decide), c0_s]
        rcases bt01 (sRs (aS A)) gg with hb | hb
        · exact fin _ (set_x (by omega) hb)
        · exact absurd (fl01_1 hb) hq
  · rw [e, if_neg q, if_neg q]
    exact OC.thr h (by decide)
theorem rest_m {y : Lay} (hy : LY y) {A : St} {M : Mem} (h : MR A M) (v : VAL A) (g a : Int32) : wp (f_X12_rest y 73 g a M) (OM (restA A g a) (restP A g a) M) := by
  unfold f_X12_rest
  have hg6 := v.1.2.1.2.2
  rw [gK_t (k_73 hy)]
  refine OM.start hy h (fun M0 h0 g0 hc => ?_)
  unfold restA restP
  rcases isGirl_s hy h0.1.1.2.2.2.2 hg6 g with ⟨q, e⟩ | ⟨q, e⟩
  · rw [e, cp_s, if_pos q, if_pos q]
    refine wp_brf (by decide) ?_
    obtain ⟨e1, e2⟩ := inN_n q
    generalize g.toInt.toNat = gg at e1 e2
    subst e1
    rw [isOf_f, cp_s, h0.v.2.2.1]
    by_cases hq : fl01 (sRs (aS A)) gg = a
    · rw [if_pos hq, if_pos hq]
      refine wp_brt hq ?_
      simp only [gK_t (k_73 hy), gN_t (r := 73) (by decide), r_73_0 hy, r_73_1 hy, r_73_2 hy, r_73_5 hy, r_73_6 hy, r_73_7 hy, r_73_8 hy, r_73_9 hy, r_73_10 hy, r_73_11 hy, r_73_12 hy, r_73_13 hy, r_73_14 hy, r_73_28 hy, r_73_29 hy, r_73_30 hy, r_73_38 hy, r_73_39 hy, r_73_40 hy, r_73_42 hy, r_73_43 hy, r_73_44 hy, r_73_45 hy, r_73_46 hy, r_73_47 hy, r_73_48 hy, r_73_49 hy, r_73_50 hy, r_73_51 hy, r_73_53 hy, r_73_58 hy, r_73_59 hy, r_73_60 hy, r_73_61 hy, r_73_62 hy, r_73_63 hy, gN_t (r := 84) (by decide), zc1, wI_sr, lT_s]
      rw [gA_t (k_84 hy) (by decide), gA_t (k_84 hy) (by decide)]
      exact OM.ret (h0.ref (by decide)) (kC_sr g0 (by decide)) hc
    · rw [if_neg hq, if_neg hq]
      refine wp_brf hq ?_
      refine wp_c0 _ (keep_om hy h0 v) (fun r M1 q => ?_)
      obtain ⟨-, w2, w3, w4⟩ := q
      dsimp only at w2 w3 w4
      have hv := w3.v
      rw [lT_s, wI_sr, hv.2.2.1]
      refine OM.ret ?_ (kC_sr (g0.trans (w2.kC (by decide))) (by decide)) (by rw [sr_ap, up_ne (by decide), w4 4 (by decide), hc])
      refine MR.sky w3 ((Eqx.refl _ _).sr (by decide)) (F73.up (by decide)) (S := restS (aS A) gg) ?_
      show (M1.1 87, M1.1 88, M1.1 85, M1.1 73 34, sRs (aS A) ^^^ bit gg, M1.1 73 32, M1.1 73 33, M1.1 73 31, (0 : Int32)) = _
      rw [hv.1.1, hv.1.2.1, hv.1.2.2, hv.2.1, hv.2.2.2.1, hv.2.2.2.2.1, hv.2.2.2.2.2]
      rfl
  · rw [e, cp_s, if_neg q, if_neg q]
    refine wp_brt rfl ?_
    unfold f_X12_failing
    rw [gK_t (k_73 hy), lT_s, wI_sr, c0_s, gd_t (by decide)]
    exact wp_some ⟨by show (sr M0 73 _).1 73 4 = n2 1; rw [sr_ap, up_eq]; rfl, fun q => absurd q (by decide), h0.code 1, kC_sr g0 (by decide)⟩
/-! go -/
def goS (S : Sk) (g : Nat) (c : Int32) : Sk := (sB S, up (sSp S) g c, sSk S, sPg S, sRs S, sKn S, sMa S, sDy S, 0)
def goA (A : St) (g c : Int32) : St := if inN (kg (aK A)) g ∧ inN (kn (aK A)) c then (if sSp (aS A) g.toInt.toNat = c then refA A 1 else actA A (goS (aS A) g.toInt.toNat c)) else A
def goP (A : St) (g c : Int32) : Nat × Int32 := if inN (kg (aK A)) g ∧ inN (kn (aK A)) c then (if sSp (aS A) g.toInt.toNat = c then (0, -1) else (0, sSp (aS A) g.toInt.toNat)) else (1, 0)
theorem spk_up {n : Nat} {sp : Row} {g c : Nat} (h : SPK n sp) (hg : g < 6) (hc : c < n) : SPK n (up sp g (n2 c)) := by
  refine ⟨fun k => ?_, fun k hk => ?_⟩
  · by_cases e : k = g
    · exact ⟨c, hc, by rw [e, up_eq]⟩
    · rw [up_ne e]; exact h.1 k
  · rw [up_ne (by omega)]; exact h.2 k hk
theorem go_val {A : St} (v : VAL A) (g c : Int32) : VAL (goA A g c) := by
  unfold goA
  have hg6 := v.1.2.1.2.2
  split
  · rename_i q
    split
    · exact v
    · obtain ⟨e1, e2⟩ := inN_n q.1
      obtain ⟨e3, e4⟩ := inN_n q.2
      refine VAL.act v ⟨⟨v.2.1.1.1.1, ?_, v.2.1.1.1.2.2⟩, v.2.1.1.2⟩ rfl
      rw [e3]
      exact spk_up v.2.1.1.1.2.1 (by omega) e4
  · exact v
theorem go_c {y : Lay} (hy : LY y) {A : St} {M : Mem} (h : CR A M) (v : VAL A) (g c : Int32) : wp (f_X11_go y 1 g c M) (OC (goA A g c) (goP A g c) M) := by
  unfold f_X11_go
  have hg6 := v.1.2.1.2.2
  have h30 := v.1.n30
  rw [gK_t (k_1 hy)]
  unfold goA goP
  rcases needGirl_s hy h.1.1.2.2.2.2.1 hg6 g with ⟨q, e⟩ | ⟨q, e⟩
  · rcases needCell_s hy (h.1.geo v.1) c with ⟨q', e'⟩ | ⟨q', e'⟩
    · have qq : inN (kg (aK A)) g ∧ inN (kn (aK A)) c := ⟨q, q'⟩
      rw [e, cx_s, e', cx_s, if_pos qq, if_pos qq]
      clear qq
      obtain ⟨e1, e2⟩ := inN_n q
      generalize g.toInt.toNat = gg at e1 e2
      subst e1
      simp only [lT_s, jn_s, c0_s, cp_s, cx_s, cx_t, gK_t (k_1 hy), gN_t (r := 1) (by decide), r_1_0 hy, r_1_1 hy, r_1_2 hy, r_1_3 hy, r_1_4 hy, r_1_5 hy, r_1_6 hy, r_1_7 hy, r_1_8 hy, r_1_9 hy, r_1_10 hy, gK_t (k_30 hy), gN_t (r := 30) (by decide), r_30_0 hy, r_30_1 hy, r_30_2 hy, r_30_3 hy, r_30_4 hy, r_30_5 hy, gK_t (k_37 hy), gN_t (r := 37) (by decide), r_37_0 hy, r_37_1 hy, r_37_2 hy, r_37_3 hy, r_37_4 hy, r_37_5 hy, r_37_6 hy, spotOf_37 hy (show gg < 6 by omega), h.v.1.2.1]
      by_cases hq : sSp (aS A) gg = c
      · rw [if_pos hq, if_pos hq]
        refine wp_brt hq ?_
        exact wp_c0 _ (refuseAct_c hy h) (fun r M1 q => by obtain ⟨q1, q2, q3⟩ := q; exact wp_some ⟨rfl, fun _ => q1, q2, q3⟩)
      · rw [if_neg hq, if_neg hq]
        refine wp_brf hq ?_
        refine wp_c0 _ (keep_oc hy h v) (fun r M1 q => ?_)
        obtain ⟨-, w2, w3⟩ := q
        dsimp only at w2 w3
        have hv := w3.v
        unfold f_X8_setSpot
        simp only [lT_s, jn_s, c0_s, cp_s, cx_s, cx_t, gK_t (k_37 hy), gN_t (r := 37) (by decide), r_37_0 hy, r_37_1 hy, r_37_2 hy, r_37_3 hy, r_37_4 hy, r_37_5 hy, r_37_6 hy, gN_t (r := 41) (by decide), bR_f (n2_n0 (show gg < 2147483648 by omega)), bR_f (nle_l (c := 6) (m := 6) rfl (show gg < 6 by omega) (by omega)), gA_n (k_41 hy) (show gg < 6 by omega) (by omega), n2_nat (show gg < 2147483648 by omega), wI_sr]
        refine OC.ret ?_ (kM_sr (w2.kM (by decide)) (by decide))
        refine CR.sky w3 ((Eqx.refl _ _).sr (by decide)) (S := goS (aS A) gg c) ?_
        show (M1.1 38, up (M1.1 41) gg c, M1.1 42, M1.1 37 7, M1.1 37 8, M1.1 37 9, M1.1 37 10, M1.1 37 11, (0 : Int32)) = _
        rw [hv.1.1, hv.1.2.1, hv.1.2.2, hv.2.1, hv.2.2.1, hv.2.2.2.1, hv.2.2.2.2.1, hv.2.2.2.2.2]
        rfl
    · rw [e, cx_s, e', if_neg (fun z => q' z.2), if_neg (fun z => q' z.2)]
      exact OC.thr h (by decide)
  · rw [e, if_neg (fun z => q z.1), if_neg (fun z => q z.1)]
    exact OC.thr h (by decide)
theorem go_m {y : Lay} (hy : LY y) {A : St} {M : Mem} (h : MR A M) (v : VAL A) (g c : Int32) : wp (f_X12_go y 73 g c M) (OM (goA A g c) (goP A g c) M) := by
  unfold f_X12_go
  have hg6 := v.1.2.1.2.2
  have h30 := v.1.n30
  rw [gK_t (k_73 hy)]
  refine OM.start hy h (fun M0 h0 g0 hc => ?_)
  simp only [lT_s, jn_s, c0_s, cp_s, cx_s, cx_t]
  unfold goA goP
  have hth : ¬ (inN (kg (aK A)) g ∧ inN (kn (aK A)) c) → wp (c0 (f_X12_fail y 73 1 M0) fun (r5 : Int32) (M6 : Mem) => some (r5, M6)) (OM (if inN (kg (aK A)) g ∧ inN (kn (aK A)) c then (if sSp (aS A) g.toInt.toNat = c then refA A 1 else actA A (goS (aS A) g.toInt.toNat c)) else A) (if inN (kg (aK A)) g ∧ inN (kn (aK A)) c then (if sSp (aS A) g.toInt.toNat = c then (0, -1) else (0, sSp (aS A) g.toInt.toNat)) else (1, 0)) M) := fun q => by
    rw [if_neg q, if_neg q]
    exact OM.fail hy rfl (by decide) h0 g0
  rcases isGirl_s hy h0.1.1.2.2.2.2 hg6 g with ⟨q, e⟩ | ⟨q, e⟩
  · rw [e, cp_s]
    refine wp_brf (by decide) ?_
    rcases isCell_s hy (h0.1.geo v.1) c with ⟨q', e'⟩ | ⟨q', e'⟩
    · have qq : inN (kg (aK A)) g ∧ inN (kn (aK A)) c := ⟨q, q'⟩
      rw [e', cp_s, if_pos qq, if_pos qq]
      clear qq
      refine wp_brf (by decide) ?_
      obtain ⟨e1, e2⟩ := inN_n q
      generalize g.toInt.toNat = gg at e1 e2
      subst e1
      simp only [gK_t (k_73 hy), gN_t (r := 73) (by decide), r_73_0 hy, r_73_1 hy, r_73_2 hy, r_73_5 hy, r_73_6 hy, r_73_7 hy, r_73_8 hy, r_73_9 hy, r_73_10 hy, r_73_11 hy, r_73_12 hy, r_73_13 hy, r_73_14 hy, r_73_28 hy, r_73_29 hy, r_73_30 hy, r_73_38 hy, r_73_39 hy, r_73_40 hy, r_73_42 hy, r_73_43 hy, r_73_44 hy, r_73_45 hy, r_73_46 hy, r_73_47 hy, r_73_48 hy, r_73_49 hy, r_73_50 hy, r_73_51 hy, r_73_53 hy, r_73_58 hy, r_73_59 hy, r_73_60 hy, r_73_61 hy, r_73_62 hy, r_73_63 hy, gN_t (r := 88) (by decide), gA_n (k_88 hy) (show gg < 6 by omega) (by omega), n2_nat (show gg < 2147483648 by omega), h0.v.1.2.1]
      by_cases hq : sSp (aS A) gg = c
      · rw [if_pos hq, if_pos hq]
        refine wp_brt hq ?_
        exact refuse_om hy h0 g0 hc (k := 1) (by decide)
      · rw [if_neg hq, if_neg hq]
        refine wp_brf hq ?_
        refine wp_c0 _ (keep_om hy h0 v) (fun r M1 q => ?_)
        obtain ⟨-, w2, w3, w4⟩ := q
        dsimp only at w2 w3 w4
        have hv := w3.v
        rw [wI_sr]
        refine wp_some ⟨?_, fun _ => congrFun hv.1.2.1 gg, ?_, ?_⟩
        · show (sr M1 88 _).1 73 4 = 0
          rw [sr_ne (by decide), w4 4 (by decide), hc]
        · refine MR.sky w3 ((Eqx.refl _ _).sr (by decide)) (F73.row (sr_ne (by decide))) (S := goS (aS A) gg c) ?_
          show (M1.1 87, up (M1.1 88) gg c, M1.1 85, M1.1 73 34, M1.1 73 35, M1.1 73 32, M1.1 73 33, M1.1 73 31, (0 : Int32)) = _
          rw [hv.1.1, hv.1.2.1, hv.1.2.2, hv.2.1, hv.2.2.1, hv.2.2.2.1, hv.2.2.2.2.1, hv.2.2.2.2.2]
          rfl
        · exact kC_sr (g0.trans (w2.kC (by decide))) (by decide)
    · rw [e', cp_s]
      refine wp_brt rfl (hth (fun z => q' z.2))
  · rw [e, cp_s]
    exact wp_brt rfl (hth (fun z => q z.1))
