/-! ===== calls: girl, cell, patch, patches, way, steps, nearest ===== -/
noncomputable def patP (K : KG) (B : Row) (off : Int32) (c : Nat) : Int32 := Classical.epsilon (PTC K B off c)
theorem patP_eq {K : KG} {B : Row} {off : Int32} {c : Nat} {v : Int32} (h : PTC K B off c v) : v = patP K B off c := h.uniq (Classical.epsilon_spec (p := PTC K B off c) ⟨v, h⟩)
/-- rows of the class that hold nothing -/
theorem CR.idle {A : St} {M N : Mem} (h : CR A M) (e : Eqx [43, 8, 11] M N) : CR A N := by
  obtain ⟨b1, b2, b3, b4⟩ := h.2.1
  refine CR.upd h (e.mono (by decide)) (m := aM A) ⟨?_, ?_, ?_, ?_⟩
  · rw [← b1]; unfold skV
    rw [e.2 37 (by decide), e.2 38 (by decide), e.2 41 (by decide), e.2 42 (by decide)]
  · rw [e.2 31 (by decide), e.2 32 (by decide)]; exact b2
  · rw [e.2 30 (by decide), e.2 33 (by decide), e.2 34 (by decide), e.2 35 (by decide)]; exact b3
  · rw [e.2 36 (by decide)]; exact b4
theorem MR.idle {A : St} {M N : Mem} (h : MR A M) (e : Eqx [90, 91, 92, 94, 95, 96, 101, 102, 103] M N) : MR A N := by
  refine MR.look h (e.mono (by decide)) ?_ (F73.row (e.2 73 (by decide)))
  unfold moV
  rw [e.2 73 (by decide), e.2 87 (by decide), e.2 88 (by decide), e.2 85 (by decide)]
theorem out3 {w : Int32} : (w < 0 ∨ 3 < w) ↔ ¬ inR 0 3 w := by
  have z0 : (0 : Int32).toInt = 0 := by decide
  have z3 : (3 : Int32).toInt = 3 := by decide
  rw [i_lt, i_lt, z0, z3]
  constructor
  · intro q z
    have := z.1
    have := z.2
    omega
  · intro q
    by_cases z : w.toInt < 0
    · exact Or.inl z
    · exact Or.inr (Int.lt_of_not_ge (fun w => q ⟨by omega, w⟩))
theorem m4 {m : Nat} (h : m ≤ 3) : m = 0 ∨ m = 1 ∨ m = 2 ∨ m = 3 := by omega
/-! girl -/
def girlN (A : St) (g : Nat) : Nat → Int32
  | 0 => sSk (aS A) g
  | 1 => sSp (aS A) g
  | 2 => fl01 (ko (aK A)) g
  | _ => dyeP (aK A) (sB (aS A)) (sSp (aS A)) (sSk (aS A)) (sDy (aS A)) g (jmax 0 (sKn (aS A) - 1))
def girlP (A : St) (g w : Int32) : Nat × Int32 := if inN (kg (aK A)) g then (if inR 0 3 w then (0, girlN A g.toInt.toNat w.toInt.toNat) else (1, 0)) else (1, 0)
theorem girl_c {y : Lay} (hy : LY y) {A : St} {M : Mem} (h : CR A M) (v : VAL A) (g w : Int32) : wp (f_X11_girl y 1 g w M) (OC A (girlP A g w) M) := by
  unfold f_X11_girl girlP
  have hg6 := v.1.2.1.2.2
  rw [gK_t (k_1 hy)]
  rcases needGirl_s hy h.1.1.2.2.2.2.1 hg6 g with ⟨q, e⟩ | ⟨q, e⟩
  · rw [e, cx_s, if_pos q]
    obtain ⟨e1, e2⟩ := inN_n q
    generalize g.toInt.toNat = gg at e1 e2
    subst e1
    have g6 : gg < 6 := by omega
    have hv := h.v
    simp only [lT_s, jn_s, c0_s, cp_s, cx_s, cx_t, gK_t (k_1 hy), gN_t (r := 1) (by decide), r_1_0 hy, r_1_1 hy, r_1_2 hy, r_1_3 hy, r_1_4 hy, r_1_5 hy, r_1_6 hy, r_1_7 hy, r_1_8 hy, r_1_9 hy, r_1_10 hy, gK_t (k_4 hy), gN_t (r := 4) (by decide), r_4_6 hy, r_4_7 hy, r_4_8 hy, gK_t (k_30 hy), gN_t (r := 30) (by decide), r_30_0 hy, r_30_1 hy, r_30_2 hy, r_30_3 hy, r_30_4 hy, r_30_5 hy, gK_t (k_37 hy), gN_t (r := 37) (by decide), r_37_0 hy, r_37_1 hy, r_37_2 hy, r_37_3 hy, r_37_4 hy, r_37_5 hy, r_37_6 hy, skillOf_37 hy g6, spotOf_37 hy g6, isOld_g (k_4 hy)]
    by_cases qw : inR 0 3 w
    · rw [if_pos qw]
      refine wp_brf (fun z => out3.mp z qw) ?_
      obtain ⟨q1, -, q3⟩ := inR_n qw
      generalize w.toInt.toNat = m at q1 q3
      subst q1
      have fin : ∀ r, r = girlN A gg m → wp (some (0, r, M)) (OC A (0, girlN A gg m) M) := fun r hr => OC.ret' hr h (kM.refl M)
      rcases m4 q3 with rfl | rfl | rfl | rfl
      · exact wp_brt (by decide) (fin _ (congrFun hv.1.2.2 gg))
      · iterate 1 refine wp_brf (by decide) ?_
        exact wp_brt (by decide) (fin _ (congrFun hv.1.2.1 gg))
      · iterate 2 refine wp_brf (by decide) ?_
        refine wp_brt (by decide) ?_
        have hf : (if ((M.1 4 5 >>> (n2 gg &&& 31)) &&& 1) = 0 then (0 : Int32) else 1) = fl01 (ko (aK A)) gg := by rw [h.1.1.2.2.2.2.2]; rfl
        rw [hf]
        rcases bt01 (ko (aK A)) gg with z | z
        · rw [fl01_0 z]; exact wp_brt rfl (fin _ (fl01_0 z).symm)
        · rw [fl01_1 z]; exact wp_brf (by decide) (fin _ (fl01_1 z).symm)
      · iterate 3 refine wp_brf (by decide) ?_
        refine wp_c0 _ (dyeOf_37 hy v.1 h.1 (h.sok v).2.1 g6 _) (fun r M1 q => ?_)
        obtain ⟨q1, q2⟩ := q
        dsimp only at q1 q2
        refine OC.ret' ?_ (h.idle (q2.mono (by decide))) (q2.kM (by decide))
        rw [q1, hv.1.1, hv.1.2.1, hv.1.2.2, hv.2.2.2.1, hv.2.2.2.2.2]
        rfl
    · rw [if_neg qw]
      exact wp_brt (out3.mpr qw) (OC.thr h (by decide))
  · rw [e, if_neg q]
    exact OC.thr h (by decide)
theorem girl_m {y : Lay} (hy : LY y) {A : St} {M : Mem} (h : MR A M) (v : VAL A) (g w : Int32) : wp (f_X12_girl y 73 g w M) (OM A (girlP A g w) M) := by
  unfold f_X12_girl girlP
  have hg6 := v.1.2.1.2.2
  rw [gK_t (k_73 hy)]
  refine OM.start hy h (fun M0 h0 g0 hc => ?_)
  rcases isGirl_s hy h0.1.1.2.2.2.2 hg6 g with ⟨q, e⟩ | ⟨q, e⟩
  · rw [e, cp_s, if_pos q]
    refine wp_brf (by decide) ?_
    obtain ⟨e1, e2⟩ := inN_n q
    generalize g.toInt.toNat = gg at e1 e2
    subst e1
    have g6 : gg < 6 := by omega
    have hv := h0.v
    simp only [gN_t (r := 79) (by decide), gN_t (r := 85) (by decide), gN_t (r := 88) (by decide), r_73_13 hy, r_73_29 hy, r_73_7 hy, gA_n (k_85 hy) g6 (by omega), gA_n (k_88 hy) g6 (by omega), gA_n (k_79 hy) (show gg < 12 by omega) (by omega), n2_nat (show gg < 2147483648 by omega)]
    by_cases qw : inR 0 3 w
    · rw [if_pos qw]
      refine wp_brf (fun z => out3.mp z qw) ?_
      obtain ⟨q1, -, q3⟩ := inR_n qw
      generalize w.toInt.toNat = m at q1 q3
      subst q1
      have fin : ∀ r, r = girlN A gg m → wp (some (r, M0)) (OM A (0, girlN A gg m) M) := fun r hr => OM.ret' hr h0 g0 hc
      rcases m4 q3 with rfl | rfl | rfl | rfl
      · exact wp_brt (by decide) (fin _ (congrFun hv.1.2.2 gg))
      · iterate 1 refine wp_brf (by decide) ?_
        exact wp_brt (by decide) (fin _ (congrFun hv.1.2.1 gg))
      · iterate 2 refine wp_brf (by decide) ?_
        refine wp_brt (by decide) (fin _ ?_)
        rw [h0.1.2.1 gg e2]
        rcases bt01 (ko (aK A)) gg with z | z
        · rw [if_neg (by rw [z]; decide)]; exact (fl01_0 z).symm
        · rw [if_pos z]; exact (fl01_1 z).symm
      · iterate 3 refine wp_brf (by decide) ?_
        refine wp_c0 _ (dyesOf_s hy v.1 h0.1 (h0.sok v).2.1 (h0.sok v).2.2.1 g6 _) (fun r M1 q => ?_)
        obtain ⟨q1, q2⟩ := q
        dsimp only at q1 q2
        refine OM.ret' ?_ (h0.idle (q2.mono (by decide))) (g0.trans (q2.kC (by decide))) (by rw [q2.2 73 (by decide)]; exact hc)
        rw [q1, hv.1.1, hv.1.2.1, hv.1.2.2, hv.2.2.2.1, hv.2.2.2.2.2]
        rfl
    · rw [if_neg qw]
      exact wp_brt (out3.mpr qw) (OM.fail hy rfl (by decide) h0 g0)
  · rw [e, cp_s, if_neg q]
    exact wp_brt rfl (OM.fail hy rfl (by decide) h0 g0)
/-! cell -/
def gatF (sp : Row) (c : Nat) : Nat → Int32 → Int32 := fun g z => if sp g = n2 c then z ||| bit g else z
def gatP (sp : Row) (c n : Nat) : Int32 := it (gatF sp c) 0 n
theorem girlsAt_c {y : Lay} (hy : LY y) {A : St} {M : Mem} (h : CR A M) (v : VAL A) (c : Nat) : f_X8_girlsAt y 37 (n2 c) M = some (gatP (sSp (aS A)) c (kg (aK A))) := by
  unfold f_X8_girlsAt
  have hg6 := v.1.2.1.2.2
  simp only [lT_s, jn_s, c0_s, cp_s, cx_s, cx_t, gK_t (k_37 hy), gN_t (r := 37) (by decide), r_37_0 hy, r_37_1 hy, r_37_2 hy, r_37_3 hy, r_37_4 hy, r_37_5 hy, r_37_6 hy, gK_t (k_4 hy), gN_t (r := 4) (by decide), r_4_6 hy, r_4_7 hy, r_4_8 hy, h.1.1.2.2.2.2.1]
  refine wp_eq ?_
  refine wp_for2 (i0 := 0) (kg (aK A)) (fun i z => z = gatP (sSp (aS A)) c i) (by have : FUEL = 100000 := rfl; omega) rfl (by omega) rfl ?_ ?_
  · intro f i z hi hI hk
    subst hI
    refine wp_brf (by rw [n2_le (by omega) (by omega)]; omega) ?_
    rw [spotOf_37 hy (show i < 6 by omega), cp_s, h.v.1.2.1]
    refine wp_br (fun q => ?_) (fun q => ?_)
    · rw [n2_s]; exact hk _ (by show _ = gatF _ c i _; unfold gatF; rw [if_pos q]; rfl)
    · rw [n2_s]; exact hk _ (by show _ = gatF _ c i _; unfold gatF; rw [if_neg q]; rfl)
  · intro f z hI
    subst hI
    exact wp_brt (Int32.le_refl _) (wp_some rfl)
theorem girlsAt_m {y : Lay} (hy : LY y) {A : St} {M : Mem} (h : MR A M) (v : VAL A) (c : Nat) : f_X12_girlsAt y 73 (n2 c) M = some (gatP (sSp (aS A)) c (kg (aK A))) := by
  unfold f_X12_girlsAt
  have hg6 := v.1.2.1.2.2
  simp only [lT_s, jn_s, c0_s, cp_s, cx_s, cx_t, gK_t (k_73 hy), gN_t (r := 73) (by decide), r_73_0 hy, r_73_1 hy, r_73_2 hy, r_73_5 hy, r_73_6 hy, r_73_7 hy, r_73_8 hy, r_73_9 hy, r_73_10 hy, r_73_11 hy, r_73_12 hy, r_73_13 hy, r_73_14 hy, r_73_28 hy, r_73_29 hy, r_73_30 hy, r_73_38 hy, r_73_39 hy, r_73_40 hy, r_73_42 hy, r_73_43 hy, r_73_44 hy, r_73_45 hy, r_73_46 hy, r_73_47 hy, r_73_48 hy, r_73_49 hy, r_73_50 hy, r_73_51 hy, r_73_53 hy, r_73_58 hy, r_73_59 hy, r_73_60 hy, r_73_61 hy, r_73_62 hy, r_73_63 hy, gN_t (r := 77) (by decide), gN_t (r := 88) (by decide), zc2, h.1.1.2.2.2.2]
  refine wp_eq ?_
  refine wp_for2 (i0 := 0) (kg (aK A)) (fun i z => z = gatP (sSp (aS A)) c i) (by have : FUEL = 100000 := rfl; omega) rfl (by omega) rfl ?_ ?_
  · intro f i z hi hI hk
    subst hI
    rw [gA_t (k_77 hy) (by decide)]
    refine wp_brf (by rw [n2_le (by omega) (by omega)]; omega) ?_
    rw [gA_n (k_88 hy) (show i < 6 by omega) (by omega), n2_nat (show i < 2147483648 by omega), h.v.1.2.1]
    refine wp_br (fun q => ?_) (fun q => ?_)
    · rw [n2_s]; exact hk _ (by show _ = gatF _ c i _; unfold gatF; rw [if_pos q]; rfl)
    · rw [n2_s, or_0]; exact hk _ (by show _ = gatF _ c i _; unfold gatF; rw [if_neg q]; rfl)
  · intro f z hI
    subst hI
    rw [gA_t (k_77 hy) (by decide)]
    exact wp_brt (Int32.le_refl _) (wp_some rfl)
noncomputable def cellN (A : St) (c : Nat) : Nat → Int32
  | 0 => sB (aS A) c
  | 1 => bes (aK A) c
  | 2 => gatP (sSp (aS A)) c (kg (aK A))
  | _ => patP (aK A) (sB (aS A)) 0 c
noncomputable def cellP (A : St) (c w : Int32) : Nat × Int32 := if inN (kn (aK A)) c then (if inR 0 3 w then (0, cellN A c.toInt.toNat w.toInt.toNat) else (1, 0)) else (1, 0)
theorem cell_c {y : Lay} (hy : LY y) {A : St} {M : Mem} (h : CR A M) (v : VAL A) (c w : Int32) : wp (f_X11_cell y 1 c w M) (OC A (cellP A c w) M) := by
  unfold f_X11_cell cellP
  have h30 := v.1.n30
  rw [gK_t (k_1 hy)]
  rcases needCell_s hy (h.1.geo v.1) c with ⟨q, e⟩ | ⟨q, e⟩
  · have qq : inN (kn (aK A)) c := q
    rw [e, cx_s, if_pos qq]
    clear qq
    obtain ⟨e1, e2⟩ := inN_n q
    generalize c.toInt.toNat = cc at e1 e2
    subst e1
    have hc : cc < 30 := Nat.lt_of_lt_of_le e2 h30
    have hv := h.v
    simp only [lT_s, jn_s, c0_s, cp_s, cx_s, cx_t, gK_t (k_1 hy), gN_t (r := 1) (by decide), r_1_0 hy, r_1_1 hy, r_1_2 hy, r_1_3 hy, r_1_4 hy, r_1_5 hy, r_1_6 hy, r_1_7 hy, r_1_8 hy, r_1_9 hy, r_1_10 hy, gK_t (k_4 hy), gN_t (r := 4) (by decide), r_4_6 hy, r_4_7 hy, r_4_8 hy, gK_t (k_30 hy), gN_t (r := 30) (by decide), r_30_0 hy, r_30_1 hy, r_30_2 hy, r_30_3 hy, r_30_4 hy, r_30_5 hy, gK_t (k_37 hy), gN_t (r := 37) (by decide), r_37_0 hy, r_37_1 hy, r_37_2 hy, r_37_3 hy, r_37_4 hy, r_37_5 hy, r_37_6 hy, blueOf_37 hy hc, besideBits_4 hy hc, girlsAt_c hy h v cc]
    by_cases qw : inR 0 3 w
    · rw [if_pos qw]
      refine wp_brf (fun z => out3.mp z qw) ?_
      obtain ⟨q1, -, q3⟩ := inR_n qw
      generalize w.toInt.toNat = m at q1 q3
      subst q1
      have fin : ∀ r, r = cellN A cc m → wp (some (0, r, M)) (OC A (0, cellN A cc m) M) := fun r hr => OC.ret' hr h (kM.refl M)
      rcases m4 q3 with rfl | rfl | rfl | rfl
      · exact wp_brt (by decide) (fin _ (congrFun hv.1.1 cc))
      · iterate 1 refine wp_brf (by decide) ?_
        exact wp_brt (by decide) (fin _ (h.1.be v.1 e2))
      · iterate 2 refine wp_brf (by decide) ?_
        exact wp_brt (by decide) (fin _ rfl)
      · iterate 3 refine wp_brf (by decide) ?_
        exact wp_cp _ (patchBits_s hy h v e2 0) (fun r hr => fin _ (patP_eq hr))
    · rw [if_neg qw]
      exact wp_brt (out3.mpr qw) (OC.thr h (by decide))
  · have qq : ¬ inN (kn (aK A)) c := q
    rw [e, if_neg qq]
    exact OC.thr h (by decide)
theorem cell_m {y : Lay} (hy : LY y) {A : St} {M : Mem} (h : MR A M) (v : VAL A) (c w : Int32) : wp (f_X12_cell y 73 c w M) (OM A (cellP A c w) M) := by
  unfold f_X12_cell cellP
  have h30 := v.1.n30
  rw [gK_t (k_73 hy)]
  refine OM.start hy h (fun M0 h0 g0 hc0 => ?_)
  rcases isCell_s hy (h0.1.geo v.1) c with ⟨q, e⟩ | ⟨q, e⟩
  · have qq : inN (kn (aK A)) c := q
    rw [e, cp_s, if_pos qq]
    clear qq
    refine wp_brf (by decide) ?_
    obtain ⟨e1, e2⟩ := inN_n q
    generalize c.toInt.toNat = cc at e1 e2
    subst e1
    have hc : cc < 30 := Nat.lt_of_lt_of_le e2 h30
    have hv := h0.v
    simp only [lT_s, jn_s, c0_s, cp_s, cx_s, cx_t, gN_t (r := 87) (by decide), r_73_28 hy, gA_n (k_87 hy) hc (by omega), n2_nat (show cc < 2147483648 by omega), besideM hy (h0.1.geo v.1) hc, girlsAt_m hy h0 v cc]
    by_cases qw : inR 0 3 w
    · rw [if_pos qw]
      refine wp_brf (fun z => out3.mp z qw) ?_
      obtain ⟨q1, -, q3⟩ := inR_n qw
      generalize w.toInt.toNat = m at q1 q3
      subst q1
      have fin : ∀ r, r = cellN A cc m → wp (some (r, M0)) (OM A (0, cellN A cc m) M) := fun r hr => OM.ret' hr h0 g0 hc0
      rcases m4 q3 with rfl | rfl | rfl | rfl
      · exact wp_brt (by decide) (fin _ (congrFun hv.1.1 cc))
      · iterate 1 refine wp_brf (by decide) ?_
        exact wp_brt (by decide) (fin _ rfl)
      · iterate 2 refine wp_brf (by decide) ?_
        exact wp_brt (by decide) (fin _ rfl)
      · iterate 3 refine wp_brf (by decide) ?_
        exact wp_cp _ (patchOf_s hy h0 v e2 0) (fun r hr => fin _ (patP_eq hr))
    · rw [if_neg qw]
      exact wp_brt (out3.mpr qw) (OM.fail hy rfl (by decide) h0 g0)
  · have qq : ¬ inN (kn (aK A)) c := q
    rw [e, cp_s, if_neg qq]
    exact wp_brt rfl (OM.fail hy rfl (by decide) h0 g0)
/-! patch -/
noncomputable def patchP (A : St) (c off : Int32) : Nat × Int32 := if inN (kn (aK A)) c then (if inR 0 99 off then (0, patP (aK A) (sB (aS A)) off c.toInt.toNat) else (2, 0)) else (1, 0)
theorem patch_c {y : Lay} (hy : LY y) {A : St} {M : Mem} (h : CR A M) (v : VAL A) (c off : Int32) : wp (f_X11_patch y 1 c off M) (OC A (patchP A c off) M) := by
  unfold f_X11_patch patchP
  rw [gK_t (k_1 hy)]
  rcases needCell_s hy (h.1.geo v.1) c with ⟨q, e⟩ | ⟨q, e⟩
  · have qq : inN (kn (aK A)) c := q
    rw [e, cx_s, if_pos qq]
    clear qq
    obtain ⟨e1, e2⟩ := inN_n q
    generalize c.toInt.toNat = cc at e1 e2
    subst e1
    rcases needWithin_s (y := y) (M := M) (a := 0) (b := 99) (by decide) (by decide) off with ⟨w, e⟩ | ⟨w, e⟩
    · have e : f_X11_needWithin y 1 off 0 99 M = some (0, 0, M) := e
      rw [e, cx_s, if_pos w]
      simp only [lT_s, jn_s, c0_s, cp_s, cx_s, cx_t, gK_t (k_1 hy), gN_t (r := 1) (by decide), r_1_0 hy, r_1_1 hy, r_1_2 hy, r_1_3 hy, r_1_4 hy, r_1_5 hy, r_1_6 hy, r_1_7 hy, r_1_8 hy, r_1_9 hy, r_1_10 hy, gK_t (k_30 hy), gN_t (r := 30) (by decide), r_30_0 hy, r_30_1 hy, r_30_2 hy, r_30_3 hy, r_30_4 hy, r_30_5 hy, gK_t (k_37 hy), gN_t (r := 37) (by decide), r_37_0 hy, r_37_1 hy, r_37_2 hy, r_37_3 hy, r_37_4 hy, r_37_5 hy, r_37_6 hy]
      exact wp_cp _ (patchBits_s hy h v e2 off) (fun r hr => OC.ret' (patP_eq hr) h (kM.refl M))
    · have e : f_X11_needWithin y 1 off 0 99 M = some (2, 0, M) := e
      rw [e, if_neg w]
      exact OC.thr h (by decide)
  · have qq : ¬ inN (kn (aK A)) c := q
    rw [e, if_neg qq]
    exact OC.thr h (by decide)
theorem patch_m {y : Lay} (hy : LY y) {A : St} {M : Mem} (h : MR A M) (v : VAL A) (c off : Int32) : wp (f_X12_patch y 73 c off M) (OM A (patchP A c off) M) := by
  unfold f_X12_patch patchP
  rw [gK_t (k_73 hy)]
  refine OM.start hy h (fun M0 h0 g0 hc0 => ?_)
  rcases isCell_s hy (h0.1.geo v.1) c with ⟨q, e⟩ | ⟨q, e⟩
  · have qq : inN (kn (aK A)) c := q
    rw [e, cp_s, if_pos qq]
    clear qq
    refine wp_brf (by decide) ?_
    obtain ⟨e1, e2⟩ := inN_n q
    generalize c.toInt.toNat = cc at e1 e2
    subst e1
    rcases isIn_r (y := y) (M := M0) (a := 0) (b := 99) (la := 0) (lb := 99) (by decide) (by decide) off with ⟨w, e⟩ | ⟨w, e⟩
    · rw [e, cp_s, if_pos w]
      refine wp_brf (by decide) ?_
      exact wp_cp _ (patchOf_s hy h0 v e2 off) (fun r hr => OM.ret' (patP_eq hr) h0 g0 hc0)
    · rw [e, cp_s, if_neg w]
      exact wp_brt rfl (OM.fail hy rfl (by decide) h0 g0)
  · have qq : ¬ inN (kn (aK A)) c := q
    rw [e, cp_s, if_neg qq]
    exact wp_brt rfl (OM.fail hy rfl (by decide) h0 g0)
/-! patches -/
noncomputable def ptsF (A : St) (off : Int32) : Nat → Int32 × Int32 → Int32 × Int32 := fun c q => if bt q.2 c = 0 then (q.1 + 1, q.2 ||| patP (aK A) (sB (aS A)) off c) else q
noncomputable def ptsP (A : St) (off : Int32) : Nat × Int32 := if inR 0 99 off then (0, (it (ptsF A off) (0, 0) (kn (aK A))).1) else (2, 0)
noncomputable def ptsPm (A : St) (off : Int32) : Nat × Int32 := if inR 0 99 off then (0, (it (ptsF A off) (0, 0) (kn (aK A))).1) else (1, 0)
theorem patches_c {y : Lay} (hy : LY y) {A : St} {M : Mem} (h : CR A M) (v : VAL A) (off : Int32) : wp (f_X11_patches y 1 off M) (OC A (ptsP A off) M) := by
  unfold f_X11_patches ptsP
  have h30 := v.1.n30
  rw [gK_t (k_1 hy)]
  rcases needWithin_s (y := y) (M := M) (a := 0) (b := 99) (by decide) (by decide) off with ⟨w, e⟩ | ⟨w, e⟩
  · have e : f_X11_needWithin y 1 off 0 99 M = some (0, 0, M) := e
    rw [e, cx_s, if_pos w]
    simp only [lT_s, jn_s, c0_s, cp_s, cx_s, cx_t, gK_t (k_1 hy), gN_t (r := 1) (by decide), r_1_0 hy, r_1_1 hy, r_1_2 hy, r_1_3 hy, r_1_4 hy, r_1_5 hy, r_1_6 hy, r_1_7 hy, r_1_8 hy, r_1_9 hy, r_1_10 hy, gK_t (k_4 hy), gN_t (r := 4) (by decide), r_4_6 hy, r_4_7 hy, r_4_8 hy, gK_t (k_30 hy), gN_t (r := 30) (by decide), r_30_0 hy, r_30_1 hy, r_30_2 hy, r_30_3 hy, r_30_4 hy, r_30_5 hy, gK_t (k_37 hy), gN_t (r := 37) (by decide), r_37_0 hy, r_37_1 hy, r_37_2 hy, r_37_3 hy, r_37_4 hy, r_37_5 hy, r_37_6 hy, cells_4 hy (h.1.geo v.1)]
    refine wp_for3 (i0 := 0) (kn (aK A)) (fun i a b => (a, b) = it (ptsF A off) (0, 0) i) (by have : FUEL = 100000 := rfl; omega) rfl (by omega) rfl ?_ ?_
    · intro f i a b hi hI hk
      refine wp_brf (by show ¬ n2 (kn (aK A)) ≤ n2 i; rw [n2_le (by omega) (by omega)]; omega) ?_
      have hS : it (ptsF A off) (0, 0) (i + 1) = ptsF A off i (a, b) := by rw [hI]; rfl
      rw [hS] at hk
      unfold ptsF at hk
      dsimp only at hk
      refine wp_br (fun q => ?_) (fun q => ?_)
      · have q' : bt b i = 0 := q
        rw [if_pos q'] at hk
        refine wp_cp _ (patchBits_s hy h v hi off) (fun r hr => ?_)
        rw [n2_s]
        exact hk _ _ (by rw [patP_eq hr])
      · have q' : ¬ bt b i = 0 := q
        rw [if_neg q'] at hk
        rw [n2_s]
        exact hk _ _ rfl
    · intro f a b hI
      exact wp_brt (Int32.le_refl _) (OC.ret' (by rw [← hI]) h (kM.refl M))
  · have e : f_X11_needWithin y 1 off 0 99 M = some (2, 0, M) := e
    rw [e, if_neg w]
    exact OC.thr h (by decide)
theorem patches_m {y : Lay} (hy : LY y) {A : St} {M : Mem} (h : MR A M) (v : VAL A) (off : Int32) : wp (f_X12_patches y 73 off M) (OM A (ptsPm A off) M) := by
  unfold f_X12_patches ptsPm
  have h30 := v.1.n30
  rw [gK_t (k_73 hy)]
  refine OM.start hy h (fun M0 h0 g0 hc0 => ?_)
  rcases isIn_r (y := y) (M := M0) (a := 0) (b := 99) (la := 0) (lb := 99) (by decide) (by decide) off with ⟨w, e⟩ | ⟨w, e⟩
  · rw [e, cp_s, if_pos w]
    refine wp_brf (by decide) ?_
    simp only [lT_s, jn_s, c0_s, cp_s, cx_s, cx_t, cellsG hy (h0.1.geo v.1)]
    refine wp_for3 (i0 := 0) (kn (aK A)) (fun i a b => (a, b) = it (ptsF A off) (0, 0) i) (by have : FUEL = 100000 := rfl; omega) rfl (by omega) rfl ?_ ?_
    · intro f i a b hi hI hk
      refine wp_brf (by show ¬ n2 (kn (aK A)) ≤ n2 i; rw [n2_le (by omega) (by omega)]; omega) ?_
      have hS : it (ptsF A off) (0, 0) (i + 1) = ptsF A off i (a, b) := by rw [hI]; rfl
      rw [hS] at hk
      unfold ptsF at hk
      dsimp only at hk
      rw [isOf_f, cp_s]
      rcases bt01 b i with q | q
      · rw [fl01_0 q]
        rw [if_pos q] at hk
        refine wp_brt rfl ?_
        refine wp_cp _ (patchOf_s hy h0 v hi off) (fun r hr => ?_)
        rw [n2_s]
        exact hk _ _ (by rw [patP_eq hr])
      · rw [fl01_1 q]
        rw [if_neg (by rw [q]; decide)] at hk
        refine wp_brf (by decide) ?_
        rw [n2_s]
        exact hk _ _ rfl
    · intro f a b hI
      exact wp_brt (Int32.le_refl _) (OM.ret' (by rw [← hI]) h0 g0 hc0)
  · rw [e, cp_s, if_neg w]
    exact wp_brt rfl (OM.fail hy rfl (by decide) h0 g0)
/-! steps -/
def stepsP (A : St) (g c : Int32) : Nat × Int32 := if inN (kg (aK A)) g ∧ inN (kn (aK A)) c then (0, n2 (dist (kw (aK A)) (sSp (aS A) g.toInt.toNat).toNatClampNeg c.toInt.toNat)) else (1, 0)
theorem steps_c {y : Lay} (hy : LY y) {A : St} {M : Mem} (h : CR A M) (v : VAL A) (g c : Int32) : wp (f_X11_steps y 1 g c M) (OC A (stepsP A g c) M) := by
  unfold f_X11_steps stepsP
  have hg6 := v.1.2.1.2.2
  have h30 := v.1.n30
  rw [gK_t (k_1 hy)]
  rcases needGirl_s hy h.1.1.2.2.2.2.1 hg6 g with ⟨q, e⟩ | ⟨q, e⟩
  · rcases needCell_s hy (h.1.geo v.1) c with ⟨q', e'⟩ | ⟨q', e'⟩
    · have qq : inN (kg (aK A)) g ∧ inN (kn (aK A)) c := ⟨q, q'⟩
      rw [e, cx_s, e', cx_s, if_pos qq]
      clear qq
      obtain ⟨e1, e2⟩ := inN_n q
      obtain ⟨e3, e4⟩ := inN_n q'
      generalize g.toInt.toNat = gg at e1 e2 ⊢
      generalize c.toInt.toNat = cc at e3 e4 ⊢
      subst e1 e3
      have hc : cc < 30 := Nat.lt_of_lt_of_le e4 h30
      obtain ⟨s1, s2⟩ := (h.sok v).2.1.n gg h30
      have hv : M.1 41 = sSp (aS A) := h.v.1.2.1
      have s1 : (M.1 41 gg).toNatClampNeg < kn (aK A) := s1
      have s2 : M.1 41 gg = n2 (M.1 41 gg).toNatClampNeg := s2
      rw [hv] at s1 s2
      simp only [lT_s, jn_s, c0_s, cp_s, cx_s, cx_t, gK_t (k_1 hy), gN_t (r := 1) (by decide), r_1_0 hy, r_1_1 hy, r_1_2 hy, r_1_3 hy, r_1_4 hy, r_1_5 hy, r_1_6 hy, r_1_7 hy, r_1_8 hy, r_1_9 hy, r_1_10 hy, gK_t (k_4 hy), gN_t (r := 4) (by decide), r_4_6 hy, r_4_7 hy, r_4_8 hy, gK_t (k_30 hy), gN_t (r := 30) (by decide), r_30_0 hy, r_30_1 hy, r_30_2 hy, r_30_3 hy, r_30_4 hy, r_30_5 hy, gK_t (k_37 hy), gN_t (r := 37) (by decide), r_37_0 hy, r_37_1 hy, r_37_2 hy, r_37_3 hy, r_37_4 hy, r_37_5 hy, r_37_6 hy, spotOf_37 hy (show gg < 6 by omega), hv]
      rw [s2, stepsBetween_4 hy (h.1.geo v.1) (by omega) (by omega), cp_s, n2_nat (by omega)]
      exact OC.ret h (kM.refl M)
    · rw [e, cx_s, e', if_neg (fun z => q' z.2)]
      exact OC.thr h (by decide)
  · rw [e, if_neg (fun z => q z.1)]
    exact OC.thr h (by decide)
theorem steps_m {y : Lay} (hy : LY y) {A : St} {M : Mem} (h : MR A M) (v : VAL A) (g c : Int32) : wp (f_X12_steps y 73 g c M) (OM A (stepsP A g c) M) := by
  unfold f_X12_steps stepsP
  have hg6 := v.1.2.1.2.2
  have h30 := v.1.n30
  rw [gK_t (k_73 hy)]
  refine OM.start hy h (fun M0 h0 g0 hc => ?_)
  simp only [lT_s, jn_s, c0_s, cp_s, cx_s, cx_t]
  have hth : ¬ (inN (kg (aK A)) g ∧ inN (kn (aK A)) c) → wp (c0 (f_X12_fail y 73 1 M0) fun (r5 : Int32) (M6 : Mem) => some (r5, M6)) (OM A (if inN (kg (aK A)) g ∧ inN (kn (aK A)) c then (0, n2 (dist (kw (aK A)) (sSp (aS A) g.toInt.toNat).toNatClampNeg c.toInt.toNat)) else (1, 0)) M) := fun q => by
    rw [if_neg q]
    exact OM.fail hy rfl (by decide) h0 g0
  rcases isGirl_s hy h0.1.1.2.2.2.2 hg6 g with ⟨q, e⟩ | ⟨q, e⟩
  · rw [e, cp_s]
    refine wp_brf (by decide) ?_
    rcases isCell_s hy (h0.1.geo v.1) c with ⟨q', e'⟩ | ⟨q', e'⟩
    · have qq : inN (kg (aK A)) g ∧ inN (kn (aK A)) c := ⟨q, q'⟩
      rw [e', cp_s, if_pos qq]
      clear qq hth
      refine wp_brf (by decide) ?_
      obtain ⟨e1, e2⟩ := inN_n q
      obtain ⟨e3, e4⟩ := inN_n q'
      generalize g.toInt.toNat = gg at e1 e2 ⊢
      generalize c.toInt.toNat = cc at e3 e4 ⊢
      subst e1 e3
      have hc2 : cc < 30 := Nat.lt_of_lt_of_le e4 h30
      obtain ⟨s1, s2⟩ := (h0.sok v).2.1.n gg h30
      have hv : M0.1 88 = sSp (aS A) := h0.v.1.2.1
      have s1 : (M0.1 88 gg).toNatClampNeg < kn (aK A) := s1
      have s2 : M0.1 88 gg = n2 (M0.1 88 gg).toNatClampNeg := s2
      rw [hv] at s1 s2
      simp only [gN_t (r := 88) (by decide), r_73_29 hy, gA_n (k_88 hy) (show gg < 6 by omega) (by omega), n2_nat (show gg < 2147483648 by omega), hv]
      rw [s2, farM hy (h0.1.geo v.1) (by omega) (by omega), cp_s, n2_nat (by omega)]
      exact OM.ret h0 g0 hc
    · rw [e', cp_s]
      refine wp_brt rfl (hth (fun z => q' z.2))
  · rw [e, cp_s]
    exact wp_brt rfl (hth (fun z => q z.1))
