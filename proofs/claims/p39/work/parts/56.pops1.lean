/-! ===== calls: fault, count, girl; refusing; days, bag ===== -/
def wM (A : St) (m : Mm) : St := (aK A, m, aI A, aT A, aF A)
abbrev mS (m : Mm) : Sk := m.1
abbrev mA (m : Mm) : Ac := m.2.1
abbrev mN (m : Mm) : Sn := m.2.2.1
abbrev mT (m : Mm) : Row := m.2.2.2
theorem b_eqo {S T : Sk} (h : vo S = vo T) : sB S = sB T := by have e := congrArg sB h; exact e
theorem sp_eqo {S T : Sk} (h : vo S = vo T) : sSp S = sSp T := by have e := congrArg sSp h; exact e
theorem sk_eqo {S T : Sk} (h : vo S = vo T) : sSk S = sSk T := by have e := congrArg sSk h; exact e
theorem pg_eqo {S T : Sk} (h : vo S = vo T) : sPg S = sPg T := by have e := congrArg sPg h; exact e
theorem rs_eqo {S T : Sk} (h : vo S = vo T) : sRs S = sRs T := by have e := congrArg sRs h; exact e
theorem kn_eqo {S T : Sk} (h : vo S = vo T) : sKn S = sKn T := by have e := congrArg sKn h; exact e
theorem ma_eqo {S T : Sk} (h : vo S = vo T) : sMa S = sMa T := by have e := congrArg sMa h; exact e
theorem dy_eqo {S T : Sk} (h : vo S = vo T) : sDy S = sDy T := by have e := congrArg sDy h; exact e
def refA (A : St) (k : Nat) : St := wM A (mS (aM A), mA (aM A), mN (aM A), up (mT (aM A)) k (mT (aM A) k + 1))
theorem VAL.ref {A : St} (v : VAL A) (k : Nat) : VAL (refA A k) := v
/-- rows of the model's 73 that hold something else than the sky -/
def K7 : List Nat := [4, 15, 24, 36, 37, 55, 56, 57]
def F73 (M N : Mem) : Prop := ∀ k, K7.contains k = true → N.1 73 k = M.1 73 k
theorem F73.refl (M : Mem) : F73 M M := fun _ _ => rfl
theorem F73.trans {M N P : Mem} (h : F73 M N) (g : F73 N P) : F73 M P := fun k hk => (g k hk).trans (h k hk)
theorem K7_ne {k : Nat} (h : K7.contains k = true) : ¬ (31 ≤ k ∧ k ≤ 35) ∧ ¬ k = 41 ∧ ¬ k = 52 ∧ ¬ k = 54 := by
  have h' : k ∈ K7 := List.contains_iff_mem.mp h
  unfold K7 at h'
  simp only [List.mem_cons, List.not_mem_nil, or_false] at h'
  omega
theorem F73.day {M N : Mem} (h : ∀ k, ¬ k = 31 → ¬ k = 32 → ¬ k = 33 → ¬ k = 41 → N.1 73 k = M.1 73 k) : F73 M N := fun k hk => by
  have := K7_ne hk
  exact h k (by omega) (by omega) (by omega) (by omega)
theorem F73.un {M N : Mem} (h : ∀ k, ¬ (31 ≤ k ∧ k ≤ 35) → N.1 73 k = M.1 73 k) : F73 M N := fun k hk => h k (K7_ne hk).1
theorem F73.row {M N : Mem} (h : N.1 73 = M.1 73) : F73 M N := fun k _ => by rw [h]
theorem F73.up {M : Mem} {j : Nat} {x : Int32} (hj : K7.contains j = false) : F73 M (sr M 73 (up (M.1 73) j x)) := fun k hk => by
  rw [sr_ap, up_ne]
  intro e
  rw [e, hj] at hk
  cases hk
/-- the model holds it again -/
theorem MR.look {A : St} {M N : Mem} (h : MR A M) (e : Eqx [73, 87, 88, 90, 91, 92, 93, 94, 95, 96, 100, 101, 102, 103] M N) (hv : vo (moV N) = vo (moV M)) (h73 : F73 M N) : MR A N := by
  have g : ∀ k, K7.contains k = true → N.1 73 k = M.1 73 k := h73
  refine MR.upd h (e.mono (by decide)) ⟨g 15 (by decide), g 24 (by decide), g 55 (by decide), g 56 (by decide), g 57 (by decide)⟩ (m := aM A) ?_
  obtain ⟨b1, b2, b3, b4⟩ := h.2.1
  refine ⟨hv.trans b1, ?_, ?_, ?_⟩
  · rw [g 36 (by decide), e.2 89 (by decide)]; exact b2
  · rw [g 37 (by decide), e.2 97 (by decide), e.2 98 (by decide), e.2 99 (by decide)]; exact b3
  · rw [e.2 84 (by decide)]; exact b4
theorem code0 (M : Mem) : (sr M 73 (up (M.1 73) 4 0)).1 73 4 = 0 := by rw [sr_ap, up_eq]
theorem refuse_c {y : Lay} (hy : LY y) {M : Mem} {k : Nat} (hk : k < 3) : f_X4_refuse y 30 (n2 k) M = some (0, sr M 36 (up (M.1 36) k (M.1 36 k + 1))) := by
  unfold f_X4_refuse
  have h1 : ¬ n2 k < 0 := n2_n0 (by omega)
  have h2 : ¬ (3 : Int32) ≤ n2 k := nle_l (m := 3) rfl hk (by omega)
  simp only [lT_s, jn_s, c0_s, cp_s, cx_s, cx_t, bR_f h1, bR_f h2, gK_t (k_30 hy), gN_t (r := 30) (by decide), r_30_0 hy, r_30_1 hy, r_30_2 hy, r_30_3 hy, r_30_4 hy, r_30_5 hy, gN_t (r := 36) (by decide), gA_n (k_36 hy) hk (by omega), n2_nat (show k < 2147483648 by omega), wI_sr]
theorem refuse_c0 {y : Lay} (hy : LY y) {M : Mem} : f_X4_refuse y 30 0 M = some (0, sr M 36 (up (M.1 36) 0 (M.1 36 0 + 1))) := refuse_c hy (k := 0) (by decide)
theorem refuse_c1 {y : Lay} (hy : LY y) {M : Mem} : f_X4_refuse y 30 1 M = some (0, sr M 36 (up (M.1 36) 1 (M.1 36 1 + 1))) := refuse_c hy (k := 1) (by decide)
theorem refuse_c2 {y : Lay} (hy : LY y) {M : Mem} : f_X4_refuse y 30 2 M = some (0, sr M 36 (up (M.1 36) 2 (M.1 36 2 + 1))) := refuse_c hy (k := 2) (by decide)
theorem refuse_m {y : Lay} (hy : LY y) {M : Mem} {k : Nat} (hk : k < 3) : f_X12_refuse y 73 (n2 k) M = some (-1, sr M 84 (up (M.1 84) k (M.1 84 k + 1))) := by
  unfold f_X12_refuse
  simp only [lT_s, jn_s, c0_s, cp_s, cx_s, cx_t, gK_t (k_73 hy), gN_t (r := 73) (by decide), r_73_0 hy, r_73_1 hy, r_73_2 hy, r_73_5 hy, r_73_6 hy, r_73_7 hy, r_73_8 hy, r_73_9 hy, r_73_10 hy, r_73_11 hy, r_73_12 hy, r_73_13 hy, r_73_14 hy, r_73_28 hy, r_73_29 hy, r_73_30 hy, r_73_38 hy, r_73_39 hy, r_73_40 hy, r_73_42 hy, r_73_43 hy, r_73_44 hy, r_73_45 hy, r_73_46 hy, r_73_47 hy, r_73_48 hy, r_73_49 hy, r_73_50 hy, r_73_51 hy, r_73_53 hy, r_73_58 hy, r_73_59 hy, r_73_60 hy, r_73_61 hy, r_73_62 hy, r_73_63 hy, gN_t (r := 84) (by decide), gA_n (k_84 hy) hk (by omega), n2_nat (show k < 2147483648 by omega), wI_sr]
theorem CR.ref {A : St} {M : Mem} (h : CR A M) {k : Nat} (hk : k < 3) : CR (refA A k) (sr M 36 (up (M.1 36) k (M.1 36 k + 1))) := by
  refine CR.upd h ((Eqx.refl _ _).sr (by decide)) ?_
  obtain ⟨b1, b2, b3, b4⟩ := h.2.1
  refine ⟨b1, b2, b3, fun j hj => ?_⟩
  rw [sr_ap]
  unfold up
  by_cases e : j = k
  · rw [if_pos e, b4 k hk]; exact (if_pos e).symm
  · rw [if_neg e, b4 j hj]; exact (if_neg e).symm
theorem MR.ref {A : St} {M : Mem} (h : MR A M) {k : Nat} (hk : k < 3) : MR (refA A k) (sr M 84 (up (M.1 84) k (M.1 84 k + 1))) := by
  refine MR.upd h ((Eqx.refl _ _).sr (by decide)) ⟨rfl, rfl, rfl, rfl, rfl⟩ ?_
  obtain ⟨b1, b2, b3, b4⟩ := h.2.1
  refine ⟨b1, b2, b3, fun j hj => ?_⟩
  rw [sr_ap]
  unfold up
  by_cases e : j = k
  · rw [if_pos e, b4 k hk]; exact (if_pos e).symm
  · rw [if_neg e, b4 j hj]; exact (if_neg e).symm
theorem refuseAct_c {y : Lay} (hy : LY y) {A : St} {M : Mem} (h : CR A M) : wp (f_X11_refuseAct y 1 M) (OD (refA A 1) (-1) M) := by
  unfold f_X11_refuseAct
  simp only [lT_s, jn_s, c0_s, cp_s, cx_s, cx_t, gK_t (k_1 hy), gN_t (r := 1) (by decide), r_1_0 hy, r_1_1 hy, r_1_2 hy, r_1_3 hy, r_1_4 hy, r_1_5 hy, r_1_6 hy, r_1_7 hy, r_1_8 hy, r_1_9 hy, r_1_10 hy, gK_t (k_30 hy), gN_t (r := 30) (by decide), r_30_0 hy, r_30_1 hy, r_30_2 hy, r_30_3 hy, r_30_4 hy, r_30_5 hy]
  rw [refuse_c1 hy, c0_s]
  exact wp_some ⟨rfl, h.ref (by decide), kM_sr (kM.refl M) (by decide)⟩
theorem refuse_om {y : Lay} (hy : LY y) {A : St} {M N : Mem} (h : MR A N) (g : kC M N) (hc : N.1 73 4 = 0) {k : Nat} (hk : k < 3) : wp (c0 (f_X12_refuse y 73 (n2 k) N) fun (r : Int32) (M' : Mem) => some (r, M')) (OM (refA A k) (0, -1) M) := by
  rw [refuse_m hy hk, c0_s]
  exact wp_some ⟨hc, fun _ => rfl, h.ref hk, kC_sr g (by decide)⟩
/-! fault -/
theorem fault_c {y : Lay} (hy : LY y) {A : St} {M : Mem} (h : CR A M) : f_X11_fault y 1 M = some (aF A) := by
  unfold f_X11_fault
  rw [gK_t (k_1 hy), h.2.2.2.2.2]
theorem fault_m {y : Lay} (hy : LY y) {A : St} {M : Mem} (h : MR A M) : wp (f_X12_fault y 73 M) (OM A (0, aF A) M) := by
  unfold f_X12_fault
  rw [gK_t (k_73 hy), lT_s, wI_sr]
  refine wp_some ⟨code0 M, fun _ => ?_, h.code 0, kC_sr (kC.refl M) (by decide)⟩
  show (sr M 73 (up (M.1 73) 4 0)).1 73 24 = _
  rw [sr_ap, up_ne (by decide)]
  exact h.2.2.2.2
/-! days -/
theorem pDays_sk (K : KG) (S : Sk) : ∀ d, sSk (pDays K S d) = sSk S := by
  intro d
  induction d with
  | zero => rfl
  | succ d ih => exact ih
theorem pDays_sp (K : KG) (S : Sk) : ∀ d, sSp (pDays K S d) = sSp S := by
  intro d
  induction d with
  | zero => rfl
  | succ d ih => exact ih
theorem pDays_dy (K : KG) (S : Sk) {m : Nat} (h : sDy S = n2 m) : ∀ d, sDy (pDays K S d) = n2 (m + d) := by
  intro d
  induction d with
  | zero => exact h
  | succ d ih =>
    show sDy (pDays K S d) + 1 = _
    rw [ih, n2_s]; rfl
theorem keepA_ok {K : KG} {a : Ac} {S : Sk} (h : a.1 ≤ 40 ∧ ∀ j, j < a.1 → AOK K (a.2 j)) (hS : AOK K S) : (keepA a S).1 ≤ 40 ∧ ∀ j, j < (keepA a S).1 → AOK K ((keepA a S).2 j) := by
  by_cases q : a.1 < 40
  · rw [keepA_lt q]
    refine ⟨by show a.1 + 1 ≤ 40; omega, fun j hj => ?_⟩
    have hj : j < a.1 + 1 := hj
    show AOK K (if j = a.1 then S else a.2 j)
    split
    · exact hS
    · exact h.2 j (by omega)
  · rw [keepA_ge q]
    refine ⟨by show 40 ≤ 40; omega, fun j hj => ?_⟩
    have hj : j < 40 := hj
    show AOK K (if j = 39 then S else a.2 (j + 1))
    split
    · exact hS
    · exact h.2 (j + 1) (by have := h.1; omega)
/-- another sky, the old one kept -/
def actA (A : St) (S : Sk) : St := wM A (S, keepA (mA (aM A)) (aS A), mN (aM A), mT (aM A))
theorem VAL.act {A : St} (v : VAL A) {S : Sk} (h : AOK (aK A) S) (hk : sSk S = sSk (aS A)) : VAL (actA A S) := by
  obtain ⟨v1, ⟨v2, v3, v4⟩, v5, v6⟩ := v
  exact ⟨v1, ⟨h, keepA_ok v3 v2, v4⟩, fun q => ⟨(v5 q).1, (v5 q).2.trans hk.symm⟩, v6⟩
/-- the class keeps an act -/
theorem keep_oc {y : Lay} (hy : LY y) {A : St} {M : Mem} (h : CR A M) (v : VAL A) : wp (f_X4_keepAct y 30 M) (fun o => o.1 = 0 ∧ Eqx [31, 32] M o.2 ∧ CR (actA A (aS A)) o.2) := by
  obtain ⟨b1, b2, b3, b4⟩ := h.2.1
  refine wp_mono (keepAct_c hy (a := mA (aM A)) (S := aS A) b2.1 v.2.1.2.1.1 b2.2 b1) (fun o q => ?_)
  obtain ⟨q1, q2, q3, q4⟩ := q
  refine ⟨q1, q2, CR.upd h (q2.mono (by decide)) ⟨?_, ⟨q3, q4⟩, ?_, ?_⟩⟩
  · show vo (skV o.2 37 38 41 42) = vo (aS A)
    rw [← b1]; unfold skV
    rw [q2.2 37 (by decide), q2.2 38 (by decide), q2.2 41 (by decide), q2.2 42 (by decide)]
  · rw [q2.2 30 (by decide), q2.2 33 (by decide), q2.2 34 (by decide), q2.2 35 (by decide)]; exact b3
  · rw [q2.2 36 (by decide)]; exact b4
theorem keep_om {y : Lay} (hy : LY y) {A : St} {M : Mem} (h : MR A M) (v : VAL A) : wp (f_X12_keep y 73 M) (fun o => o.1 = 0 ∧ Eqx [73, 89] M o.2 ∧ MR (actA A (aS A)) o.2 ∧ ∀ k, ¬ k = 36 → o.2.1 73 k = M.1 73 k) := by
  obtain ⟨b1, b2, b3, b4⟩ := h.2.1
  refine wp_mono (keep_m hy (a := mA (aM A)) (S := aS A) b2.1 v.2.1.2.1.1 b2.2 b1) (fun o q => ?_)
  obtain ⟨q1, q2, q3, q4⟩ := q
  have k73 : ∀ k, ¬ k = 36 → o.2.1 73 k = M.1 73 k := fun k hk => by rw [q3, up_ne hk]
  refine ⟨q1, q2, MR.upd h (q2.mono (by decide)) ⟨k73 15 (by decide), k73 24 (by decide), k73 55 (by decide), k73 56 (by decide), k73 57 (by decide)⟩ ⟨?_, ⟨?_, q4⟩, ?_, ?_⟩, k73⟩
  · show vo (moV o.2) = vo (aS A)
    rw [← b1]; unfold moV
    rw [k73 31 (by decide), k73 32 (by decide), k73 33 (by decide), k73 34 (by decide), k73 35 (by decide), q2.2 87 (by decide), q2.2 88 (by decide), q2.2 85 (by decide)]
    rfl
  · rw [q3, up_eq]
  · rw [k73 37 (by decide), q2.2 97 (by decide), q2.2 98 (by decide), q2.2 99 (by decide)]; exact b3
  · rw [q2.2 84 (by decide)]; exact b4
theorem wM_act (A : St) (S T : Sk) : wM (actA A S) (T, mA (aM (actA A S)), mN (aM (actA A S)), mT (aM (actA A S))) = actA A T := rfl
/-- the class's sky alone is another -/
theorem CR.sky {A : St} {M N : Mem} (h : CR A M) (e : Eqx [8, 11, 37, 38, 39, 40, 41, 42, 43] M N) {S : Sk} (hv : vo (skV N 37 38 41 42) = vo S) : CR (wM A (S, mA (aM A), mN (aM A), mT (aM A))) N := by
  obtain ⟨b1, b2, b3, b4⟩ := h.2.1
  refine CR.upd h (e.mono (by decide)) ⟨hv, ?_, ?_, ?_⟩
  · rw [e.2 31 (by decide), e.2 32 (by decide)]; exact b2
  · rw [e.2 30 (by decide), e.2 33 (by decide), e.2 34 (by decide), e.2 35 (by decide)]; exact b3
  · rw [e.2 36 (by decide)]; exact b4
theorem MR.sky {A : St} {M N : Mem} (h : MR A M) (e : Eqx [73, 87, 88, 90, 91, 92] M N) (h73 : F73 M N) {S : Sk} (hv : vo (moV N) = vo S) : MR (wM A (S, mA (aM A), mN (aM A), mT (aM A))) N := by
  have g : ∀ k, K7.contains k = true → N.1 73 k = M.1 73 k := h73
  obtain ⟨b1, b2, b3, b4⟩ := h.2.1
  refine MR.upd h (e.mono (by decide)) ⟨g 15 (by decide), g 24 (by decide), g 55 (by decide), g 56 (by decide), g 57 (by decide)⟩ ⟨hv, ?_, ?_, ?_⟩
  · rw [g 36 (by decide), e.2 89 (by decide)]; exact b2
  · rw [g 37 (by decide), e.2 97 (by decide), e.2 98 (by decide), e.2 99 (by decide)]; exact b3
  · rw [e.2 84 (by decide)]; exact b4
abbrev daysQ (A : St) (n : Int32) : Prop := inR 1 20 n ∧ (sDy (aS A)).toInt + n.toInt ≤ 999
def daysA (A : St) (n : Int32) : St := if daysQ A n then actA A (vo (pDays (aK A) (aS A) n.toInt.toNat)) else refA A 1
def daysR (A : St) (n : Int32) : Int32 := if daysQ A n then sDy (pDays (aK A) (aS A) n.toInt.toNat) else -1
theorem days_val {A : St} (v : VAL A) (n : Int32) : VAL (daysA A n) := by
  unfold daysA
  split
  · rename_i q
    obtain ⟨m, hm, hd⟩ := v.2.1.1.2
    obtain ⟨⟨q1, q2⟩, q3⟩ := q
    rw [hd, n2_int (by omega)] at q3
    refine VAL.act v ⟨pDays_ok v.1 v.2.1.1.1 _, m + n.toInt.toNat, by omega, ?_⟩ (pDays_sk _ _ _)
    exact pDays_dy _ _ hd _
  · exact v
theorem days_c {y : Lay} (hy : LY y) {A : St} {M : Mem} (h : CR A M) (v : VAL A) (n : Int32) : wp (f_X11_days y 1 n M) (OD (daysA A n) (daysR A n) M) := by
  unfold f_X11_days
  simp only [lT_s, jn_s, c0_s, cp_s, cx_s, cx_t, gK_t (k_1 hy), gN_t (r := 1) (by decide), r_1_0 hy, r_1_1 hy, r_1_2 hy, r_1_3 hy, r_1_4 hy, r_1_5 hy, r_1_6 hy, r_1_7 hy, r_1_8 hy, r_1_9 hy, r_1_10 hy, gK_t (k_30 hy), gN_t (r := 30) (by decide), r_30_0 hy, r_30_1 hy, r_30_2 hy, r_30_3 hy, r_30_4 hy, r_30_5 hy, gK_t (k_37 hy), gN_t (r := 37) (by decide), r_37_0 hy, r_37_1 hy, r_37_2 hy, r_37_3 hy, r_37_4 hy, r_37_5 hy, r_37_6 hy]
  obtain ⟨m, hm, hd⟩ := v.2.1.1.2
  have ed : M.1 37 11 = n2 m := h.v.2.2.2.2.2.trans hd
  have z1 : (1 : Int32).toInt = 1 := by decide
  have z20 : (20 : Int32).toInt = 20 := by decide
  have e9 : (999 : Int32) - n2 m = n2 (999 - m) := n2_sub (a := 999) (by omega)
  have hrf : ¬ daysQ A n → wp (c0 (f_X11_refuseAct y 1 M) fun (r3 : Int32) (M4 : Mem) => some (r3, M4)) (OD (daysA A n) (daysR A n) M) := fun q => by
    unfold daysA daysR
    rw [if_neg q, if_neg q]
    exact wp_c0 _ (refuseAct_c hy h) (fun r M1 q => wp_some q)
  refine wp_br (fun q => hrf (fun z => ?_)) (fun q1 => wp_br (fun q => hrf (fun z => ?_)) (fun q2 => wp_br (fun q3 => ?_) (fun q3 => hrf (fun z => ?_))))
  · rw [i_lt, z1] at q; have := z.1.1; omega
  · rw [i_lt, z20] at q; have := z.1.2; omega
  · rw [i_lt, z1] at q1
    rw [i_lt, z20] at q2
    rw [ed, e9, i_le, n2_int (by omega)] at q3
    have hq : daysQ A n := ⟨⟨by omega, by omega⟩, by rw [hd, n2_int (by omega)]; omega⟩
    unfold daysA daysR
    rw [if_pos hq, if_pos hq]
    refine wp_c0 _ (keep_oc hy h v) (fun r M1 q => ?_)
    obtain ⟨-, w2, w3⟩ := q
    dsimp only at w2 w3
    have hn : n = n2 n.toInt.toNat := n2_of (by omega)
    rw [hn]
    generalize hN : n.toInt.toNat = nn at *
    rw [n2_int (show nn < 2147483648 by omega)]
    rw [show ((nn : Int)).toNat = nn from rfl]
    have hS1 : SOK (aK A) (skV M1 37 38 41 42) := SOK.eqo v.2.1.1.1 w3.2.1.1.symm
    have hv1 : vo (skV M1 37 38 41 42) = vo (aS A) := w3.2.1.1
    refine wp_for (i0 := 0) nn (fun i s => Eqx [37, 38, 39, 40, 43, 8, 11] M1 s ∧ skV s 37 38 41 42 = pDays (aK A) (skV M1 37 38 41 42) i) (by have : FUEL = 100000 := rfl; omega) rfl (by omega) ⟨Eqx.refl _ _, rfl⟩ ?_ ?_
    · intro f i s hi hI hk
      refine wp_brf (by rw [n2_le (by omega) (by omega)]; omega) ?_
      refine wp_c0 _ (passDay_37 hy v.1 (w3.1.eqx hI.1 (by decide)) (by rw [hI.2]; exact pDays_ok v.1 hS1 i)) (fun r M2 h => ?_)
      obtain ⟨-, x2, x3, -⟩ := h
      rw [n2_s]
      exact hk _ ⟨hI.1.trans (x2.mono (by decide)), by rw [x3, hI.2]; rfl⟩
    · intro f s hI
      refine wp_brt (Int32.le_refl _) (wp_some ⟨?_, ?_, ?_⟩)
      · have e1 : s.1 37 11 = sDy (skV s 37 38 41 42) := rfl
        show s.1 37 11 = _
        rw [e1, hI.2]
        exact dy_eqo (pDays_eqo hv1 nn)
      · have := CR.sky w3 (hI.1.mono (by decide)) (S := vo (pDays (aK A) (aS A) nn)) (by rw [hI.2, vo_vo]; exact pDays_eqo hv1 nn)
        exact this
      · exact (w2.kM (by decide)).trans (hI.1.kM (by decide))
  · rw [ed, e9, i_le, n2_int (by omega)] at q3
    have := z.2
    rw [hd, n2_int (by omega)] at this
    omega
theorem days_m {y : Lay} (hy : LY y) {A : St} {M : Mem} (h : MR A M) (v : VAL A) (n : Int32) : wp (f_X12_days y 73 n M) (OM (daysA A n) (0, daysR A n) M) := by
  unfold f_X12_days
  simp only [lT_s, jn_s, c0_s, cp_s, cx_s, cx_t, gK_t (k_73 hy), gN_t (r := 73) (by decide), r_73_0 hy, r_73_1 hy, r_73_2 hy, r_73_5 hy, r_73_6 hy, r_73_7 hy, r_73_8 hy, r_73_9 hy, r_73_10 hy, r_73_11 hy, r_73_12 hy, r_73_13 hy, r_73_14 hy, r_73_28 hy, r_73_29 hy, r_73_30 hy, r_73_38 hy, r_73_39 hy, r_73_40 hy, r_73_42 hy, r_73_43 hy, r_73_44 hy, r_73_45 hy, r_73_46 hy, r_73_47 hy, r_73_48 hy, r_73_49 hy, r_73_50 hy, r_73_51 hy, r_73_53 hy, r_73_58 hy, r_73_59 hy, r_73_60 hy, r_73_61 hy, r_73_62 hy, r_73_63 hy, wI_sr]
  obtain ⟨m, hm, hd⟩ := v.2.1.1.2
  have h0 := h.code 0
  have hc := code0 M
  have g0 : kC M (sr M 73 (up (M.1 73) 4 0)) := kC_sr (kC.refl M) (by decide)
  generalize sr M 73 (up (M.1 73) 4 0) = M0 at h0 hc g0
  have ed : M0.1 73 31 = n2 m := h0.v.2.2.2.2.2.trans hd
  have hrf : ¬ daysQ A n → wp (c0 (f_X12_refuse y 73 1 M0) fun (r3 : Int32) (M4 : Mem) => some (r3, M4)) (OM (daysA A n) (0, daysR A n) M) := fun q => by
    unfold daysA daysR
    rw [if_neg q, if_neg q]
    exact refuse_om hy h0 g0 hc (k := 1) (by decide)
  rcases isIn_r (y := y) (M := M0) (a := 1) (b := 20) (la := 1) (lb := 20) (by decide) (by decide) n with ⟨q1, q2⟩ | ⟨q1, q2⟩
  · rw [q2, cp_s]
    refine wp_brf (by decide) ?_
    have hb := q1
    have e9 : (M0.1 73 31 + n).toInt = m + n.toInt := by
      rw [ed, i_add (by rw [n2_int (by omega)]; omega) (by rw [n2_int (by omega)]; omega), n2_int (by omega)]
    have z9 : (999 : Int32).toInt = 999 := by decide
    refine wp_br (fun q3 => ?_) (fun q3 => hrf (fun z => ?_))
    · rw [i_le, e9, z9] at q3
      have hq : daysQ A n := ⟨q1, by rw [hd, n2_int (by omega)]; omega⟩
      unfold daysA daysR
      rw [if_pos hq, if_pos hq]
      refine wp_c0 _ (keep_om hy h0 v) (fun r M1 q => ?_)
      obtain ⟨-, w2, w3, w4⟩ := q
      dsimp only at w2 w3 w4
      have hn : n = n2 n.toInt.toNat := n2_of (by omega)
      rw [hn]
      generalize hN : n.toInt.toNat = nn at *
      rw [n2_int (show nn < 2147483648 by omega)]
      rw [show ((nn : Int)).toNat = nn from rfl]
      have hS1 : SOK (aK A) (moV M1) := SOK.eqo v.2.1.1.1 w3.2.1.1.symm
      have hv1 : vo (moV M1) = vo (aS A) := w3.2.1.1
      refine wp_c0 _ (goOn_v hy v.1 w3.1 hS1 (d := nn) (by omega)) (fun r M2 q => ?_)
      obtain ⟨-, x2, x3, x4⟩ := q
      dsimp only at x2 x3 x4
      refine wp_some ⟨?_, fun _ => ?_, ?_, ?_⟩
      · show M2.1 73 4 = 0
        rw [x4 4 (by decide) (by decide) (by decide) (by decide), w4 4 (by decide), hc]
      · have e1 : M2.1 73 31 = sDy (moV M2) := rfl
        show M2.1 73 31 = _
        rw [e1, x3]
        exact dy_eqo (pDays_eqo hv1 nn)
      · have := MR.sky w3 (x2.mono (by decide)) (F73.day x4) (S := vo (pDays (aK A) (aS A) nn)) (by rw [x3, vo_vo]; exact pDays_eqo hv1 nn)
        exact this
      · exact g0.trans ((w2.kC (by decide)).trans (x2.kC (by decide)))
    · have := z.2
      rw [hd, n2_int (by omega)] at this
      rw [i_le, e9, z9] at q3
      omega
  · rw [q2, cp_s]
    refine wp_brt rfl (hrf (fun z => q1 z.1))
