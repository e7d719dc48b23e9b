/-! ===== expressions: a part ===== -/
def EF (e : Bool) (M0 N0 M N : Mem) : Prop := FL M N ∧ Eqx [28, ro e, co e] M0 M ∧ FMe e N0 N
def EO (e : Bool) (T : Tx) (M0 N0 : Mem) (p L d : Nat) (a b : Int32 × Mem) : Prop := (a.1 = 1 ∧ ∃ p' L' C', (p < p' ∧ p' ≤ T.2) ∧ L' + p ≤ p' + L ∧ WFP (mm e) C' L' (d + 1) ∧ EC e T M0 p' L' C' a.2 ∧ EM e T N0 p' L' C' b.2) ∨ (a.1 = 0 ∧ EF e M0 N0 a.2 b.2)
/-- what a reader of expressions within w does -/
def EX (y : Lay) (e : Bool) (T : Tx) (M0 N0 : Mem) (w D : Nat) (P : Nat → Prop) (X Z : Lay → Nat → Int32 → Mem → Option (Int32 × Mem)) : Prop := ∀ p L C d M N, P p → WFP (mm e) C L d → d ≤ D → L ≤ p → EC e T M0 p L C M → EM e T N0 p L C N → J (X y 29 (n2 w) M) (Z y 73 (n2 w) N) (EO e T M0 N0 p L d)
def EBad (y : Lay) (Z : Lay → Nat → Int32 → Mem → Option (Int32 × Mem)) : Prop := ∀ a N, ¬ N.1 73 22 = 0 → Z y 73 a N = some (0, N)
theorem EC.g28 {e : Bool} {T : Tx} {M0 M M' : Mem} {p q L : Nat} {C : Row} (h : EC e T M0 p L C M) (t : TC T M' q) (g : G28 M M') : EC e T M0 q L C M' := by
  obtain ⟨h1, h2, ⟨h3, h3', h3''⟩, h4, h5⟩ := h
  have d1 : ¬ ro e = 28 ∧ ¬ co e = 28 := by cases e <;> decide
  refine ⟨t, by rw [g.2.2.1]; exact h2, ⟨h3.trans (g.1.mono (by cases e <;> decide)), h3', h3''⟩, ?_, fun i hi => ?_⟩
  · rw [g.1.2 _ (by simpa using d1.1)]; exact h4
  · rw [g.1.2 _ (by simpa using d1.2)]; exact h5 i hi
theorem FMe.g73 {e : Bool} {N0 N N' : Mem} (h : FMe e N0 N) (g : G73 N N') : FMe e N0 N' := by
  obtain ⟨h3, h3a, h3b, h3c⟩ := h
  have d1 : ¬ sg e = 73 := by cases e <;> decide
  refine ⟨h3.trans (g.1.mono (by cases e <;> decide)), fun f hf => ?_, fun f hf => ?_, fun k hk => ?_⟩
  · rw [g.2 f (by omega)]; exact h3a f hf
  · rw [g.1.2 77 (by decide)]; exact h3b f hf
  · rw [g.1.2 _ (by simpa using d1)]; exact h3c k hk
theorem EM.g73 {e : Bool} {T : Tx} {N0 N N' : Mem} {p q L : Nat} {C : Row} (h : EM e T N0 p L C N) (t : TM T N' q) (g : G73 N N') : EM e T N0 q L C N' := by
  obtain ⟨h1, h2, ⟨h3, h3', h3''⟩, h4, h5⟩ := h
  have d1 : ¬ sg e = 73 := by cases e <;> decide
  refine ⟨t, by rw [g.2 22 (by omega)]; exact h2, ⟨h3.g73 g, h3', h3''⟩, ?_, fun i hi => ?_⟩
  · rw [g.1.2 77 (by decide)]; exact h4
  · rw [g.1.2 _ (by simpa using d1)]; exact h5 i hi
theorem EC.adv {y : Lay} (hy : LY y) {T : Tx} (hT : TOK T) {e : Bool} {M0 M : Mem} {p L : Nat} {C : Row} (h : EC e T M0 p L C M) : wp (f_X10_advance y 28 M) (fun o => EC e T M0 (tE T p) L C o.2) := wp_mono (adv_c hy hT h.1) (fun _ q => h.g28 q.1 q.2)
theorem EM.stp {y : Lay} (hy : LY y) {T : Tx} (hT : TOK T) {e : Bool} {N0 N : Mem} {p L : Nat} {C : Row} (h : EM e T N0 p L C N) : wp (f_X12_stepOn y 73 N) (fun o => EM e T N0 (tE T p) L C o.2) := wp_mono (stp_m hy hT h.1) (fun _ q => h.g73 q.1 q.2)
theorem EF.mk {T : Tx} {e : Bool} {M0 N0 M N : Mem} {p L L' : Nat} {C C' : Row} (h : EC e T M0 p L C M) (g : EM e T N0 p L' C' N) {f : Int32} (hf : ¬ f = 0) : EF e M0 N0 (rfC M f (M.1 28 3)) (rfM N f (N.1 73 20)) := by
  have d1 : ¬ sg e = 73 := by cases e <;> decide
  refine ⟨FL.mk h.1 g.1 hf, ?_, ?_⟩
  · exact h.2.2.1.1.sr (by cases e <;> decide)
  · obtain ⟨g3, g3a, g3b, g3c⟩ := g.2.2.1.1
    refine ⟨g3.sr (by cases e <;> decide), fun f hf => ?_, fun f hf => ?_, fun k hk => ?_⟩
    · unfold rfM; rw [sr_ap, up_ne (by omega), up_ne (by omega)]; exact g3a f hf
    · unfold rfM; rw [sr_1, if_neg (by decide)]; exact g3b f hf
    · unfold rfM; rw [sr_1, if_neg d1]; exact g3c k hk
theorem rfM_nz {N : Mem} {f s : Int32} (h : ¬ f = 0) : ¬ (rfM N f s).1 73 22 = 0 := by
  unfold rfM
  rw [sr_ap, up_ne (by decide), up_eq]
  exact h
/-- a sign that must stand here -/
theorem pass_J {y : Lay} (hy : LY y) {T : Tx} (hT : TOK T) {M N : Mem} {p : Nat} (h : TC T M p) (g : TM T N p) (hM : M.1 28 6 = 0) (hN : N.1 73 22 = 0) {c : Nat} (hc : isMk c = true) (hc2 : c < 256) : J (f_X10_passes y 28 (n2 c) M) (f_X12_mark y 73 (n2 c) N) (fun a b => (a.1 = 1 ∧ isS T p c = true ∧ (TC T a.2 (tE T p) ∧ G28 M a.2) ∧ TM T b.2 (tE T p) ∧ G73 N b.2) ∨ (a.1 = 0 ∧ ¬ isS T p c = true ∧ a.2 = rfC M 1 (M.1 28 3) ∧ b.2 = rfM N 1 (N.1 73 20))) := by
  unfold f_X10_passes f_X12_mark
  rw [gK_t (k_28 hy), gK_t (k_73 hy)]
  refine J_rj (J_rt hN ?_)
  rw [isMarked_m hy hT g hN hc hc2, cp_s, h.2.2.2.1]
  by_cases q : isS T p c = true
  · refine J_lt ((kCl_c hT h.2.1 hc2).mpr q) (J_rf (by rw [b01_0]; exact fun z => z q) ?_)
    refine J_rj (J_rt hN ?_)
    refine J_lc (adv_c hy hT h) (fun r M1 q1 => J_rc (stp_m hy hT g) (fun s N1 q2 => J_s (Or.inl ⟨rfl, q, q1, q2⟩)))
  · refine J_lf (fun z => q ((kCl_c hT h.2.1 hc2).mp z)) (J_rt (by rw [b01_0]; exact q) ?_)
    rw [refuse_t hy hM, wrong_m hy hN, c0_s, c0_s]
    refine J_lg (Or.inl rfl) (J_rj (J_rf (rfM_nz (f := 1) (by decide)) (J_s (Or.inr ⟨rfl, q, rfl, rfl⟩))))
theorem J_lq {α β : Type} {Q : α → β → Prop} {Z : Option β} {A : Option (Int32 × Mem)} {r : Int32} {M : Mem} {k : Int32 → Mem → Option α} (h : A = some (r, M)) (g : J (k r M) Z Q) : J (c0 A k) Z Q := by rw [h]; exact g
theorem J_rq {α β : Type} {Q : α → β → Prop} {X : Option α} {A : Option (Int32 × Mem)} {r : Int32} {M : Mem} {k : Int32 → Mem → Option β} (h : A = some (r, M)) (g : J X (k r M) Q) : J X (c0 A k) Q := by rw [h]; exact g
theorem J_lp {α β : Type} {Q : α → β → Prop} {Z : Option β} {A : Option Int32} {r : Int32} {k : Int32 → Option α} (h : A = some r) (g : J (k r) Z Q) : J (cp A k) Z Q := by rw [h]; exact g
theorem J_rp {α β : Type} {Q : α → β → Prop} {X : Option α} {A : Option Int32} {r : Int32} {k : Int32 → Option β} (h : A = some r) (g : J X (k r) Q) : J X (cp A k) Q := by rw [h]; exact g
theorem kMd_k (T : Tx) (p : Nat) : (kMd T p = 0 ↔ tK T p = 0) ∧ (kMd T p = 1 ↔ tK T p = 1) ∧ (kMd T p = 2 ↔ tK T p = 2) := by
  unfold kMd
  rcases tK_cases T p with k | k | k | k
  · rw [k, if_pos rfl]; decide
  · rw [k, if_neg (by decide), if_pos rfl]; decide
  · rw [k, if_neg (by decide), if_neg (by decide), if_pos rfl]; decide
  · rw [k, if_neg (by decide), if_neg (by decide), if_neg (by decide)]
    split <;> decide
theorem mc_n2 {v : Nat} (h : v < 10000) : mc (n2 v) = n2 v := by
  have z : ∀ k : Int, (k < 0 ∧ -2147483648 ≤ k) → ¬ (n2 v).toInt = k := fun k hk => by rw [n2_int (by omega)]; omega
  have z2 : ∀ c : Int32, c.toInt < 0 → ¬ n2 v = c := fun c hc e => z c.toInt ⟨hc, (i_bd c).1⟩ (by rw [e])
  unfold mc
  rw [if_neg (z2 _ (by decide)), if_neg (z2 _ (by decide)), if_neg (z2 _ (by decide)), if_neg (z2 _ (by decide)), if_neg (z2 _ (by decide)), if_neg (z2 _ (by decide)), if_neg (z2 _ (by decide)), if_neg (z2 _ (by decide)), if_neg (z2 _ (by decide))]
theorem isB_13 : isB (-13) = false := by decide
theorem isB_nn {c : Int32} (h : -6 ≤ c.toInt) : ¬ c = -13 ∧ ¬ isB c = true := by
  have a : ¬ c < -6 := by rw [i_lt]; show ¬ c.toInt < -6; omega
  exact ⟨fun z => a (isB_lt (Or.inr z)), fun z => a (isB_lt (Or.inl z))⟩
theorem WFP.num {m : Nat} {C : Row} {L d : Nat} {c : Int32} (h : WFP m C L d) (hd : d < 40) (hc : okC m c) (h6 : -6 ≤ c.toInt) : WFP m (up C L c) (L + 1) (d + 1) := by
  obtain ⟨a, b⟩ := isB_nn h6
  exact h.push hd hc (fun z => absurd z a) (fun _ z => absurd z b) (fun _ _ => rfl) isB_13
theorem vneg : ∀ v : Fin 6, mc (-1 - n2 v.val) = -1 - n2 v.val ∧ ((-1 : Int32) - n2 v.val).toInt = -1 - (v.val : Int) := by decide +kernel
theorem readPart_b {y : Lay} (hy : LY y) {RM : Lay → Nat → Int32 → Mem → Option (Int32 × Mem)} : EBad y (f_X12_readPart RM) := by
  intro a N hb
  unfold f_X12_readPart
  rw [gK_t (k_73 hy), bR_f hb]
theorem tb_n0 (e : Bool) : ¬ tb e = 0 := by cases e <;> decide
theorem enc_s {o : Option Nat} {v : Nat} (h : o = some v) : enc o = n2 v := by rw [h]; rfl
theorem readPart_J {y : Lay} (hy : LY y) {T : Tx} (hT : TOK T) {e : Bool} {M0 N0 : Mem} {w : Nat} {RC RM : Lay → Nat → Int32 → Mem → Option (Int32 × Mem)} (hw6 : w ≤ 6) (HR : w ≤ 5 → EX y e T M0 N0 (w + 1) (5 * (w + 1)) (fun _ => True) RC RM) (HB : EBad y RM) : EX y e T M0 N0 w (5 * w + 5) (fun p => w ≤ 5 ∨ ¬ isS T p 40 = true) (f_X6_readPart RC) (f_X12_readPart RM) := by
  intro p L C d M N hP hW hd hL hM hN
  have h7 := hT.1
  have tc := hM.1
  have tm := hN.1
  have hp := tc.2.1
  have hF0 : ∀ (f : Int32) (r : Int32), ¬ f = 0 → EO e T M0 N0 p L d (0, rfC M f (M.1 28 3)) (r, rfM N f (N.1 73 20)) := fun f r hf => Or.inr ⟨rfl, EF.mk hM hN hf⟩
  unfold f_X6_readPart f_X12_readPart
  rw [gK_t (k_29 hy), r_29_0 hy, gN_t (by decide), gK_t (k_28 hy), gK_t (k_73 hy), tc.2.2.2.1, tm.2.2.2.1]
  refine J_rt hN.2.1 ?_
  by_cases k2 : tK T p = 2
  · -- a number
    refine J_lt ((kCl_k hT hp).2.2.mpr k2) (J_rt ((kMd_k T p).2.2.mpr k2) ?_)
    rw [isTooLong_c hy hT tc k2, cp_s]
    have hlt := tE_gt hT hp (by rw [k2]; decide)
    have htE := (tE_sp hT hp).2
    by_cases q : 4 < tE T p - tS T p
    · refine J_lf (by rw [b01_0, decide_eq_true_eq]; exact fun z => z q) ?_
      have hn : nmR T p 0 9999 = 2 := by unfold nmR; rw [if_pos k2, if_pos (Or.inl q)]
      rw [refuse_t hy hM.2.1, c0_s, show (0 : Int32) = n2 0 from rfl, show (9999 : Int32) = n2 9999 from rfl, readNumber_w hy hT tm hN.2.1 (by decide) (by decide) (by rw [hn]; decide), c0_s, hn, lay_b hy (rfM_22 (by omega)), c0_s]
      exact J_lg (Or.inl rfl) (J_s (hF0 _ _ (by decide)))
    · refine J_lt (by rw [b01_0, decide_eq_true_eq]; exact q) ?_
      have hv := tV_lt hT hp k2 (by omega)
      have hn : nmR T p 0 9999 = 0 := by unfold nmR; rw [if_pos k2, if_neg (by omega)]
      rw [hM.ref, gN_t (ro_n0 e), gK_t (k_ro hy e), tc.2.2.2.2 k2 (by omega)]
      refine J_lc (put_c hy hM (by omega) (n2 (tV T p))) (fun r M1 m1 => J_lc (m1.adv hy hT) (fun r2 M2 m2 => ?_))
      refine J_rc (R := fun o => o.1 = n2 (tV T p) ∧ EM e T N0 (tE T p) L C o.2) ?_ (fun s N1 n1 => ?_)
      · exact wp_mono (readNumber_m hy hT tm hN.2.1 (by decide) (by decide) hn) (fun o q2 => ⟨q2.1, hN.g73 q2.2.1 q2.2.2⟩)
      · have e1 : s = mc (n2 (tV T p)) := by rw [mc_n2 hv]; exact n1.1
        rw [e1]
        refine J_rc (lay_m hy n1.2 (by omega) (n2 (tV T p))) (fun s2 N2 n2' => J_s (Or.inl ⟨rfl, tE T p, L + 1, up C L (n2 (tV T p)), ⟨hlt, htE⟩, by omega, ?_, m2, n2'⟩))
        refine hW.num (by omega) (Or.inl ?_) ?_
        · rw [n2_int (by omega)]; omega
        · rw [n2_int (by omega)]; omega
  · refine J_lf (fun z => k2 ((kCl_k hT hp).2.2.mp z)) (J_rf (fun z => k2 ((kMd_k T p).2.2.mp z)) ?_)
    by_cases k1 : tK T p = 1
    · -- a name
      refine J_lt ((kCl_k hT hp).2.1.mpr k1) (J_rt ((kMd_k T p).2.1.mpr k1) ?_)
      have hlt := tE_gt hT hp (by rw [k1]; decide)
      have htE := (tE_sp hT hp).2
      have etb : N.2.2 73 3 = tb e := by rw [hN.2.2.1.1.1.1]; exact hN.2.2.1.2.1
      rw [valueHere_c hy hT tc hM.dy, cp_s, etb, gN_t (tb_n0 e), which_m hy hT tm hN.2.1 e, cp_s]
      refine J_rj ?_
      cases hv : wV T p e with
      | none =>
        refine J_lt (show enc none = -1 from rfl) (J_rt (show enc none = -1 from rfl) ?_)
        refine J_lq (refuse_t hy hM.2.1) (J_rq (wrong_m hy hN.2.1) (J_rq (lay_b hy (rfM_nz (f := 3) (by decide))) ?_))
        exact J_lg (Or.inl rfl) (J_rj (J_rf (rfM_nz (f := 3) (by decide)) (J_s (hF0 _ _ (by decide)))))
      | some v =>
        have hvm := wV_lt hv
        have hm6 : mm e ≤ 6 := by cases e <;> decide
        obtain ⟨mv, iv⟩ := vneg ⟨v, by omega⟩
        dsimp only at mv iv
        rw [enc_s (o := some v) rfl]
        have ne1 : ¬ n2 v = -1 := n2_n1 (Nat.lt_of_lt_of_le hvm (Nat.le_trans hm6 (by decide)))
        refine J_lf ne1 (J_rf ne1 ?_)
        rw [hM.ref, gN_t (ro_n0 e), gK_t (k_ro hy e)]
        have pv : wp (f_X5_putValue y (ro e) (n2 v) M) (fun o => EC e T M0 p (L + 1) (up C L (-1 - n2 v)) o.2) := by
          unfold f_X5_putValue
          rw [gK_t (k_ro hy e)]
          exact wp_c0 _ (put_c hy hM (by omega) (-1 - n2 v)) (fun r M1 m1 => wp_some m1)
        refine J_lc pv (fun r M1 m1 => J_lc (m1.adv hy hT) (fun r2 M2 m2 => ?_))
        have lv := lay_m hy hN (by omega) (-1 - n2 v)
        rw [mv] at lv
        refine J_rc lv (fun s N1 n1 => J_rj (J_rt n1.2.1 (J_rc (n1.stp hy hT) (fun s2 N2 n2' => J_s (Or.inl ⟨rfl, tE T p, L + 1, up C L (-1 - n2 v), ⟨hlt, htE⟩, by omega, ?_, m2, n2'⟩)))))
        refine hW.num (by omega) (Or.inr (Or.inl ?_)) ?_
        · rw [iv]; clear iv mv; omega
        · rw [iv]; clear iv mv; omega
    · -- brackets
      refine J_lf (fun z => k1 ((kCl_k hT hp).2.1.mp z)) (J_rf (fun z => k1 ((kMd_k T p).2.1.mp z)) ?_)
      refine J_lj ?_
      by_cases q : isS T p 40 = true
      · have hw5 : w ≤ 5 := hP.resolve_right (fun z => z q)
        have hlt := tE_gt hT hp (by rw [(isS_iff.mp q).1]; decide)
        have htE := (tE_sp hT hp).2
        refine J_lt ((kCl_c hT hp (c := 40) (by decide)).mpr q) (J_lt (by rw [show (6 : Int32) = n2 6 from rfl, n2_lt (by omega) (by decide)]; omega) ?_)
        refine J_lc (hM.adv hy hT) (fun r1 M1 m1 => ?_)
        have mk : wp (f_X12_mark y 73 40 N) (fun o => EM e T N0 (tE T p) L C o.2) := by
          unfold f_X12_mark
          rw [gK_t (k_73 hy)]
          refine wp_jn (wp_brt hN.2.1 ?_)
          rw [show (40 : Int32) = n2 40 from rfl, isMarked_m hy hT tm hN.2.1 (by decide) (by decide), cp_s]
          refine wp_brf (by rw [b01_0]; exact fun z => z q) (wp_jn (wp_brt hN.2.1 ?_))
          exact wp_c0 _ (hN.stp hy hT) (fun r M1 m1 => wp_some m1)
        refine J_rc mk (fun s1 N1 n1 => ?_)
        rw [n2_s]
        refine J_cc (HR hw5 (tE T p) L C d M1 N1 trivial hW (by omega) (by omega) m1 n1) (fun r2 M2 s2 N2 q2 => ?_)
        refine J_lj (J_lj ?_)
        rcases q2 with ⟨q3, p', L', C', ⟨q4, q4'⟩, q5, q6, m2, n2'⟩ | ⟨q3, q4⟩
        · have q3 : r2 = 1 := q3
          rw [q3]
          refine J_lf (by decide) ?_
          rw [show (41 : Int32) = n2 41 from rfl]
          refine J_cc (pass_J hy hT m2.1 n2'.1 m2.2.1 n2'.2.1 (c := 41) (by decide) (by decide)) (fun r3 M3 s3 N3 q7 => ?_)
          rcases q7 with ⟨q8, q9, ⟨m3, g3⟩, n3, g4⟩ | ⟨q8, q9, m3, n3⟩
          · have q8 : r3 = 1 := q8
            rw [q8]
            have hp' := m2.1.2.1
            have hlt2 := tE_gt hT hp' (by rw [(isS_iff.mp q9).1]; decide)
            refine J_lf (by decide) (J_lg (Or.inr rfl) (J_s (Or.inl ⟨rfl, tE T p', L', C', ⟨by omega, (tE_sp hT hp').2⟩, by omega, q6, m2.g28 m3 g3, n2'.g73 n3 g4⟩)))
          · have q8 : r3 = 0 := q8
            have m3 : M3 = _ := m3
            have n3 : N3 = _ := n3
            rw [q8, m3, n3]
            exact J_lt rfl (J_lg (Or.inl rfl) (J_s (Or.inr ⟨rfl, EF.mk m2 n2' (by decide)⟩)))
        · have q3 : r2 = 0 := q3
          rw [q3, mark_b hy q4.1.bad, c0_s]
          exact J_lt rfl (J_lg (Or.inl rfl) (J_s (Or.inr ⟨rfl, q4⟩)))
      · refine J_lf (fun z => q ((kCl_c hT hp (c := 40) (by decide)).mp z)) ?_
        have mk : f_X12_mark y 73 40 N = some (0, rfM N 1 (N.1 73 20)) := by
          refine wp_eq ?_
          unfold f_X12_mark
          rw [gK_t (k_73 hy)]
          refine wp_jn (wp_brt hN.2.1 ?_)
          rw [show (40 : Int32) = n2 40 from rfl, isMarked_m hy hT tm hN.2.1 (by decide) (by decide), cp_s]
          refine wp_brt (by rw [b01_0]; exact q) ?_
          rw [wrong_m hy hN.2.1, c0_s]
          exact wp_jn (wp_brf (rfM_nz (f := 1) (by decide)) (wp_some rfl))
        refine J_lq (refuse_t hy hM.2.1) (J_rq mk (J_rq (HB _ _ (rfM_nz (f := 1) (by decide))) (J_rq (mark_b hy (rfM_nz (f := 1) (by decide))) ?_)))
        exact J_lg (Or.inl rfl) (J_s (hF0 _ _ (by decide)))
