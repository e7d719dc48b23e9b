/-! ===== what a good text leaves, the class's side ===== -/
theorem cpy_lt {f g : Row} {n k : Nat} (h : k < n) : va_cpy f g 0 0 n k = f k := by
  show (if 0 ≤ k ∧ k < 0 + n then f (0 + (k - 0)) else g k) = f k
  rw [if_pos ⟨Nat.zero_le _, by omega⟩]
  congr 1
  omega
theorem cpy_zr {f g : Row} {n : Nat} (h : ∀ k, n ≤ k → g k = 0) : va_cpy f g 0 0 n = zr n f := by
  funext k
  unfold zr
  by_cases q : k < n
  · rw [if_pos q, cpy_lt q]
  · rw [if_neg q]
    show (if 0 ≤ k ∧ k < 0 + n then f (0 + (k - 0)) else g k) = 0
    rw [if_neg (by omega), h k (by omega)]
theorem ruleCopy_6 {y : Lay} (hy : LY y) {M : Mem} : f_X5_copyFrom y 6 15 M = some (0, sr (sr M 7 (va_cpy (M.1 16) (M.1 7) 0 0 700)) 6 (up (M.1 6) 2 (M.1 15 2))) := by
  unfold f_X5_copyFrom
  rw [gK_t (k_15 hy), r_15_0 hy, gN_t (by decide), gK_t (k_6 hy), r_6_0 hy, gN_t (by decide), gC_t (k_16 hy) (k_7 hy) (by decide), lT_s, lT_s, cpI_sr, wI_sr, sr_ne (show ¬ 6 = 7 by decide), sr_ne (show ¬ 15 = 7 by decide)]
  rfl
theorem ruleCopy_9 {y : Lay} (hy : LY y) {M : Mem} : f_X5_copyFrom y 9 18 M = some (0, sr (sr M 10 (va_cpy (M.1 19) (M.1 10) 0 0 700)) 9 (up (M.1 9) 2 (M.1 18 2))) := by
  unfold f_X5_copyFrom
  rw [gK_t (k_18 hy), r_18_0 hy, gN_t (by decide), gK_t (k_9 hy), r_9_0 hy, gN_t (by decide), gC_t (k_19 hy) (k_10 hy) (by decide), lT_s, lT_s, cpI_sr, wI_sr, sr_ne (show ¬ 9 = 10 by decide), sr_ne (show ¬ 18 = 10 by decide)]
  rfl
theorem copy_4 {y : Lay} (hy : LY y) {M : Mem} {w h : Nat} (hw : 1 ≤ w ∧ w ≤ 6) (hh : 1 ≤ h ∧ h ≤ 5) (e0 : M.1 13 0 = n2 w) (e1 : M.1 13 1 = n2 h) : wp (f_X1_copyFrom y 4 13 M) (fun o => Eqx [4, 5, 6, 7, 9, 10] M o.2 ∧ (o.2.1 4 0 = n2 w ∧ o.2.1 4 1 = n2 h ∧ o.2.1 4 2 = M.1 13 2 ∧ o.2.1 4 3 = M.1 13 3 ∧ o.2.1 4 4 = M.1 13 4 ∧ o.2.1 4 5 = M.1 13 5) ∧ (∀ c, c < 30 → o.2.1 5 c = if c < w * h then besP w (w * h) c else 0) ∧ (o.2.1 6 2 = M.1 15 2 ∧ ∀ i, i < 700 → o.2.1 7 i = M.1 16 i) ∧ o.2.1 9 2 = M.1 18 2 ∧ ∀ i, i < 700 → o.2.1 10 i = M.1 19 i) := by
  unfold f_X1_copyFrom
  rw [gK_t (k_13 hy), gK_t (k_4 hy), e0, e1]
  refine wp_c0 _ (shape_4 hy hw hh) (fun r M1 q => ?_)
  obtain ⟨q1, q2, q3⟩ := q
  have q1 : Eqx [4, 5] M M1 := q1
  have q2 : M1.1 4 = up (up (M.1 4) 0 (n2 w)) 1 (n2 h) := q2
  have q3 : ∀ c, c < 30 → M1.1 5 c = if c < w * h then besP w (w * h) c else 0 := q3
  have r13 : M1.1 13 = M.1 13 := q1.2 13 (by decide)
  refine wp_lt (wp_lt (wp_lt (wp_lt ?_)))
  simp only [wI_sr, sr_ap, sr_sr]
  rw [sr_ne (show ¬ 13 = 4 by decide), sr_ne (show ¬ 13 = 4 by decide), sr_ne (show ¬ 13 = 4 by decide), r13, r_4_7 hy, r_4_8 hy, r_13_7 hy, r_13_8 hy, gN_t (by decide), gN_t (by decide), gK_t (k_6 hy), ruleCopy_6 hy, c0_s, gN_t (by decide), gN_t (by decide), gK_t (k_9 hy), ruleCopy_9 hy, c0_s]
  refine wp_some ⟨?_, ⟨?_, ?_, ?_, ?_, ?_, ?_⟩, fun c hc => ?_, ⟨?_, fun i hi => ?_⟩, ?_, fun i hi => ?_⟩
  · exact (((((q1.mono (by decide)).sr (by decide)).sr (by decide)).sr (by decide)).sr (by decide)).sr (by decide)
  · rw [sr_ne (by decide), sr_ne (by decide), sr_ne (by decide), sr_ne (by decide), sr_ap, q2]; rfl
  · rw [sr_ne (by decide), sr_ne (by decide), sr_ne (by decide), sr_ne (by decide), sr_ap, q2]; rfl
  · rw [sr_ne (by decide), sr_ne (by decide), sr_ne (by decide), sr_ne (by decide), sr_ap]; rfl
  · rw [sr_ne (by decide), sr_ne (by decide), sr_ne (by decide), sr_ne (by decide), sr_ap]; rfl
  · rw [sr_ne (by decide), sr_ne (by decide), sr_ne (by decide), sr_ne (by decide), sr_ap]; rfl
  · rw [sr_ne (by decide), sr_ne (by decide), sr_ne (by decide), sr_ne (by decide), sr_ap]; rfl
  · rw [sr_ne (by decide), sr_ne (by decide), sr_ne (by decide), sr_ne (by decide), sr_ne (by decide)]; exact q3 c hc
  · rw [sr_ne (by decide), sr_ne (by decide), sr_ap, up_eq, sr_ne (by decide), q1.2 15 (by decide)]
  · rw [sr_ne (by decide), sr_ne (by decide), sr_ne (by decide), sr_ap, cpy_lt hi, sr_ne (by decide), q1.2 16 (by decide)]
  · rw [sr_ap, up_eq, sr_ne (by decide), sr_ne (by decide), sr_ne (by decide), q1.2 18 (by decide)]
  · rw [sr_ne (by decide), sr_ap, cpy_lt hi, sr_ne (by decide), sr_ne (by decide), sr_ne (by decide), q1.2 19 (by decide)]
theorem copyFrom_37_d {y : Lay} (hy : LY y) {M : Mem} (z : ZR M 38 41 42) : wp (f_X8_copyFrom y 37 21 M) (fun o => Eqx [37, 38, 41, 42] M o.2 ∧ skV o.2 37 38 41 42 = skZ M) := by
  unfold f_X8_copyFrom
  simp only [lT_s, jn_s, c0_s, cp_s, cx_s, cx_t, gK_t (k_37 hy), gN_t (r := 37) (by decide), r_37_0 hy, r_37_1 hy, r_37_2 hy, r_37_3 hy, r_37_4 hy, r_37_5 hy, r_37_6 hy, gN_t (r := 38) (by decide), gN_t (r := 41) (by decide), gN_t (r := 42) (by decide), gK_t (k_21 hy), gN_t (r := 21) (by decide), r_21_0 hy, r_21_1 hy, r_21_2 hy, r_21_3 hy, r_21_4 hy, r_21_5 hy, r_21_6 hy, gN_t (r := 22) (by decide), gN_t (r := 25) (by decide), gN_t (r := 26) (by decide), z030.1, z030.2.1, z030.2.2]
  rw [gC_t (k_22 hy) (k_38 hy) (by decide), gC_t (k_25 hy) (k_41 hy) (by decide), gC_t (k_26 hy) (k_42 hy) (by decide)]
  simp only [cpI_sr, wI_sr, sr_1, Nat.reduceEqDiff, if_false, if_true, ↓reduceIte, sr_sr]
  refine wp_some ⟨⟨rfl, ?_⟩, ?_⟩
  · intro p hp
    simp only [List.mem_cons, List.not_mem_nil, not_or, or_false] at hp
    simp only [sr_1, if_neg hp.1, if_neg hp.2.1, if_neg hp.2.2.1, if_neg hp.2.2.2]
  · unfold skV skZ
    simp only [sr_1, Nat.reduceEqDiff, if_false, if_true, ↓reduceIte, up]
    rw [cpy_zr z.1, cpy_zr z.2.1, cpy_zr z.2.2]
theorem begin_30 {y : Lay} (hy : LY y) {M : Mem} (z : ZR M 38 41 42) : wp (f_X4_begin y 30 21 M) (fun o => Eqx [30, 31, 37, 38, 41, 42] M o.2 ∧ skV o.2 37 38 41 42 = skZ M ∧ o.2.1 31 1 = 0 ∧ o.2.1 30 6 = 0) := by
  unfold f_X4_begin
  rw [gK_t (k_30 hy), r_30_0 hy, gN_t (by decide), gK_t (k_37 hy)]
  refine wp_c0 _ (copyFrom_37_d hy z) (fun r M1 q => ?_)
  obtain ⟨q1, q2⟩ := q
  have q1 : Eqx [37, 38, 41, 42] M M1 := q1
  have q2 : skV M1 37 38 41 42 = skZ M := q2
  rw [r_30_1 hy, gN_t (by decide), gK_t (k_31 hy)]
  unfold f_X0_clear
  rw [gK_t (k_31 hy), lT_s, c0_s]
  refine wp_lt ?_
  rw [wI_sr, wI_sr, sr_ne (show ¬ 30 = 31 by decide)]
  refine wp_some ⟨((q1.mono (by decide)).sr (by decide)).sr (by decide), q2, ?_, ?_⟩
  · rw [sr_ne (by decide), sr_ap, up_eq]
  · rw [sr_ap, up_eq]
/-- the new whole -/
def cstA (A : St) (K : KG) (S : Sk) : St := (K, (S, (0, mA (aM A) |>.2), (0, (mN (aM A)).2), mT (aM A)), (false, (aI A).2), (0, (aT A).2), -1)
def dK' (D : Dr) (C F : Row) : KG := ((dK D).1, (dK D).2.1, (C, dl (dK D)), (F, fl (dK D)))
theorem WFR_eq {m : Nat} {C C' : Row} {L : Nat} (h : WFR m C L) (e : ∀ i, i < L → C' i = C i) : WFR m C' L := by
  refine ⟨fun i hi => ?_, ?_⟩
  · rw [e i hi, dpt_eq i (fun j hj => e j (by omega))]
    exact h.1 i hi
  · rw [dpt_eq L e]; exact h.2
theorem cst_val {A : St} {D : Dr} (h : DV D) {C F : Row} (hC : ∀ i, i < 700 → C i = dc (dK D) i) (hF : ∀ i, i < 700 → F i = fc (dK D) i) : VAL (cstA A (dK' D C F) (dS D)) := by
  obtain ⟨⟨⟨a, b, c, d⟩, s⟩, ⟨-, -, h2⟩, -⟩ := h
  refine ⟨⟨a, b, ⟨c.1, fun z => WFR_eq (c.2 z) (fun i hi => hC i (Nat.lt_of_lt_of_le hi c.1))⟩, ⟨d.1, fun z => WFR_eq (d.2 z) (fun i hi => hF i (Nat.lt_of_lt_of_le hi d.1))⟩⟩, ⟨⟨s, 0, Nat.zero_le _, h2⟩, ⟨Nat.zero_le _, fun j hj => absurd hj (Nat.not_lt_zero j)⟩, ⟨Nat.zero_le _, fun j hj => absurd hj (Nat.not_lt_zero j)⟩⟩, (fun z => by cases z), Nat.zero_le _, fun j hj => absurd hj (Nat.not_lt_zero j)⟩
def cTail (y : Lay) (r11 : Int32) (M12 : Mem) : Option (Nat × Int32 × Mem) := c0 (f_X9_clear y 2 M12) fun (r13 : Int32) (M14 : Mem) => cp (f_X2_faultPlace y 12 M14) fun (r15 : Int32) => lt (wI M14 1 12 r15) fun (M16 : Mem) => br (r11 = 0) (gN 4 (gN 13 (gK y 4 (0, 1) (c0 (f_X1_copyFrom y 4 13 M16) fun (r22 : Int32) (M23 : Mem) => gN 30 (gN 21 (gK y 30 (0, 4) (c0 (f_X4_begin y 30 21 M23) fun (r27 : Int32) (M28 : Mem) => lt (wI M28 1 11 (0 : Int32)) fun (M29 : Mem) => some (0, (0 : Int32), M29)))))))) (gN 30 (gK y 30 (0, 4) (c0 (f_X4_refuse y 30 (0 : Int32) M16) fun (r32 : Int32) (M33 : Mem) => some (0, r11, M33))))
theorem tail_c {y : Lay} (hy : LY y) (M : Mem) : ∃ N, f_X9_clear y 2 M = some (0, N) ∧ N = sr M 2 (up (M.1 2) 1 0) := by
  refine ⟨_, ?_, rfl⟩
  unfold f_X9_clear
  rw [gK_t (k_2 hy), lT_s, wI_sr]
theorem good_c {y : Lay} (hy : LY y) {A : St} {M0 M : Mem} (h : CR A M0) (v : VAL A) {D : Dr} (hv : DV D) (hd : DC D M) (hF : FCl M0 M) (h7 : M.1 28 7 = -1) : wp (cTail y 0 M) (fun o => ∃ C F, ((∀ i, i < 700 → C i = dc (dK D) i) ∧ ∀ i, i < 700 → F i = fc (dK D) i) ∧ (o.1 = 0 ∧ o.2.1 = 0) ∧ CR (cstA A (dK' D C F) (dS D)) o.2.2 ∧ ∀ p, 73 ≤ p → o.2.2.1 p = M0.1 p) := by
  unfold cTail
  obtain ⟨N, e1, e2⟩ := tail_c hy M
  rw [e1, c0_s]
  unfold f_X2_faultPlace
  rw [gK_t (k_12 hy), r_12_0 hy, gN_t (by decide), gK_t (k_28 hy), cp_s]
  have e28 : N.1 28 7 = -1 := by rw [e2, sr_ne (by decide)]; exact h7
  rw [e28, wI_sr]
  refine wp_lt (wp_brt rfl ?_)
  generalize hM1 : sr N 1 (up (N.1 1) 12 (-1)) = M1
  have m1 : ∀ p, ¬ p = 1 → ¬ p = 2 → M1.1 p = M.1 p := fun p x1 x2 => by rw [← hM1, sr_ne x1, e2, sr_ne x2]
  have m1a : M1.1 1 = up (M.1 1) 12 (-1) := by rw [← hM1, sr_ap, e2, sr_ne (by decide)]
  have m1b : M1.1 2 = up (M.1 2) 1 0 := by rw [← hM1, sr_ne (by decide), e2, sr_ap]
  rw [gN_t (by decide), gN_t (by decide), gK_t (k_4 hy)]
  obtain ⟨⟨d0, d1, d2, d3, d4, d5⟩, ⟨⟨d6, d7⟩, d8, d9⟩, ds, -⟩ := hd
  have hK := hv.1.1
  have r13 : M1.1 13 = M.1 13 := m1 13 (by decide) (by decide)
  refine wp_c0 _ (copy_4 hy hK.1.1 hK.1.2 (by rw [r13]; exact d0) (by rw [r13]; exact d1)) (fun r M2 q => ?_)
  obtain ⟨q1, ⟨q2, q3, q4, q5, q6, q7⟩, q8, ⟨q9, q10⟩, q11, q12⟩ := q
  have q1 : Eqx [4, 5, 6, 7, 9, 10] M1 M2 := q1
  rw [gN_t (by decide), gN_t (by decide), gK_t (k_30 hy)]
  have hs0 := h.sok v
  have z38 : ∀ p, p = 38 ∨ p = 41 ∨ p = 42 → M2.1 p = M0.1 p := fun p hp => by
    rw [q1.2 p (by simp; omega), m1 p (by omega) (by omega), hF p (by omega)]
  have z : ZR M2 38 41 42 := by
    have z0 := SOK.zr v.1 hs0
    unfold ZR at z0 ⊢
    rw [z38 38 (by omega), z38 41 (by omega), z38 42 (by omega)]
    exact z0
  refine wp_c0 _ (begin_30 hy z) (fun r M3 q => ?_)
  obtain ⟨p1, p2, p3, p4⟩ := q
  have p1 : Eqx [30, 31, 37, 38, 41, 42] M2 M3 := p1
  have p2 : skV M3 37 38 41 42 = skZ M2 := p2
  have p3 : M3.1 31 1 = 0 := p3
  have p4 : M3.1 30 6 = 0 := p4
  refine wp_lt ?_
  rw [wI_sr]
  have rr : ∀ p, ¬ (p = 1 ∨ p = 2 ∨ p = 4 ∨ p = 5 ∨ p = 6 ∨ p = 7 ∨ p = 9 ∨ p = 10 ∨ p = 30 ∨ p = 31 ∨ p = 37 ∨ p = 38 ∨ p = 41 ∨ p = 42) → (sr M3 1 (up (M3.1 1) 11 0)).1 p = M.1 p := fun p hp => by
    rw [sr_ne (by omega), p1.2 p (by simp; omega), q1.2 p (by simp; omega), m1 p (by omega) (by omega)]
  have r4 : ∀ p, (p = 4 ∨ p = 5 ∨ p = 6 ∨ p = 7 ∨ p = 9 ∨ p = 10) → (sr M3 1 (up (M3.1 1) 11 0)).1 p = M2.1 p := fun p hp => by
    rw [sr_ne (by omega), p1.2 p (by simp; omega)]
  have e1 : (sr M3 1 (up (M3.1 1) 11 0)).1 1 = up (up (M.1 1) 12 (-1)) 11 0 := by
    rw [sr_ap, p1.2 1 (by decide), q1.2 1 (by decide), m1a]
  have e2' : (sr M3 1 (up (M3.1 1) 11 0)).1 2 = up (M.1 2) 1 0 := by
    rw [sr_ne (by decide), p1.2 2 (by decide), q1.2 2 (by decide), m1b]
  refine wp_some ⟨M2.1 7, M2.1 10, ⟨fun i hi => ?_, fun i hi => ?_⟩, ⟨rfl, rfl⟩, ?_, fun p hp => ?_⟩
  · rw [q10 i hi, m1 16 (by decide) (by decide), d7]
  · rw [q12 i hi, m1 19 (by decide) (by decide), d9]
  · have h1 := h
    obtain ⟨-, ⟨-, -, -, hst⟩, hz, -, -, -⟩ := h1
    have r13' : ∀ k, M1.1 13 k = M.1 13 k := fun k => by rw [r13]
    refine ⟨⟨⟨?_, ?_, ?_, ?_, ?_, ?_⟩, fun c hc => ?_, ⟨?_, ?_⟩, ?_, ?_⟩, ⟨?_, ⟨?_, fun j hj => absurd hj (Nat.not_lt_zero j)⟩, ⟨?_, fun j hj => absurd hj (Nat.not_lt_zero j)⟩, fun k hk => ?_⟩, ?_, ⟨?_, fun z => by cases z⟩, ⟨?_, fun k hk => absurd hk (Nat.not_lt_zero k)⟩, ?_⟩
    · rw [r4 4 (by omega)]; exact q2
    · rw [r4 4 (by omega)]; exact q3
    · rw [r4 4 (by omega), q4, r13']; exact d2
    · rw [r4 4 (by omega), q5, r13']; exact d3
    · rw [r4 4 (by omega), q6, r13']; exact d4
    · rw [r4 4 (by omega), q7, r13']; exact d5
    · rw [r4 5 (by omega)]; exact q8 c hc
    · rw [r4 6 (by omega), q9, m1 15 (by decide) (by decide)]; exact d6
    · exact r4 7 (by omega)
    · rw [r4 9 (by omega), q11, m1 18 (by decide) (by decide)]; exact d8
    · exact r4 10 (by omega)
    · have e : skV (sr M3 1 (up (M3.1 1) 11 0)) 37 38 41 42 = dS D := by
        have e3 : skV (sr M3 1 (up (M3.1 1) 11 0)) 37 38 41 42 = skV M3 37 38 41 42 := rfl
        rw [e3, p2, ← ds]
        unfold skZ
        rw [q1.2 22 (by decide), q1.2 25 (by decide), q1.2 26 (by decide), q1.2 21 (by decide), m1 22 (by decide) (by decide), m1 25 (by decide) (by decide), m1 26 (by decide) (by decide), m1 21 (by decide) (by decide)]
      rw [e]
      rfl
    · rw [sr_ne (by decide), p3]; rfl
    · rw [sr_ne (by decide), p4]; rfl
    · rw [rr 36 (by omega), hF 36 (by omega)]; exact hst k hk
    · unfold ZR at hz ⊢
      rw [rr 52 (by omega), rr 55 (by omega), rr 56 (by omega), rr 59 (by omega), rr 62 (by omega), rr 63 (by omega), hF 52 (by omega), hF 55 (by omega), hF 56 (by omega), hF 59 (by omega), hF 62 (by omega), hF 63 (by omega)]
      exact hz
    · rw [e1, up_eq]; rfl
    · rw [e2', up_eq]; rfl
    · rw [e1, up_ne (by decide), up_eq]; rfl
  · show (sr M3 1 (up (M3.1 1) 11 0)).1 p = M0.1 p
    rw [rr p (by omega), hF p (by omega)]
/-- a text refused -/
def badA (A : St) (s : Int32) : St := (aK A, (mS (aM A), mA (aM A), mN (aM A), up (mT (aM A)) 0 (mT (aM A) 0 + 1)), aI A, (0, (aT A).2), s)
theorem bad_val {A : St} (v : VAL A) (s : Int32) : VAL (badA A s) := ⟨v.1, v.2.1, v.2.2.1, Nat.zero_le _, fun j hj => absurd hj (Nat.not_lt_zero j)⟩
theorem bad_c {y : Lay} (hy : LY y) {A : St} {M0 M : Mem} (h : CR A M0) {f s : Int32} (hf : ¬ f = 0) (hF : FCl M0 M) (h7 : M.1 28 7 = s) : wp (cTail y f M) (fun o => (o.1 = 0 ∧ o.2.1 = f) ∧ CR (badA A s) o.2.2 ∧ ∀ p, 73 ≤ p → o.2.2.1 p = M0.1 p) := by
  unfold cTail
  obtain ⟨N, e1, e2⟩ := tail_c hy M
  rw [e1, c0_s]
  unfold f_X2_faultPlace
  rw [gK_t (k_12 hy), r_12_0 hy, gN_t (by decide), gK_t (k_28 hy), cp_s]
  have e28 : N.1 28 7 = s := by rw [e2, sr_ne (by decide)]; exact h7
  rw [e28, wI_sr]
  refine wp_lt (wp_brf hf ?_)
  rw [gN_t (by decide), gK_t (k_30 hy), refuse_c0 hy, c0_s]
  generalize hM1 : sr N 1 (up (N.1 1) 12 s) = M1
  have m1 : ∀ p, ¬ p = 1 → ¬ p = 2 → M1.1 p = M.1 p := fun p x1 x2 => by rw [← hM1, sr_ne x1, e2, sr_ne x2]
  have m1a : M1.1 1 = up (M.1 1) 12 s := by rw [← hM1, sr_ap, e2, sr_ne (by decide)]
  have m1b : M1.1 2 = up (M.1 2) 1 0 := by rw [← hM1, sr_ne (by decide), e2, sr_ap]
  have rr : ∀ p, p < 12 ∨ 30 ≤ p → ¬ p = 1 → ¬ p = 2 → ¬ p = 36 → (sr M1 36 (up (M1.1 36) 0 (M1.1 36 0 + 1))).1 p = M0.1 p := fun p h0 h1 h2 h3 => by
    rw [sr_ne h3, m1 p h1 h2, hF p h0]
  have r1 : (sr M1 36 (up (M1.1 36) 0 (M1.1 36 0 + 1))).1 1 = up (M0.1 1) 12 s := by rw [sr_ne (by decide), m1a, hF 1 (by omega)]
  have r2 : (sr M1 36 (up (M1.1 36) 0 (M1.1 36 0 + 1))).1 2 = up (M0.1 2) 1 0 := by rw [sr_ne (by decide), m1b, hF 2 (by omega)]
  have r36 : (sr M1 36 (up (M1.1 36) 0 (M1.1 36 0 + 1))).1 36 = up (M0.1 36) 0 (M0.1 36 0 + 1) := by rw [sr_ap, m1 36 (by decide) (by decide), hF 36 (by omega)]
  generalize sr M1 36 (up (M1.1 36) 0 (M1.1 36 0 + 1)) = M2 at rr r1 r2 r36
  refine wp_some ⟨⟨rfl, rfl⟩, ?_, fun p hp => rr p (by omega) (by omega) (by omega) (by omega)⟩
  obtain ⟨h1, ⟨g1, g2, g3, g4⟩, h3, ⟨h4, h4'⟩, h5, h6⟩ := h
  refine ⟨h1.frame (rr 4 (by omega) (by decide) (by decide) (by decide)) (rr 5 (by omega) (by decide) (by decide) (by decide)) (rr 6 (by omega) (by decide) (by decide) (by decide)) (rr 7 (by omega) (by decide) (by decide) (by decide)) (rr 9 (by omega) (by decide) (by decide) (by decide)) (rr 10 (by omega) (by decide) (by decide) (by decide)), ⟨?_, ?_, ?_, fun k hk => ?_⟩, ?_, ⟨?_, fun q => ?_⟩, ⟨?_, fun k hk => absurd hk (Nat.not_lt_zero k)⟩, ?_⟩
  · unfold skV at g1 ⊢
    rw [rr 37 (by omega) (by decide) (by decide) (by decide), rr 38 (by omega) (by decide) (by decide) (by decide), rr 41 (by omega) (by decide) (by decide) (by decide), rr 42 (by omega) (by decide) (by decide) (by decide)]
    exact g1
  · rw [rr 31 (by omega) (by decide) (by decide) (by decide), rr 32 (by omega) (by decide) (by decide) (by decide)]; exact g2
  · rw [rr 30 (by omega) (by decide) (by decide) (by decide), rr 33 (by omega) (by decide) (by decide) (by decide), rr 34 (by omega) (by decide) (by decide) (by decide), rr 35 (by omega) (by decide) (by decide) (by decide)]; exact g3
  · rw [r36]
    show up (M0.1 36) 0 (M0.1 36 0 + 1) k = up (mT (aM A)) 0 (mT (aM A) 0 + 1) k
    by_cases e : k = 0
    · rw [e, up_eq, up_eq, g4 0 (by decide)]
    · rw [up_ne e, up_ne e]; exact g4 k hk
  · unfold ZR at h3 ⊢
    rw [rr 52 (by omega) (by decide) (by decide) (by decide), rr 55 (by omega) (by decide) (by decide) (by decide), rr 56 (by omega) (by decide) (by decide) (by decide), rr 59 (by omega) (by decide) (by decide) (by decide), rr 62 (by omega) (by decide) (by decide) (by decide), rr 63 (by omega) (by decide) (by decide) (by decide)]
    exact h3
  · rw [r1, up_ne (by decide)]; exact h4
  · refine CMM.frame (h4' q) (fun p hp => ?_)
    simp only [List.mem_cons, List.not_mem_nil, or_false] at hp
    exact rr p (by omega) (by omega) (by omega) (by omega)
  · rw [r2, up_eq]; rfl
  · rw [r1, up_eq]; rfl
