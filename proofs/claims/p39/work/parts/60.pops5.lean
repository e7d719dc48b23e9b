/-! ===== calls: feed, count, girl ===== -/
/-! bytes -/
theorem b255 (z : Int32) : z &&& 255 = n2 (z.toBitVec.toNat % 256) := by
  apply Int32.toBitVec_inj.1
  apply BitVec.eq_of_toNat_eq
  show (z.toBitVec &&& 255#32).toNat = (BitVec.ofNat 32 (z.toBitVec.toNat % 256)).toNat
  rw [BitVec.toNat_and, BitVec.toNat_ofNat, BitVec.toNat_ofNat]
  have e : 255 % 2 ^ 32 = 2 ^ 8 - 1 := by decide
  rw [e, Nat.and_two_pow_sub_one_eq_mod]
  omega
theorem l255 : ∀ i : Fin 32, (255#32).getLsbD i.val = decide (i.val < 8) := by decide
theorem s8_255 (x : Int32) : x.toInt8.toInt32.toInt8.toInt32 &&& 255 = x &&& 255 := by
  apply Int32.toBitVec_inj.1
  show ((((x.toBitVec.signExtend 8).signExtend 32).signExtend 8).signExtend 32) &&& 255#32 = x.toBitVec &&& 255#32
  apply BitVec.eq_of_getLsbD_eq
  intro i hi
  have h := l255 ⟨i, hi⟩
  dsimp only at h
  rw [BitVec.getLsbD_and, BitVec.getLsbD_and, h]
  by_cases q : i < 8
  · simp only [BitVec.getLsbD_signExtend, hi, q, decide_true, Bool.true_and, if_true]
  · rw [decide_eq_false q, Bool.and_false, Bool.and_false]
def fW (a b c d e : Int32) (j : Nat) : Int32 := if j < 4 then a else if j < 8 then b else if j < 12 then c else if j < 16 then d else e
def byt (w : Int32) (j : Nat) : Int32 := (w >>> (n2 (24 - 8 * j) &&& 31)) &&& 255
def feedT (t : Nat × Row) (a b c d e : Int32) : Nat × Row := (t.1 + 20, fun k => if k < t.1 then t.2 k else byt (fW a b c d e (k - t.1)) ((k - t.1) % 4))
def feedA (A : St) (a b c d e : Int32) : St := if (aT A).1 + 20 ≤ 700 then (aK A, aM A, aI A, feedT (aT A) a b c d e, aF A) else A
def feedR (A : St) : Int32 := if (aT A).1 + 20 ≤ 700 then n2 ((aT A).1 + 20) else -1
theorem feed_val {A : St} (v : VAL A) (a b c d e : Int32) : VAL (feedA A a b c d e) := by
  unfold feedA
  split
  · rename_i q
    refine ⟨v.1, v.2.1, v.2.2.1, q, fun k hk => ?_⟩
    show ∃ v, v < 256 ∧ (if k < (aT A).1 then (aT A).2 k else byt (fW a b c d e (k - (aT A).1)) ((k - (aT A).1) % 4)) = n2 v
    by_cases h : k < (aT A).1
    · rw [if_pos h]; exact v.2.2.2.2 k h
    · rw [if_neg h]
      unfold byt
      exact ⟨_, Nat.mod_lt _ (by decide), b255 _⟩
  · exact v
def sv (i : Nat) : Int32 := n2 (24 - 8 * i) - n2 (8 * i - 24)
theorem sv_s : sv 0 = 24 ∧ (∀ i : Fin 4, sv i.val + -8 = sv (i.val + 1) ∧ ¬ sv i.val < 0 ∧ sv i.val = n2 (24 - 8 * i.val)) ∧ sv 4 < 0 := by decide
theorem put_s {y : Lay} (hy : LY y) {M : Mem} {L : Nat} (hL : L + 4 ≤ 700) (h : M.1 2 1 = n2 L) (a : Int32) : wp (f_X9_put y 2 a M) (fun o => Eqx [2, 3] M o.2 ∧ o.2.1 2 1 = n2 (L + 4) ∧ (∀ k, k < L → o.2.1 3 k = M.1 3 k) ∧ ∀ k, k < 4 → o.2.1 3 (L + k) &&& 255 = byt a k) := by
  unfold f_X9_put
  rw [← sv_s.1]
  refine wp_fork (κ := Int32 → Mem → Option (Int32 × Mem)) (fun f i s => f (sv i) s) (fun i s => Eqx [2, 3] M s ∧ s.1 2 1 = n2 (L + i) ∧ (∀ k, k < L → s.1 3 k = M.1 3 k) ∧ ∀ k, k < i → s.1 3 (L + k) &&& 255 = byt a k) 4 (by decide) (i0 := 0) (by decide) ⟨Eqx.refl _ _, h, fun _ _ => rfl, fun k hk => absurd hk (Nat.not_lt_zero _)⟩ ?_ ?_
  · intro f i s hi hI hk
    obtain ⟨i1, i2, i3, i4⟩ := hI
    obtain ⟨e1, e2, e3⟩ := sv_s.2.1 ⟨i, hi⟩
    dsimp only at e1 e2 e3
    refine wp_brf e2 ?_
    simp only [lT_s, jn_s, c0_s, cp_s, cx_s, cx_t, gK_t (k_2 hy), gN_t (r := 2) (by decide), r_2_0 hy, gN_t (r := 3) (by decide), i2]
    refine wp_brf (n2_n0 (by omega)) ?_
    rw [gT_t (by rw [k_3 hy]), k_3 hy]
    refine wp_brf (by rw [show Int32.ofNat (2, 700).2 = n2 700 from rfl, n2_le (by decide) (by omega)]; omega) ?_
    rw [gA_n (k_3 hy) (by omega) (by omega), wI_sr, wI_sr, sr_ne (show ¬ 2 = 3 by decide), i2, n2_s, e1, n2_nat (by omega)]
    refine hk _ ⟨(i1.sr (by decide)).sr (by decide), ?_, fun k hk => ?_, fun k hk => ?_⟩
    · rw [sr_ap, up_eq]; rfl
    · rw [sr_ne (by decide), sr_ap, up_ne (by omega)]; exact i3 k hk
    · rw [sr_ne (by decide), sr_ap]
      by_cases q : k = i
      · rw [q, up_eq, s8_255, e3]; rfl
      · rw [up_ne (by omega)]; exact i4 k (by omega)
  · intro f s hI
    exact wp_brt sv_s.2.2 (wp_some ⟨hI.1, hI.2⟩)
theorem fW_4 (a b c d e : Int32) : ∀ k, k < 4 → fW a b c d e k = a ∧ fW a b c d e (4 + k) = b ∧ fW a b c d e (8 + k) = c ∧ fW a b c d e (12 + k) = d ∧ fW a b c d e (16 + k) = e := by
  intro k hk
  have h : k = 0 ∨ k = 1 ∨ k = 2 ∨ k = 3 := by omega
  rcases h with rfl | rfl | rfl | rfl <;> exact ⟨rfl, rfl, rfl, rfl, rfl⟩
/-- the tape is another -/
theorem CR.tape {A : St} {M N : Mem} (h : CR A M) (e : Eqx [2, 3] M N) {t : Nat × Row} (ht : CTP N t) : CR (aK A, aM A, aI A, t, aF A) N := by
  obtain ⟨h1, h2, h3, h4, h5, h6⟩ := h
  refine ⟨h1.eqx e (by decide), CMM.frame h2 (fun p hp => e.2 p ?_), ?_, ?_, ht, ?_⟩
  · simp only [List.mem_cons, List.not_mem_nil, or_false] at hp
    rcases hp with rfl | rfl | rfl | rfl | rfl | rfl | rfl | rfl | rfl | rfl | rfl <;> decide
  · unfold ZR at h3 ⊢
    rw [e.2 52 (by decide), e.2 55 (by decide), e.2 56 (by decide), e.2 59 (by decide), e.2 62 (by decide), e.2 63 (by decide)]
    exact h3
  · rw [e.2 1 (by decide)]
    refine ⟨h4.1, fun q => CMM.frame (h4.2 q) (fun p hp => e.2 p ?_)⟩
    simp only [List.mem_cons, List.not_mem_nil, or_false] at hp
    rcases hp with rfl | rfl | rfl | rfl | rfl | rfl | rfl | rfl | rfl | rfl | rfl <;> decide
  · rw [e.2 1 (by decide)]; exact h6
theorem feed_c {y : Lay} (hy : LY y) {A : St} {M : Mem} (h : CR A M) (v : VAL A) (a b c d e : Int32) : wp (f_X11_feed y 1 a b c d e M) (OD (feedA A a b c d e) (feedR A) M) := by
  unfold f_X11_feed f_X9_hasRoomFor
  have h5 := h.2.2.2.2.1
  have h7 := v.2.2.2.1
  unfold CTP at h5
  unfold feedA feedR feedT
  generalize hL : (aT A).1 = L at h5 h7
  simp only [lT_s, jn_s, c0_s, cp_s, cx_s, cx_t, gK_t (k_1 hy), gN_t (r := 1) (by decide), r_1_0 hy, r_1_1 hy, r_1_2 hy, r_1_3 hy, r_1_4 hy, r_1_5 hy, r_1_6 hy, r_1_7 hy, r_1_8 hy, r_1_9 hy, r_1_10 hy, gK_t (k_2 hy), gN_t (r := 2) (by decide), r_2_0 hy, h5.1, n2_c L (show (20 : Int32) = n2 20 from rfl)]
  by_cases q : L + 20 ≤ 700
  · rw [if_pos q, if_pos q, bR_f (by rw [show (700 : Int32) = n2 700 from rfl, n2_lt (by decide) (by omega)]; omega), gd_t (by decide), cp_s, bR_f (by decide)]
    refine wp_c0 _ (put_s hy (L := L) (by omega) h5.1 a) (fun r M1 h1 => ?_)
    refine wp_c0 _ (put_s hy (L := L + 4) (by omega) h1.2.1 b) (fun r M2 h2 => ?_)
    refine wp_c0 _ (put_s hy (L := L + 4 + 4) (by omega) h2.2.1 c) (fun r M3 h3 => ?_)
    refine wp_c0 _ (put_s hy (L := L + 4 + 4 + 4) (by omega) h3.2.1 d) (fun r M4 h4 => ?_)
    refine wp_c0 _ (put_s hy (L := L + 4 + 4 + 4 + 4) (by omega) h4.2.1 e) (fun r M5 h6 => ?_)
    obtain ⟨a1, a2, a3, a4⟩ := h1
    obtain ⟨b1, b2, b3, b4⟩ := h2
    obtain ⟨c1, c2, c3, c4⟩ := h3
    obtain ⟨d1, d2, d3, d4⟩ := h4
    obtain ⟨e1, e2, e3, e4⟩ := h6
    dsimp only at a1 a2 a3 a4 b1 b2 b3 b4 c1 c2 c3 c4 d1 d2 d3 d4 e1 e2 e3 e4
    have hE := (((a1.trans b1).trans c1).trans d1).trans e1
    refine wp_some ⟨e2, CR.tape h hE ⟨e2, fun k hk => ?_⟩, hE.kM (by decide)⟩
    have hk : k < L + 20 := hk
    show M5.1 3 k &&& 255 = if k < L then (aT A).2 k else byt (fW a b c d e (k - L)) ((k - L) % 4)
    by_cases w0 : k < L
    · rw [if_pos w0, e3 k (by omega), d3 k (by omega), c3 k (by omega), b3 k (by omega), a3 k w0]
      exact h5.2 k w0
    · rw [if_neg w0]
      by_cases w1 : k < L + 4
      · obtain ⟨j, rfl, hj⟩ : ∃ j, k = L + j ∧ j < 4 := ⟨k - L, by omega, by omega⟩
        rw [show L + j - L = j by omega, show j % 4 = j by omega, (fW_4 a b c d e j hj).1, e3 _ (by omega), d3 _ (by omega), c3 _ (by omega), b3 _ (by omega)]
        exact a4 j hj
      by_cases w2 : k < L + 8
      · obtain ⟨j, rfl, hj⟩ : ∃ j, k = L + 4 + j ∧ j < 4 := ⟨k - (L + 4), by omega, by omega⟩
        rw [show L + 4 + j - L = 4 + j by omega, show (4 + j) % 4 = j by omega, (fW_4 a b c d e j hj).2.1, e3 _ (by omega), d3 _ (by omega), c3 _ (by omega)]
        exact b4 j hj
      by_cases w3 : k < L + 12
      · obtain ⟨j, rfl, hj⟩ : ∃ j, k = L + 4 + 4 + j ∧ j < 4 := ⟨k - (L + 4 + 4), by omega, by omega⟩
        rw [show L + 4 + 4 + j - L = 8 + j by omega, show (8 + j) % 4 = j by omega, (fW_4 a b c d e j hj).2.2.1, e3 _ (by omega), d3 _ (by omega)]
        exact c4 j hj
      by_cases w4 : k < L + 16
      · obtain ⟨j, rfl, hj⟩ : ∃ j, k = L + 4 + 4 + 4 + j ∧ j < 4 := ⟨k - (L + 4 + 4 + 4), by omega, by omega⟩
        rw [show L + 4 + 4 + 4 + j - L = 12 + j by omega, show (12 + j) % 4 = j by omega, (fW_4 a b c d e j hj).2.2.2.1, e3 _ (by omega)]
        exact d4 j hj
      · obtain ⟨j, rfl, hj⟩ : ∃ j, k = L + 4 + 4 + 4 + 4 + j ∧ j < 4 := ⟨k - (L + 4 + 4 + 4 + 4), by omega, by omega⟩
        rw [show L + 4 + 4 + 4 + 4 + j - L = 16 + j by omega, show (16 + j) % 4 = j by omega, (fW_4 a b c d e j hj).2.2.2.2]
        exact e4 j hj
  · rw [if_neg q, if_neg q, bR_t (by rw [show (700 : Int32) = n2 700 from rfl, n2_lt (by decide) (by omega)]; omega), gd_t (by decide), cp_s, bR_t (by decide)]
    exact wp_some ⟨rfl, h, kM.refl M⟩
theorem sh_m : ∀ i : Fin 20, ((24 : Int32) - (8 : Int32) * (n2 i.val - n2 i.val / 4 * 4)) = n2 (24 - 8 * (i.val % 4)) := by decide
theorem MR.tape {A : St} {M N : Mem} (h : MR A M) (e : Eqx [73, 86] M N) (e73 : ∀ k, ¬ k = 15 → N.1 73 k = M.1 73 k) {t : Nat × Row} (h1 : N.1 73 15 = n2 t.1) (h2 : ∀ k, k < t.1 → N.1 86 k = t.2 k) : MR (aK A, aM A, aI A, t, aF A) N := by
  obtain ⟨c1, ⟨b1, b2, b3, b4⟩, c3, c4, c5⟩ := h
  refine ⟨c1.eqx e (by decide), ⟨?_, ?_, ?_, ?_⟩, ?_, ⟨h1, h2⟩, ?_⟩
  · show vo (moV N) = vo (aM A).1
    rw [← b1]; unfold moV
    rw [e73 31 (by decide), e73 32 (by decide), e73 33 (by decide), e73 34 (by decide), e73 35 (by decide), e73 41 (by decide), e.2 87 (by decide), e.2 88 (by decide), e.2 85 (by decide)]
  · rw [e73 36 (by decide), e.2 89 (by decide)]; exact b2
  · rw [e73 37 (by decide), e.2 97 (by decide), e.2 98 (by decide), e.2 99 (by decide)]; exact b3
  · rw [e.2 84 (by decide)]; exact b4
  · unfold MPI at c3 ⊢
    rw [e73 55 (by decide), e73 56 (by decide), e73 57 (by decide), e.2 104 (by decide), e.2 105 (by decide), e.2 106 (by decide), e.2 107 (by decide), e.2 108 (by decide), e.2 109 (by decide)]
    exact c3
  · rw [e73 24 (by decide)]; exact c5
theorem feed_m {y : Lay} (hy : LY y) {A : St} {M : Mem} (h : MR A M) (v : VAL A) (a b c d e : Int32) : wp (f_X12_feed y 73 a b c d e M) (OM (feedA A a b c d e) (0, feedR A) M) := by
  unfold f_X12_feed
  rw [gK_t (k_73 hy)]
  refine OM.start hy h (fun M0 h0 g0 hc => ?_)
  have h5 := h0.2.2.2.1
  have h7 := v.2.2.2.1
  unfold feedA feedR feedT
  generalize hL : (aT A).1 = L at h5 h7
  rw [h5.1, n2_c L (show (20 : Int32) = n2 20 from rfl)]
  by_cases q : L + 20 ≤ 700
  · rw [if_pos q, if_pos q]
    refine wp_brt (by rw [show (700 : Int32) = n2 700 from rfl, n2_le (by omega) (by decide)]; omega) ?_
    refine wp_for (i0 := 0) 20 (fun i s => Eqx [73, 86] M0 s ∧ s.1 73 15 = n2 (L + i) ∧ (∀ k, ¬ k = 15 → s.1 73 k = M0.1 73 k) ∧ (∀ k, k < L → s.1 86 k = M0.1 86 k) ∧ ∀ k, k < i → s.1 86 (L + k) = byt (fW a b c d e k) (k % 4)) (by decide) rfl (by decide) ⟨Eqx.refl _ _, h5.1, fun _ _ => rfl, fun _ _ => rfl, fun k hk => absurd hk (Nat.not_lt_zero _)⟩ ?_ ?_
    · intro f i s hi hI hk
      obtain ⟨i1, i2, i3, i4, i5⟩ := hI
      refine wp_brf (nle_l (m := 20) rfl hi (by omega)) ?_
      rw [jn_s]
      have hsh := sh_m ⟨i, hi⟩
      dsimp only at hsh
      have go : ∀ v : Int32, v = fW a b c d e i → wp (gN (y.2.1 73 14) (gd (¬ (4 : Int32) = 0) (gA y (y.2.1 73 14) 1 (s.1 73 15) (lt (wI s (y.2.1 73 14) (s.1 73 15).toNatClampNeg ((v >>> (((24 : Int32) - ((8 : Int32) * (n2 i - n2 i / (4 : Int32) * (4 : Int32)))) &&& 31)) &&& (255 : Int32))) fun (M16 : Mem) => lt (wI M16 73 15 ((M16.1 73 15) + (1 : Int32))) fun (M17 : Mem) => lt (n2 i + (1 : Int32)) fun (v18 : Int32) => f v18 M17)))) (OM (aK A, aM A, aI A, (L + 20, fun k => if k < L then (aT A).2 k else byt (fW a b c d e (k - L)) ((k - L) % 4)), aF A) (0, n2 (L + 20)) M) := by
        intro v hv
        rw [gd_t (by decide), i2, hsh]
        simp only [gK_t (k_73 hy), gN_t (r := 73) (by decide), r_73_0 hy, r_73_1 hy, r_73_2 hy, r_73_5 hy, r_73_6 hy, r_73_7 hy, r_73_8 hy, r_73_9 hy, r_73_10 hy, r_73_11 hy, r_73_12 hy, r_73_13 hy, r_73_14 hy, r_73_28 hy, r_73_29 hy, r_73_30 hy, r_73_38 hy, r_73_39 hy, r_73_40 hy, r_73_42 hy, r_73_43 hy, r_73_44 hy, r_73_45 hy, r_73_46 hy, r_73_47 hy, r_73_48 hy, r_73_49 hy, r_73_50 hy, r_73_51 hy, r_73_53 hy, r_73_58 hy, r_73_59 hy, r_73_60 hy, r_73_61 hy, r_73_62 hy, r_73_63 hy, gN_t (r := 86) (by decide), lT_s]
        rw [gA_n (k_86 hy) (by omega) (by omega), wI_sr, wI_sr, sr_ne (show ¬ 73 = 86 by decide), i2, n2_s, n2_s, n2_nat (by omega)]
        refine hk _ ⟨(i1.sr (by decide)).sr (by decide), ?_, fun k hk => ?_, fun k hk => ?_, fun k hk => ?_⟩
        · rw [sr_ap, up_eq]; rfl
        · rw [sr_ap, up_ne hk]; exact i3 k hk
        · rw [sr_ne (by decide), sr_ap, up_ne (by omega)]; exact i4 k hk
        · rw [sr_ne (by decide), sr_ap]
          by_cases w : k = i
          · rw [w, up_eq, hv]; rfl
          · rw [up_ne (by omega)]; exact i5 k (by omega)
      have l4 : ∀ m : Nat, m < 100 → (n2 m ≤ n2 i ↔ m ≤ i) := fun m hm => n2_le (by omega) (by omega)
      unfold fW at go
      refine wp_br (fun w4 => wp_br (fun w8 => wp_br (fun w12 => wp_br (fun w16 => ?_) (fun w16 => ?_)) (fun w12 => ?_)) (fun w8 => ?_)) (fun w4 => ?_)
      · have w4' := (l4 4 (by decide)).mp w4
        have w8' := (l4 8 (by decide)).mp w8
        have w12' := (l4 12 (by decide)).mp w12
        have w16' := (l4 16 (by decide)).mp w16
        exact go _ (by rw [if_neg (by omega), if_neg (by omega), if_neg (by omega), if_neg (by omega)])
      · have w4' := (l4 4 (by decide)).mp w4
        have w8' := (l4 8 (by decide)).mp w8
        have w12' := (l4 12 (by decide)).mp w12
        have w16' : ¬ 16 ≤ i := fun z => w16 ((l4 16 (by decide)).mpr z)
        exact go _ (by rw [if_neg (by omega), if_neg (by omega), if_neg (by omega), if_pos (by omega)])
      · have w4' := (l4 4 (by decide)).mp w4
        have w8' := (l4 8 (by decide)).mp w8
        have w12' : ¬ 12 ≤ i := fun z => w12 ((l4 12 (by decide)).mpr z)
        exact go _ (by rw [if_neg (by omega), if_neg (by omega), if_pos (by omega)])
      · have w4' := (l4 4 (by decide)).mp w4
        have w8' : ¬ 8 ≤ i := fun z => w8 ((l4 8 (by decide)).mpr z)
        exact go _ (by rw [if_neg (by omega), if_pos (by omega)])
      · have w4' : ¬ 4 ≤ i := fun z => w4 ((l4 4 (by decide)).mpr z)
        exact go _ (by rw [if_pos (by omega)])
    · intro f s hI
      obtain ⟨i1, i2, i3, i4, i5⟩ := hI
      refine wp_brt (by decide) (wp_some ⟨?_, fun _ => i2, MR.tape h0 i1 i3 i2 (fun k hk => ?_), g0.trans (i1.kC (by decide))⟩)
      · show s.1 73 4 = 0
        rw [i3 4 (by decide), hc]
      · have hk : k < L + 20 := hk
        show s.1 86 k = if k < L then (aT A).2 k else byt (fW a b c d e (k - L)) ((k - L) % 4)
        by_cases w : k < L
        · rw [if_pos w, i4 k w]; exact h5.2 k w
        · rw [if_neg w]
          have := i5 (k - L) (by omega)
          rw [show L + (k - L) = k by omega] at this
          exact this
  · rw [if_neg q, if_neg q]
    refine wp_brf (by rw [show (700 : Int32) = n2 700 from rfl, n2_le (by omega) (by decide)]; omega) (OM.ret h0 g0 hc)
/-! count -/
def countN (A : St) : Nat → Int32
  | 0 => n2 (kn (aK A))
  | 1 => n2 (kw (aK A))
  | 2 => n2 (kg (aK A))
  | 3 => sDy (aS A)
  | 4 => sKn (aS A)
  | 5 => n2 (kr (aK A))
  | 6 => n2 (kb (aK A))
  | 7 => sMa (aS A)
  | 8 => sPg (aS A)
  | 9 => sRs (aS A)
  | 10 => it (fun k a => a + sB (aS A) k) 0 30
  | 11 => n2 (mA (aM A)).1
  | 12 => n2 (mN (aM A)).1
  | 13 => n2 (aT A).1
  | 14 => mT (aM A) 0
  | 15 => mT (aM A) 1
  | _ => mT (aM A) 2
def countP (A : St) (w : Int32) : Nat × Int32 := if inR 0 16 w then (0, countN A w.toInt.toNat) else (1, 0)
theorem OC.ret' {A : St} {M N : Mem} {r R : Int32} (e : r = R) (h : CR A N) (k : kM M N) : wp (some (0, r, N)) (OC A (0, R) M) := by rw [e]; exact OC.ret h k
theorem OM.ret' {A : St} {M N : Mem} {r R : Int32} (e : r = R) (h : MR A N) (g : kC M N) (hc : N.1 73 4 = 0) : wp (some (r, N)) (OM A (0, R) M) := by rw [e]; exact OM.ret h g hc
theorem out16 {w : Int32} : (w < 0 ∨ 16 < w) ↔ ¬ inR 0 16 w := by
  have z0 : (0 : Int32).toInt = 0 := by decide
  have z16 : (16 : Int32).toInt = 16 := by decide
  rw [i_lt, i_lt, z0, z16]
  constructor
  · intro q z
    have := z.1
    have := z.2
    omega
  · intro q
    by_cases z : w.toInt < 0
    · exact Or.inl z
    · exact Or.inr (Int.lt_of_not_ge (fun w => q ⟨by omega, w⟩))
theorem m17 {m : Nat} (h : m ≤ 16) : m = 0 ∨ m = 1 ∨ m = 2 ∨ m = 3 ∨ m = 4 ∨ m = 5 ∨ m = 6 ∨ m = 7 ∨ m = 8 ∨ m = 9 ∨ m = 10 ∨ m = 11 ∨ m = 12 ∨ m = 13 ∨ m = 14 ∨ m = 15 ∨ m = 16 := by omega
theorem refused_c {y : Lay} (hy : LY y) {M : Mem} {k : Nat} (hk : k < 3) : f_X4_refused y 30 (n2 k) M = some (M.1 36 k) := by
  unfold f_X4_refused
  simp only [lT_s, jn_s, c0_s, cp_s, cx_s, cx_t, bR_f (n2_n0 (show k < 2147483648 by omega)), bR_f (nle_l (c := 3) (m := 3) rfl hk (by omega)), gK_t (k_30 hy), gN_t (r := 30) (by decide), r_30_0 hy, r_30_1 hy, r_30_2 hy, r_30_3 hy, r_30_4 hy, r_30_5 hy, gN_t (r := 36) (by decide), gA_n (k_36 hy) hk (by omega), n2_nat (show k < 2147483648 by omega)]
theorem count_c {y : Lay} (hy : LY y) {A : St} {M : Mem} (h : CR A M) (v : VAL A) (w : Int32) : wp (f_X11_count y 1 w M) (OC A (countP A w) M) := by
  unfold f_X11_count countP
  have hv := h.v
  obtain ⟨b1, b2, b3, b4⟩ := h.2.1
  have e0 : f_X4_refused y 30 0 M = some (M.1 36 0) := refused_c hy (k := 0) (by decide)
  have e1 : f_X4_refused y 30 1 M = some (M.1 36 1) := refused_c hy (k := 1) (by decide)
  have e2 : f_X4_refused y 30 2 M = some (M.1 36 2) := refused_c hy (k := 2) (by decide)
  simp only [lT_s, jn_s, c0_s, cp_s, cx_s, cx_t, gK_t (k_1 hy), gN_t (r := 1) (by decide), r_1_0 hy, r_1_1 hy, r_1_2 hy, r_1_3 hy, r_1_4 hy, r_1_5 hy, r_1_6 hy, r_1_7 hy, r_1_8 hy, r_1_9 hy, r_1_10 hy, gK_t (k_2 hy), gN_t (r := 2) (by decide), r_2_0 hy, gK_t (k_4 hy), gN_t (r := 4) (by decide), r_4_6 hy, r_4_7 hy, r_4_8 hy, gK_t (k_30 hy), gN_t (r := 30) (by decide), r_30_0 hy, r_30_1 hy, r_30_2 hy, r_30_3 hy, r_30_4 hy, r_30_5 hy, gK_t (k_31 hy), gN_t (r := 31) (by decide), r_31_0 hy, gK_t (k_37 hy), gN_t (r := 37) (by decide), r_37_0 hy, r_37_1 hy, r_37_2 hy, r_37_3 hy, r_37_4 hy, r_37_5 hy, r_37_6 hy, cells_4 hy (h.1.geo v.1), allBlue_37 hy, e0, e1, e2]
  by_cases q : inR 0 16 w
  · rw [if_pos q]
    refine wp_brf (fun z => out16.mp z q) ?_
    obtain ⟨q1, -, q3⟩ := inR_n q
    generalize w.toInt.toNat = m at q1 q3
    subst q1
    have fin : ∀ r, r = countN A m → wp (some (0, r, M)) (OC A (0, countN A m) M) := fun r hr => OC.ret' hr h (kM.refl M)
    rcases m17 q3 with rfl | rfl | rfl | rfl | rfl | rfl | rfl | rfl | rfl | rfl | rfl | rfl | rfl | rfl | rfl | rfl | rfl
    · refine wp_brt (by decide) (fin _ rfl)
    · iterate 1 refine wp_brf (by decide) ?_
      exact wp_brt (by decide) (fin _ h.1.1.1)
    · iterate 2 refine wp_brf (by decide) ?_
      exact wp_brt (by decide) (fin _ h.1.1.2.2.2.2.1)
    · iterate 3 refine wp_brf (by decide) ?_
      exact wp_brt (by decide) (fin _ hv.2.2.2.2.2)
    · iterate 4 refine wp_brf (by decide) ?_
      exact wp_brt (by decide) (fin _ hv.2.2.2.1)
    · iterate 5 refine wp_brf (by decide) ?_
      exact wp_brt (by decide) (fin _ h.1.1.2.2.1)
    · iterate 6 refine wp_brf (by decide) ?_
      exact wp_brt (by decide) (fin _ h.1.1.2.2.2.1)
    · iterate 7 refine wp_brf (by decide) ?_
      exact wp_brt (by decide) (fin _ hv.2.2.2.2.1)
    · iterate 8 refine wp_brf (by decide) ?_
      exact wp_brt (by decide) (fin _ hv.2.1)
    · iterate 9 refine wp_brf (by decide) ?_
      exact wp_brt (by decide) (fin _ hv.2.2.1)
    · iterate 10 refine wp_brf (by decide) ?_
      exact wp_brt (by decide) (fin _ (by rw [hv.1.1]; rfl))
    · iterate 11 refine wp_brf (by decide) ?_
      exact wp_brt (by decide) (fin _ b2.1)
    · iterate 12 refine wp_brf (by decide) ?_
      exact wp_brt (by decide) (fin _ b3.1)
    · iterate 13 refine wp_brf (by decide) ?_
      exact wp_brt (by decide) (fin _ h.2.2.2.2.1.1)
    · iterate 14 refine wp_brf (by decide) ?_
      exact wp_brt (by decide) (fin _ (b4 0 (by decide)))
    · iterate 15 refine wp_brf (by decide) ?_
      exact wp_brt (by decide) (fin _ (b4 1 (by decide)))
    · iterate 16 refine wp_brf (by decide) ?_
      exact fin _ (b4 2 (by decide))
  · rw [if_neg q]
    exact wp_brt (out16.mpr q) (OC.thr h (by decide))
theorem count_m {y : Lay} (hy : LY y) {A : St} {M : Mem} (h : MR A M) (v : VAL A) (w : Int32) : wp (f_X12_count y 73 w M) (OM A (countP A w) M) := by
  unfold f_X12_count countP
  rw [gK_t (k_73 hy)]
  refine OM.start hy h (fun M0 h0 g0 hc => ?_)
  have hv := h0.v
  obtain ⟨b1, b2, b3, b4⟩ := h0.2.1
  have g := h0.1.geo v.1
  by_cases q : inR 0 16 w
  · rw [if_pos q]
    refine wp_brf (fun z => out16.mp z q) ?_
    obtain ⟨q1, -, q3⟩ := inR_n q
    generalize w.toInt.toNat = m at q1 q3
    subst q1
    have fin : ∀ r, r = countN A m → wp (some (r, M0)) (OM A (0, countN A m) M) := fun r hr => OM.ret' hr h0 g0 hc
    have ga : ∀ {k : Nat} {X : Option (Int32 × Mem)}, k < 18 → wp X (OM A (0, countN A m) M) → wp (gN (y.2.1 73 5) (gA y (y.2.1 73 5) 1 (n2 k) X)) (OM A (0, countN A m) M) := fun {k X} hk hX => by
      simp only [gN_t (r := 77) (by decide), r_73_5 hy]
      rw [gA_n (k_77 hy) hk (by omega)]
      exact hX
    have gs : ∀ {k : Nat} {X : Option (Int32 × Mem)} {z : Int32}, z = n2 k → k < 3 → wp X (OM A (0, countN A m) M) → wp (gN (y.2.1 73 12) (gA y (y.2.1 73 12) 1 z X)) (OM A (0, countN A m) M) := fun {k X z} hz hk hX => by
      subst hz
      simp only [gN_t (r := 84) (by decide), r_73_12 hy]
      rw [gA_n (k_84 hy) hk (by omega)]
      exact hX
    have r5 := r_73_5 hy
    have r12 := r_73_12 hy
    rcases m17 q3 with rfl | rfl | rfl | rfl | rfl | rfl | rfl | rfl | rfl | rfl | rfl | rfl | rfl | rfl | rfl | rfl | rfl
    · refine wp_brt (by decide) ?_
      rw [cellsG hy g, cp_s]
      exact fin _ rfl
    · iterate 1 refine wp_brf (by decide) ?_
      exact wp_brt (by decide) (ga (k := 0) (by decide) (fin _ (by rw [r5]; exact h0.1.1.1)))
    · iterate 2 refine wp_brf (by decide) ?_
      exact wp_brt (by decide) (ga (k := 2) (by decide) (fin _ (by rw [r5]; exact h0.1.1.2.2.2.2)))
    · iterate 3 refine wp_brf (by decide) ?_
      exact wp_brt (by decide) (fin _ hv.2.2.2.2.2)
    · iterate 4 refine wp_brf (by decide) ?_
      exact wp_brt (by decide) (fin _ hv.2.2.2.1)
    · iterate 5 refine wp_brf (by decide) ?_
      exact wp_brt (by decide) (ga (k := 4) (by decide) (fin _ (by rw [r5]; exact h0.1.1.2.2.1)))
    · iterate 6 refine wp_brf (by decide) ?_
      exact wp_brt (by decide) (ga (k := 5) (by decide) (fin _ (by rw [r5]; exact h0.1.1.2.2.2.1)))
    · iterate 7 refine wp_brf (by decide) ?_
      exact wp_brt (by decide) (fin _ hv.2.2.2.2.1)
    · iterate 8 refine wp_brf (by decide) ?_
      exact wp_brt (by decide) (fin _ hv.2.1)
    · iterate 9 refine wp_brf (by decide) ?_
      exact wp_brt (by decide) (fin _ hv.2.2.1)
    · iterate 10 refine wp_brf (by decide) ?_
      refine wp_brt (by decide) ?_
      rw [allBlueM hy g, cp_s]
      refine fin _ ?_
      show _ = it (fun k a => a + sB (aS A) k) 0 30
      rw [abs_eq v.2.1.1.1.1.1 v.1.n30, hv.1.1]
    · iterate 11 refine wp_brf (by decide) ?_
      exact wp_brt (by decide) (fin _ b2.1)
    · iterate 12 refine wp_brf (by decide) ?_
      exact wp_brt (by decide) (fin _ b3.1)
    · iterate 13 refine wp_brf (by decide) ?_
      exact wp_brt (by decide) (fin _ h0.2.2.2.1.1)
    · iterate 14 refine wp_brf (by decide) ?_
      exact wp_brt (by decide) (gs (k := 0) (by decide) (by decide) (fin _ (by rw [r12]; exact b4 0 (by decide))))
    · iterate 15 refine wp_brf (by decide) ?_
      exact wp_brt (by decide) (gs (k := 1) (by decide) (by decide) (fin _ (by rw [r12]; exact b4 1 (by decide))))
    · iterate 16 refine wp_brf (by decide) ?_
      exact gs (k := 2) (by decide) (by decide) (fin _ (by rw [r12]; exact b4 2 (by decide)))
  · rw [if_neg q]
    exact wp_brt (out16.mpr q) (OM.fail hy rfl (by decide) h0 g0)
