/-! ===== words, signs; refusing; both sides at once ===== -/
def isW (T : Tx) (p : Nat) (l : List Int32) : Bool := decide (tK T p = 1) && (decide (tE T p - tS T p = l.length) && decide (∀ i, i < l.length → n2 (T.1 (tS T p + i)) = l.getD i 0))
def isS (T : Tx) (p c : Nat) : Bool := decide (tK T p = 3) && decide (T.1 (tS T p) = c)
theorem isW_iff {T : Tx} {p : Nat} {l : List Int32} : isW T p l = true ↔ tK T p = 1 ∧ tE T p - tS T p = l.length ∧ ∀ i, i < l.length → n2 (T.1 (tS T p + i)) = l.getD i 0 := by
  unfold isW
  rw [Bool.and_eq_true, Bool.and_eq_true, decide_eq_true_eq, decide_eq_true_eq, decide_eq_true_eq]
theorem isS_iff {T : Tx} {p c : Nat} : isS T p c = true ↔ tK T p = 3 ∧ T.1 (tS T p) = c := by
  unfold isS
  rw [Bool.and_eq_true, decide_eq_true_eq, decide_eq_true_eq]
theorem tK_cases (T : Tx) (p : Nat) : tK T p = 0 ∨ tK T p = 1 ∨ tK T p = 2 ∨ tK T p = 3 := by
  unfold tK
  split
  · split
    · exact Or.inr (Or.inl rfl)
    · split
      · exact Or.inr (Or.inr (Or.inl rfl))
      · exact Or.inr (Or.inr (Or.inr rfl))
  · exact Or.inl rfl
theorem tS_lt {T : Tx} {p : Nat} (h : ¬ tK T p = 0) : tS T p < T.2 := by
  unfold tK at h
  by_cases q : tS T p < T.2
  · exact q
  · rw [if_neg q] at h; exact absurd rfl h
theorem strL : ∀ k : Fin 37, (strB k.val).length < 8 := by decide +kernel
theorem strL' {a : Nat} (h : 1000 ≤ a ∧ a < 1037) : (strB (a - 1000)).length < 8 := strL ⟨a - 1000, by omega⟩
theorem kCl_c {T : Tx} (hT : TOK T) {p : Nat} (hp : p ≤ T.2) {c : Nat} (hc : c < 256) : kCl T p = n2 c ↔ isS T p c = true := by
  rw [isS_iff]
  unfold kCl
  rcases tK_cases T p with k | k | k | k
  · rw [k, if_pos rfl]
    exact ⟨fun w => absurd w.symm (n2_n1 hc), fun w => absurd w.1 (by decide)⟩
  · rw [k, if_neg (by decide), if_pos rfl]
    exact ⟨fun w => by rw [i_eq, n2_int (by omega)] at w; exact absurd w (by show ¬ (-2 : Int) = c; omega), fun w => absurd w.1 (by decide)⟩
  · rw [k, if_neg (by decide), if_neg (by decide), if_pos rfl]
    exact ⟨fun w => by rw [i_eq, n2_int (by omega)] at w; exact absurd w (by show ¬ (-3 : Int) = c; omega), fun w => absurd w.1 (by decide)⟩
  · have hv := hT.2 (tS T p) (tS_lt (by rw [k]; decide))
    rw [k, if_neg (by decide), if_neg (by decide), if_neg (by decide), n2_inj (by omega) (by omega)]
    exact ⟨fun w => ⟨rfl, w⟩, fun w => w.2⟩
theorem kCl_k {T : Tx} (hT : TOK T) {p : Nat} (hp : p ≤ T.2) : (kCl T p = -1 ↔ tK T p = 0) ∧ (kCl T p = -2 ↔ tK T p = 1) ∧ (kCl T p = -3 ↔ tK T p = 2) := by
  unfold kCl
  rcases tK_cases T p with k | k | k | k
  · rw [k, if_pos rfl]; decide
  · rw [k, if_neg (by decide), if_pos rfl]; decide
  · rw [k, if_neg (by decide), if_neg (by decide), if_pos rfl]; decide
  · have hv := hT.2 (tS T p) (tS_lt (by rw [k]; decide))
    rw [k, if_neg (by decide), if_neg (by decide), if_neg (by decide)]
    refine ⟨⟨fun w => absurd w (n2_n1 hv), fun w => absurd w (by decide)⟩, ⟨fun w => ?_, fun w => absurd w (by decide)⟩, ⟨fun w => ?_, fun w => absurd w (by decide)⟩⟩
    · rw [i_eq, n2_int (by omega)] at w; exact absurd w (by show ¬ ((T.1 (tS T p) : Nat) : Int) = -2; omega)
    · rw [i_eq, n2_int (by omega)] at w; exact absurd w (by show ¬ ((T.1 (tS T p) : Nat) : Int) = -3; omega)
theorem kMd_n (T : Tx) (p : Nat) : ∃ v, v < 5 ∧ (kMd T p = n2 v ∧ (v = 0 ↔ tK T p = 0) ∧ (v = 1 ↔ tK T p = 1) ∧ (v = 2 ↔ tK T p = 2) ∧ (v = 3 ↔ tK T p = 3 ∧ isMk (T.1 (tS T p)) = true)) := by
  unfold kMd
  rcases tK_cases T p with k | k | k | k
  · exact ⟨0, by decide, by rw [k, if_pos rfl]; refine ⟨rfl, by decide, by decide, by decide, ⟨fun w => absurd w (by decide), fun w => absurd w.1 (by decide)⟩⟩⟩
  · exact ⟨1, by decide, by rw [k, if_neg (by decide), if_pos rfl]; refine ⟨rfl, by decide, by decide, by decide, ⟨fun w => absurd w (by decide), fun w => absurd w.1 (by decide)⟩⟩⟩
  · exact ⟨2, by decide, by rw [k, if_neg (by decide), if_neg (by decide), if_pos rfl]; refine ⟨rfl, by decide, by decide, by decide, ⟨fun w => absurd w (by decide), fun w => absurd w.1 (by decide)⟩⟩⟩
  · by_cases q : isMk (T.1 (tS T p)) = true
    · exact ⟨3, by decide, by rw [k, if_neg (by decide), if_neg (by decide), if_neg (by decide), if_pos q]; refine ⟨rfl, by decide, by decide, by decide, ⟨fun _ => ⟨rfl, q⟩, fun _ => rfl⟩⟩⟩
    · exact ⟨4, by decide, by rw [k, if_neg (by decide), if_neg (by decide), if_neg (by decide), if_neg q]; refine ⟨rfl, by decide, by decide, by decide, ⟨fun w => absurd w (by decide), fun w => absurd w.2 q⟩⟩⟩
theorem isWord_c {y : Lay} (hy : LY y) {T : Tx} (hT : TOK T) {M : Mem} {p : Nat} (h : TC T M p) {a : Nat} (ha : 1000 ≤ a ∧ a < 1037) : f_X10_isWord y 28 a M = some (b01 (isW T p (strB (a - 1000)))) := by
  obtain ⟨h1, h2, ⟨h3, h4⟩, h5, -⟩ := h
  obtain ⟨e1, e2⟩ := tE_sp hT h2
  obtain ⟨-, s2, -, -⟩ := tS_sp hT h2
  have h7 := hT.1
  have hl := strL' ha
  have hF : FUEL = 100000 := rfl
  refine wp_eq ?_
  unfold f_X10_isWord
  rw [gK_t (k_28 hy), h3, h4, h5]
  refine wp_jn ?_
  refine wp_br (fun w => ?_) (fun w => wp_some (b01_f (fun z => w ((kCl_k hT h2).2.1.mpr (isW_iff.mp z).1))))
  have k1 := (kCl_k hT h2).2.1.mp w
  rw [gd_t ha, show n2 (tE T p) - n2 (tS T p) = n2 (tE T p - tS T p) from n2_sub e1]
  refine wp_br (fun w2 => ?_) (fun w2 => wp_some (b01_f (fun z => w2 (by rw [(isW_iff.mp z).2.1]))))
  have k2 : tE T p - tS T p = (strB (a - 1000)).length := (n2_inj (by omega) (by omega)).mp w2
  refine wp_for0 (strB (a - 1000)).length (fun n => ∀ i, i < n → n2 (T.1 (tS T p + i)) = (strB (a - 1000)).getD i 0) (by omega) rfl (Nat.zero_le _) (fun i hi => absurd hi (Nat.not_lt_zero i)) ?_ ?_
  · intro f i hi hI hk
    rw [gd_t ha]
    refine wp_brf (by rw [n2_le (by omega) (by omega)]; omega) ?_
    rw [r_28_0 hy, gN_t (by decide), gK_t (k_2 hy), n2_add, byteAt_c hy hT h1 (by omega), cp_s, gd_t ha, n2_nat (by omega), gd_t (by
      intro q
      cases q with
      | inl q => exact n2_n0 (by omega) q
      | inr q => omega)]
    refine wp_br (fun w3 => wp_lt ?_) (fun w3 => wp_some (b01_f (fun z => w3 ((isW_iff.mp z).2.2 i hi))))
    rw [n2_s]
    refine hk (fun k hk2 => ?_)
    by_cases ek : k = i
    · rw [ek]; exact w3
    · exact hI k (by omega)
  · intro f hI
    rw [gd_t ha]
    refine wp_brt (by rw [n2_le (by omega) (by omega)]; exact Nat.le_refl _) (wp_some (b01_t (isW_iff.mpr ⟨k1, k2, hI⟩)))
theorem is_m {y : Lay} (hy : LY y) {T : Tx} (hT : TOK T) {N : Mem} {p : Nat} (h : TM T N p) (hb : N.1 73 22 = 0) {a : Nat} (ha : 1000 ≤ a ∧ a < 1037) : f_X12_is y 73 a N = some (b01 (isW T p (strB (a - 1000)))) := by
  obtain ⟨h1, h2, ⟨h3, h4, -⟩, h5, -⟩ := h
  obtain ⟨e1, e2⟩ := tE_sp hT h2
  obtain ⟨-, s2, -, -⟩ := tS_sp hT h2
  have h7 := hT.1
  have hl := strL' ha
  have hF : FUEL = 100000 := rfl
  obtain ⟨v, v1, v2, v3, v4, v5, v6⟩ := kMd_n T p
  refine wp_eq ?_
  unfold f_X12_is
  rw [gK_t (k_73 hy), h3, h4, h5, hb, v2]
  have none0 : ∀ (F : (Int32 → Int32 → Option Int32) → Int32 → Int32 → Option Int32), (∀ s v5, F s 0 v5 = some 0) → ¬ isW T p (strB (a - 1000)) = true → wp (fixN (fun _ _ => none) F FUEL 0 0) (fun z => z = b01 (isW T p (strB (a - 1000)))) := by
    intro F hF2 hn
    rw [show FUEL = 99999 + 1 from rfl]
    show wp (F _ 0 0) _
    rw [hF2]
    exact wp_some (b01_f hn)
  refine wp_jn ?_
  refine wp_jn ?_
  have hend : ∀ (s : Int32 → Int32 → Option Int32) (v5 : Int32), (fun (s6 : Int32 → Int32 → Option Int32) (v4 : Int32) (v5 : Int32) => jn (fun (_u : Unit) => gd (v4 = 0 ∨ v4 = 1) (some v4)) fun j8 => br (v4 = 0) (j8 ()) (gd (1000 ≤ a ∧ a < 1037) (br ((Int32.ofNat (strB (a - 1000)).length) ≤ v5) (j8 ()) (gd (1000 ≤ a ∧ a < 1037) (gd (¬ (v5 < 0 ∨ (strB (a - 1000)).length ≤ v5.toNatClampNeg)) (gN (y.2.1 73 14) (gA y (y.2.1 73 14) 1 (n2 (tS T p) + v5) (jn (fun (v18 : Int32) => lt (v5 + (1 : Int32)) fun (v20 : Int32) => s6 v18 v20) fun j19 => br (((strB (a - 1000)).getD v5.toNatClampNeg 0) = (N.1 (y.2.1 73 14) (n2 (tS T p) + v5).toNatClampNeg)) (j19 (1 : Int32)) (j19 (0 : Int32)))))))))) s 0 v5 = some 0 := by
    intro s v5
    dsimp only
    rw [jn_s, bR_t (show (0 : Int32) = 0 from rfl), gd_t (Or.inl rfl)]
  refine wp_brt rfl ?_
  refine wp_br (fun w => ?_) (fun w => none0 _ hend (fun z => w ((n2_inj (by omega) (by decide)).mpr (v4.mpr (isW_iff.mp z).1))))
  have k1 : tK T p = 1 := v4.mp ((n2_inj (j := 1) (by omega) (by decide)).mp w)
  rw [gd_t ha, show n2 (tE T p) - n2 (tS T p) = n2 (tE T p - tS T p) from n2_sub e1]
  refine wp_br (fun w2 => ?_) (fun w2 => none0 _ hend (fun z => w2 (by rw [(isW_iff.mp z).2.1])))
  have k2 : (strB (a - 1000)).length = tE T p - tS T p := (n2_inj (by omega) (by omega)).mp w2
  clear none0 hend
  refine wp_for2 (strB (a - 1000)).length (fun n q => (q = 1 ∧ ∀ i, i < n → n2 (T.1 (tS T p + i)) = (strB (a - 1000)).getD i 0) ∨ (q = 0 ∧ ¬ isW T p (strB (a - 1000)) = true)) (by omega) rfl (Nat.zero_le _) (Or.inl ⟨rfl, fun i hi => absurd hi (Nat.not_lt_zero i)⟩) ?_ ?_
  · intro f i q hi hI hk
    refine wp_jn ?_
    rcases hI with ⟨rfl, hI⟩ | ⟨rfl, hI⟩
    · refine wp_brf (by decide) ?_
      rw [gd_t ha]
      refine wp_brf (by rw [n2_le (by omega) (by omega)]; omega) ?_
      rw [gd_t ha, gd_t (by
        rw [n2_nat (by omega)]
        intro q
        cases q with
        | inl q => exact n2_n0 (by omega) q
        | inr q => omega), r_73_14 hy, gN_t (by decide), n2_add, gA_n (k_86 hy) (by omega) (by omega), n2_nat (by omega), n2_nat (by omega), h1.1 _ (by omega)]
      refine wp_jn ?_
      refine wp_br (fun w3 => wp_lt ?_) (fun w3 => wp_lt ?_)
      · rw [n2_s]
        refine hk 1 (Or.inl ⟨rfl, fun k hk2 => ?_⟩)
        by_cases ek : k = i
        · rw [ek]; exact w3.symm
        · exact hI k (by omega)
      · rw [n2_s]
        exact hk 0 (Or.inr ⟨rfl, fun z => w3 ((isW_iff.mp z).2.2 i hi).symm⟩)
    · exact wp_brt rfl (wp_gd (by decide) (wp_some (b01_f hI)))
  · intro f q hI
    refine wp_jn ?_
    rcases hI with ⟨rfl, hI⟩ | ⟨rfl, hI⟩
    · refine wp_brf (by decide) ?_
      rw [gd_t ha]
      exact wp_brt (by rw [n2_le (by omega) (by omega)]; exact Nat.le_refl _) (wp_gd (by decide) (wp_some (b01_t (isW_iff.mpr ⟨k1, k2.symm, hI⟩))))
    · exact wp_brt rfl (wp_gd (by decide) (wp_some (b01_f hI)))
theorem fix0 {bot : Int32 → Int32 → Option Int32} {F : (Int32 → Int32 → Option Int32) → Int32 → Int32 → Option Int32} (h : ∀ s v, F s 0 v = some 0) : fixN bot F FUEL 0 0 = some 0 := by
  rw [show FUEL = 99999 + 1 from rfl]
  exact h _ _
theorem is_b {y : Lay} (hy : LY y) {N : Mem} (hb : ¬ N.1 73 22 = 0) {a : Nat} : f_X12_is y 73 a N = some 0 := by
  refine wp_eq ?_
  unfold f_X12_is
  rw [gK_t (k_73 hy)]
  refine wp_jn (wp_jn (wp_brf hb ?_))
  refine wp_of (fix0 (fun s v => ?_)) rfl
  exact (jn_s.trans (bR_t rfl)).trans (gd_t (Or.inl rfl))
theorem isMarked_b {y : Lay} (hy : LY y) {N : Mem} (hb : ¬ N.1 73 22 = 0) {a : Int32} : f_X12_isMarked y 73 a N = some 0 := by
  unfold f_X12_isMarked
  rw [gK_t (k_73 hy), jn_s, jn_s, bR_f hb]
  exact gd_t (Or.inl rfl)
theorem isMarked_m {y : Lay} (hy : LY y) {T : Tx} (hT : TOK T) {N : Mem} {p : Nat} (h : TM T N p) (hb : N.1 73 22 = 0) {c : Nat} (hc : isMk c = true) (hc2 : c < 256) : f_X12_isMarked y 73 (n2 c) N = some (b01 (isS T p c)) := by
  obtain ⟨h1, h2, ⟨h3, h4, -⟩, h5, -⟩ := h
  have h7 := hT.1
  obtain ⟨v, v1, v2, v3, v4, v5, v6⟩ := kMd_n T p
  refine wp_eq ?_
  unfold f_X12_isMarked
  rw [gK_t (k_73 hy), h3, h5, hb, v2]
  refine wp_jn (wp_jn (wp_brt rfl ?_))
  refine wp_br (fun w => ?_) (fun w => wp_gd (by decide) (wp_some (b01_f (fun z => w ((n2_inj (by omega) (by decide)).mpr (v6.mpr ⟨(isS_iff.mp z).1, by rw [(isS_iff.mp z).2]; exact hc⟩))))))
  obtain ⟨k1, k2⟩ := v6.mp ((n2_inj (j := 3) (by omega) (by decide)).mp w)
  have hs := tS_lt (T := T) (p := p) (by rw [k1]; decide)
  have hv := hT.2 _ hs
  rw [r_73_14 hy, gN_t (by decide), gA_n (k_86 hy) (by omega) (by omega), n2_nat (by omega), h1.1 _ hs]
  refine wp_br (fun w3 => wp_gd (by decide) (wp_some (b01_t (isS_iff.mpr ⟨k1, (n2_inj (by omega) (by omega)).mp w3⟩)))) (fun w3 => wp_gd (by decide) (wp_some (b01_f (fun z => w3 (by rw [(isS_iff.mp z).2])))))
theorem wrong_b {y : Lay} (hy : LY y) {N : Mem} (hb : ¬ N.1 73 22 = 0) {a : Int32} : f_X12_wrong y 73 a N = some (0, N) := by
  unfold f_X12_wrong
  rw [gK_t (k_73 hy), bR_f hb]
/-- refused: the class's faults -/
def rfC (M : Mem) (f s : Int32) : Mem := sr M 28 (up (up (M.1 28) 6 f) 7 s)
def rfM (N : Mem) (f s : Int32) : Mem := sr N 73 (up (up (N.1 73) 22 f) 23 s)
theorem refuse_t {y : Lay} (hy : LY y) {M : Mem} (h : M.1 28 6 = 0) {f : Int32} : f_X10_refuse y 28 f M = some (0, rfC M f (M.1 28 3)) := by
  unfold f_X10_refuse
  rw [gK_t (k_28 hy), jn_s, bR_t h, lT_s, lT_s, wI_sr, wI_sr, sr_ap, up_ne (show ¬ 3 = 6 by decide)]
  unfold rfC
  rw [sr_sr]
theorem wrong_m {y : Lay} (hy : LY y) {N : Mem} (h : N.1 73 22 = 0) {f : Int32} : f_X12_wrong y 73 f N = some (0, rfM N f (N.1 73 20)) := by
  unfold f_X12_wrong
  rw [gK_t (k_73 hy), bR_t h, lT_s, lT_s, wI_sr, wI_sr, sr_ap, up_ne (show ¬ 20 = 22 by decide)]
  unfold rfM
  rw [sr_sr]
/-- both have the same fault -/
def FL (M N : Mem) : Prop := ∃ f s, ¬ f = 0 ∧ (M.1 28 6 = f ∧ M.1 28 7 = s) ∧ N.1 73 22 = f ∧ N.1 73 23 = s
theorem FL.bad {M N : Mem} (h : FL M N) : ¬ N.1 73 22 = 0 := by
  obtain ⟨f, s, h1, -, h2, -⟩ := h
  rw [h2]; exact h1
theorem FL.mk {T : Tx} {M N : Mem} {p : Nat} (h : TC T M p) (g : TM T N p) {f : Int32} (hf : ¬ f = 0) : FL (rfC M f (M.1 28 3)) (rfM N f (N.1 73 20)) := by
  obtain ⟨-, -, ⟨h3, -⟩, -⟩ := h
  obtain ⟨-, -, ⟨g3, -⟩, -⟩ := g
  refine ⟨f, n2 (tS T p), hf, ⟨?_, ?_⟩, ?_, ?_⟩
  · unfold rfC; rw [sr_ap, up_ne (by decide), up_eq]
  · unfold rfC; rw [sr_ap, up_eq, h3]
  · unfold rfM; rw [sr_ap, up_ne (by decide), up_eq]
  · unfold rfM; rw [sr_ap, up_eq, g3]
