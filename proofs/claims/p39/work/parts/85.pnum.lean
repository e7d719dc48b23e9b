/-! ===== numbers, the names of values ===== -/
def nmR (T : Tx) (p a b : Nat) : Nat := if tK T p = 2 then (if 4 < tE T p - tS T p ∨ tV T p < a ∨ b < tV T p then 2 else 0) else 1
theorem nmR_le (T : Tx) (p a b : Nat) : nmR T p a b = 0 ∨ nmR T p a b = 1 ∨ nmR T p a b = 2 := by
  unfold nmR
  split
  · split
    · exact Or.inr (Or.inr rfl)
    · exact Or.inl rfl
  · exact Or.inr (Or.inl rfl)
theorem nmR_0 {T : Tx} {p a b : Nat} (h : nmR T p a b = 0) : tK T p = 2 ∧ tE T p - tS T p ≤ 4 ∧ a ≤ tV T p ∧ tV T p ≤ b := by
  unfold nmR at h
  by_cases q : tK T p = 2
  · rw [if_pos q] at h
    by_cases r : 4 < tE T p - tS T p ∨ tV T p < a ∨ b < tV T p
    · rw [if_pos r] at h; exact absurd h (by decide)
    · exact ⟨q, by omega, by omega, by omega⟩
  · rw [if_neg q] at h; exact absurd h (by decide)
theorem tV_lt {T : Tx} (hT : TOK T) {p : Nat} (hp : p ≤ T.2) (k : tK T p = 2) (h4 : tE T p - tS T p ≤ 4) : tV T p < 10000 := by
  obtain ⟨-, s2, -, -⟩ := tS_sp hT hp
  have hs := tS_lt (T := T) (p := p) (by rw [k]; decide)
  have e : tE T p = rn (inT T isDg) (tS T p) := by
    unfold tK at k
    unfold tE
    rw [if_pos hs] at k ⊢
    by_cases q : isLt (T.1 (tS T p)) = true
    · rw [if_pos q] at k; exact absurd k (by decide)
    · rw [if_neg q] at k ⊢
      by_cases q2 : isDg (T.1 (tS T p)) = true
      · rw [if_pos q2]
      · rw [if_neg q2] at k; exact absurd k (by decide)
  obtain ⟨-, -, -, c4⟩ := rn_sp hT.1 (fun _ => inT_no) (q := inT T isDg) s2
  rw [← e] at c4
  have e2 := vl_lt (T := T) (s := tS T p) (tE T p - tS T p) (fun k hk => (inT_iff.mp (c4 (tS T p + k) (by omega) (by omega))).2)
  have e3 : (10 : Nat) ^ (tE T p - tS T p) ≤ 10 ^ 4 := Nat.pow_le_pow_right (by decide) h4
  have e4 : (10 : Nat) ^ 4 = 10000 := by decide
  unfold tV
  omega
theorem rfM_22 {N : Mem} {f : Nat} {s : Int32} (h : f = 1 ∨ f = 2 ∨ f = 3 ∨ f = 4 ∨ f = 5) : ¬ (rfM N (n2 f) s).1 73 22 = 0 := by
  unfold rfM
  rw [sr_ap, up_ne (by decide), up_eq]
  rcases h with rfl | rfl | rfl | rfl | rfl <;> decide
theorem numberNow_m {y : Lay} (hy : LY y) {T : Tx} (hT : TOK T) {N : Mem} {p : Nat} (h : TM T N p) (hb : N.1 73 22 = 0) {a b : Nat} (ha : a ≤ 9999) (hb2 : b ≤ 9999) : f_X12_numberNow y 73 (n2 a) (n2 b) N = some (if nmR T p a b = 0 then (n2 (tV T p), N) else (0, rfM N (n2 (nmR T p a b)) (N.1 73 20))) := by
  obtain ⟨h1, h2, ⟨h3, h4, -⟩, h5, h6⟩ := h
  obtain ⟨v, v1, v2, v3, v4, v5, v6⟩ := kMd_n T p
  obtain ⟨e1, e2⟩ := tE_sp hT h2
  have h7 := hT.1
  have hw : ∀ f : Nat, f = 1 ∨ f = 2 ∨ f = 3 ∨ f = 4 ∨ f = 5 → nmR T p a b = f → wp (c0 (f_X12_wrong y 73 (n2 f) N) fun (r22 : Int32) (M4 : Mem) => br ((M4.1 73 22) = 0) (some (M4.1 73 19, M4)) (some ((0 : Int32), M4))) (fun z => z = (if nmR T p a b = 0 then (n2 (tV T p), N) else (0, rfM N (n2 (nmR T p a b)) (n2 (tS T p))))) := by
    intro f hf e
    rw [wrong_m hy hb, c0_s, bR_f (rfM_22 hf)]
    refine wp_some ?_
    rw [if_neg (by omega), e, h3]
  rw [h3]
  refine wp_eq ?_
  unfold f_X12_numberNow
  rw [gK_t (k_73 hy)]
  refine wp_brt hb (wp_jn ?_)
  rw [h5, v2]
  refine wp_br (fun w => ?_) (fun w => ?_)
  · have k2 := v5.mp ((n2_inj (j := 2) (by omega) (by decide)).mp w)
    refine wp_jn ?_
    rw [h4, h3, show n2 (tE T p) - n2 (tS T p) = n2 (tE T p - tS T p) from n2_sub e1]
    refine wp_br (fun w2 => ?_) (fun w2 => ?_)
    · rw [show (4 : Int32) = n2 4 from rfl, n2_lt (by decide) (by omega)] at w2
      exact hw 2 (by omega) (by unfold nmR; rw [if_pos k2, if_pos (Or.inl w2)])
    · rw [show (4 : Int32) = n2 4 from rfl, n2_lt (by decide) (by omega)] at w2
      have hv := tV_lt hT h2 k2 (by omega)
      rw [h6 k2 (by omega)]
      refine wp_br (fun w3 => ?_) (fun w3 => ?_)
      · rw [n2_lt (by omega) (by omega)] at w3
        exact hw 2 (by omega) (by unfold nmR; rw [if_pos k2, if_pos (Or.inr (Or.inl w3))])
      · rw [n2_lt (by omega) (by omega)] at w3
        refine wp_br (fun w4 => ?_) (fun w4 => ?_)
        · rw [n2_le (by omega) (by omega)] at w4
          refine wp_jn (wp_brt hb (wp_some ?_))
          rw [if_pos (by unfold nmR; rw [if_pos k2, if_neg (by omega)]), h6 k2 (by omega)]
        · rw [n2_le (by omega) (by omega)] at w4
          exact hw 2 (by omega) (by unfold nmR; rw [if_pos k2, if_pos (Or.inr (Or.inr (by omega)))])
  · exact hw 1 (by omega) (by unfold nmR; rw [if_neg (fun z => w ((n2_inj (j := 2) (by omega) (by decide)).mpr (v5.mpr z)))])
theorem TM.at {T : Tx} {N : Mem} {p : Nat} (h : TM T N p) : N.1 73 16 = n2 (tE T p) := h.2.2.1.2.2
theorem TC.at {T : Tx} {M : Mem} {p : Nat} (h : TC T M p) : M.1 28 4 = n2 (tE T p) := h.2.2.1.2
theorem adv_c {y : Lay} (hy : LY y) {T : Tx} (hT : TOK T) {M : Mem} {p : Nat} (h : TC T M p) : wp (f_X10_advance y 28 M) (fun o => TC T o.2 (tE T p) ∧ G28 M o.2) := advance_c hy hT h.1 (tE_sp hT h.2.1).2 h.at
theorem stp_m {y : Lay} (hy : LY y) {T : Tx} (hT : TOK T) {N : Mem} {p : Nat} (h : TM T N p) : wp (f_X12_stepOn y 73 N) (fun o => TM T o.2 (tE T p) ∧ G73 N o.2) := stepOn_m hy hT h.1 (tE_sp hT h.2.1).2 h.at
theorem readNumber_m {y : Lay} (hy : LY y) {T : Tx} (hT : TOK T) {N : Mem} {p : Nat} (h : TM T N p) (hb : N.1 73 22 = 0) {a b : Nat} (ha : a ≤ 9999) (hb2 : b ≤ 9999) (hn : nmR T p a b = 0) : wp (f_X12_readNumber y 73 (n2 a) (n2 b) N) (fun o => o.1 = n2 (tV T p) ∧ TM T o.2 (tE T p) ∧ G73 N o.2) := by
  unfold f_X12_readNumber
  rw [gK_t (k_73 hy), numberNow_m hy hT h hb ha hb2, if_pos hn, c0_s]
  refine wp_jn (wp_brt hb ?_)
  exact wp_c0 _ (stp_m hy hT h) (fun r M q => wp_some ⟨rfl, q.1, q.2⟩)
theorem readNumber_w {y : Lay} (hy : LY y) {T : Tx} (hT : TOK T) {N : Mem} {p : Nat} (h : TM T N p) (hb : N.1 73 22 = 0) {a b : Nat} (ha : a ≤ 9999) (hb2 : b ≤ 9999) (hn : ¬ nmR T p a b = 0) : f_X12_readNumber y 73 (n2 a) (n2 b) N = some (0, rfM N (n2 (nmR T p a b)) (N.1 73 20)) := by
  unfold f_X12_readNumber
  rw [gK_t (k_73 hy), numberNow_m hy hT h hb ha hb2, if_neg hn, c0_s, jn_s, bR_f (rfM_22 (by have := nmR_le T p a b; omega))]
theorem numberNow_b {y : Lay} (hy : LY y) {N : Mem} (hb : ¬ N.1 73 22 = 0) {a b : Int32} : f_X12_numberNow y 73 a b N = some (0, N) := by
  unfold f_X12_numberNow
  rw [gK_t (k_73 hy), bR_f hb]
theorem readNumber_b {y : Lay} (hy : LY y) {N : Mem} (hb : ¬ N.1 73 22 = 0) {a b : Int32} : f_X12_readNumber y 73 a b N = some (0, N) := by
  unfold f_X12_readNumber
  rw [gK_t (k_73 hy), numberNow_b hy hb, c0_s, jn_s, bR_f hb]
theorem lay_b {y : Lay} (hy : LY y) {N : Mem} (hb : ¬ N.1 73 22 = 0) {a : Int32} : f_X12_lay y 73 a N = some (0, N) := by
  unfold f_X12_lay
  rw [gK_t (k_73 hy), bR_f hb]
theorem mark_b {y : Lay} (hy : LY y) {N : Mem} (hb : ¬ N.1 73 22 = 0) {a : Int32} : f_X12_mark y 73 a N = some (0, N) := by
  unfold f_X12_mark
  rw [gK_t (k_73 hy)]
  exact wp_eq (wp_jn (wp_brf hb (wp_jn (wp_brf hb (wp_some rfl)))))
theorem isTooLong_c {y : Lay} (hy : LY y) {T : Tx} (hT : TOK T) {M : Mem} {p : Nat} (h : TC T M p) (k : tK T p = 2) : f_X10_isTooLong y 28 M = some (b01 (decide (4 < tE T p - tS T p))) := by
  obtain ⟨h1, h2, ⟨h3, h4⟩, h5, -⟩ := h
  obtain ⟨e1, e2⟩ := tE_sp hT h2
  have h7 := hT.1
  refine wp_eq ?_
  unfold f_X10_isTooLong
  rw [gK_t (k_28 hy), h5, h4, h3, show n2 (tE T p) - n2 (tS T p) = n2 (tE T p - tS T p) from n2_sub e1]
  refine wp_jn (wp_jn (wp_brt ((kCl_k hT h2).2.2.mpr k) ?_))
  refine wp_br (fun w => wp_gd (by decide) (wp_some (b01_f ?_))) (fun w => wp_gd (by decide) (wp_some (b01_t ?_)))
  · rw [show (4 : Int32) = n2 4 from rfl, n2_le (by omega) (by decide)] at w
    rw [decide_eq_true_eq]; omega
  · rw [show (4 : Int32) = n2 4 from rfl, n2_le (by omega) (by decide)] at w
    rw [decide_eq_true_eq]; omega
theorem refuseNumber_c {y : Lay} (hy : LY y) {M : Mem} (h : M.1 28 6 = 0) {f : Int32} : f_X2_refuseNumber y 12 f M = some (-1, rfC M f (M.1 28 3)) := by
  unfold f_X2_refuseNumber
  rw [gK_t (k_12 hy), r_12_0 hy, gN_t (by decide), gK_t (k_28 hy), refuse_t hy h, c0_s]
theorem readNumber_c {y : Lay} (hy : LY y) {T : Tx} (hT : TOK T) {M : Mem} {p : Nat} (h : TC T M p) (hb : M.1 28 6 = 0) {a b : Nat} (ha : a ≤ 9999) (hb2 : b ≤ 9999) : wp (f_X2_readNumber y 12 (n2 a) (n2 b) M) (fun o => if nmR T p a b = 0 then o.1 = n2 (tV T p) ∧ TC T o.2 (tE T p) ∧ G28 M o.2 else o = (-1, rfC M (n2 (nmR T p a b)) (M.1 28 3))) := by
  have h' := h
  obtain ⟨h1, h2, ⟨h3, h4⟩, h5, h6⟩ := h
  obtain ⟨e1, e2⟩ := tE_sp hT h2
  have h7 := hT.1
  have hw : ∀ f : Nat, f = 1 ∨ f = 2 → nmR T p a b = f → wp (c0 (f_X2_refuseNumber y 12 (n2 f) M) fun (r9 : Int32) (M10 : Mem) => some (r9, M10)) (fun o => if nmR T p a b = 0 then o.1 = n2 (tV T p) ∧ TC T o.2 (tE T p) ∧ G28 M o.2 else o = (-1, rfC M (n2 (nmR T p a b)) (M.1 28 3))) := by
    intro f hf e
    rw [refuseNumber_c hy hb, c0_s]
    refine wp_some ?_
    rw [if_neg (by omega), e]
  unfold f_X2_readNumber
  rw [gK_t (k_12 hy), r_12_0 hy, gN_t (by decide), gK_t (k_28 hy), h5]
  refine wp_br (fun w => ?_) (fun w => ?_)
  · have k2 := (kCl_k hT h2).2.2.mp w
    refine wp_lt ?_
    rw [isTooLong_c hy hT h' k2, cp_s]
    refine wp_jn ?_
    refine wp_br (fun w2 => ?_) (fun w2 => ?_)
    · rw [b01_0, decide_eq_true_eq] at w2
      have hv := tV_lt hT h2 k2 (by omega)
      rw [h6 k2 (by omega)]
      refine wp_br (fun w3 => ?_) (fun w3 => ?_)
      · rw [n2_lt (by omega) (by omega)] at w3
        exact hw 2 (by omega) (by unfold nmR; rw [if_pos k2, if_pos (Or.inr (Or.inl w3))])
      · rw [n2_lt (by omega) (by omega)] at w3
        refine wp_br (fun w4 => ?_) (fun w4 => ?_)
        · rw [n2_le (by omega) (by omega)] at w4
          refine wp_c0 _ (adv_c hy hT h') (fun r M' q => wp_some ?_)
          rw [if_pos (by unfold nmR; rw [if_pos k2, if_neg (by omega)])]
          exact ⟨rfl, q.1, q.2⟩
        · rw [n2_le (by omega) (by omega)] at w4
          exact hw 2 (by omega) (by unfold nmR; rw [if_pos k2, if_pos (Or.inr (Or.inr (by omega)))])
    · rw [b01_0, decide_eq_true_eq] at w2
      exact hw 2 (by omega) (by unfold nmR; rw [if_pos k2, if_pos (Or.inl (by omega))])
  · exact hw 1 (by omega) (by unfold nmR; rw [if_neg (fun z => w ((kCl_k hT h2).2.2.mpr z))])
/-! the names of values -/
def wV (T : Tx) (p : Nat) (e : Bool) : Option Nat := if isW T p (strB 10) = true then some 0 else if isW T p (strB 11) = true then some 1 else if isW T p (strB 12) = true then some 2 else if isW T p (strB 13) = true then some 3 else if e = true ∧ isW T p (strB 14) = true then some 4 else if e = true ∧ isW T p (strB 15) = true then some 5 else none
theorem wV_lt {T : Tx} {p : Nat} {e : Bool} {v : Nat} (h : wV T p e = some v) : v < mm e := by
  unfold wV at h
  by_cases q0 : isW T p (strB 10) = true
  · rw [if_pos q0] at h; cases h; cases e <;> decide
  rw [if_neg q0] at h
  by_cases q1 : isW T p (strB 11) = true
  · rw [if_pos q1] at h; cases h; cases e <;> decide
  rw [if_neg q1] at h
  by_cases q2 : isW T p (strB 12) = true
  · rw [if_pos q2] at h; cases h; cases e <;> decide
  rw [if_neg q2] at h
  by_cases q3 : isW T p (strB 13) = true
  · rw [if_pos q3] at h; cases h; cases e <;> decide
  rw [if_neg q3] at h
  by_cases q4 : e = true ∧ isW T p (strB 14) = true
  · rw [if_pos q4] at h; cases h; rw [q4.1]; decide
  rw [if_neg q4] at h
  by_cases q5 : e = true ∧ isW T p (strB 15) = true
  · rw [if_pos q5] at h; cases h; rw [q5.1]; decide
  rw [if_neg q5] at h
  cases h
theorem valueHere_c {y : Lay} (hy : LY y) {T : Tx} (hT : TOK T) {M : Mem} {p : Nat} (h : TC T M p) {e : Bool} (he : M.1 29 2 = de e) : f_X6_valueHere y 29 M = some (enc (wV T p e)) := by
  have w0 : f_X10_isWord y 28 1010 M = some (b01 (isW T p (strB 10))) := isWord_c hy hT h (a := 1010) (by decide)
  have w1 : f_X10_isWord y 28 1011 M = some (b01 (isW T p (strB 11))) := isWord_c hy hT h (a := 1011) (by decide)
  have w2 : f_X10_isWord y 28 1012 M = some (b01 (isW T p (strB 12))) := isWord_c hy hT h (a := 1012) (by decide)
  have w3 : f_X10_isWord y 28 1013 M = some (b01 (isW T p (strB 13))) := isWord_c hy hT h (a := 1013) (by decide)
  have w4 : f_X10_isWord y 28 1014 M = some (b01 (isW T p (strB 14))) := isWord_c hy hT h (a := 1014) (by decide)
  have w5 : f_X10_isWord y 28 1015 M = some (b01 (isW T p (strB 15))) := isWord_c hy hT h (a := 1015) (by decide)
  refine wp_eq ?_
  unfold f_X6_valueHere wV
  rw [gK_t (k_29 hy), r_29_0 hy, gN_t (by decide), gK_t (k_28 hy), w0, cp_s]
  by_cases q0 : isW T p (strB 10) = true
  · rw [if_pos q0, bR_f (by rw [b01_0]; exact fun z => z q0)]; exact wp_some rfl
  rw [if_neg q0, bR_t (by rw [b01_0]; exact q0), w1, cp_s]
  by_cases q1 : isW T p (strB 11) = true
  · rw [if_pos q1, bR_f (by rw [b01_0]; exact fun z => z q1)]; exact wp_some rfl
  rw [if_neg q1, bR_t (by rw [b01_0]; exact q1), w2, cp_s]
  by_cases q2 : isW T p (strB 12) = true
  · rw [if_pos q2, bR_f (by rw [b01_0]; exact fun z => z q2)]; exact wp_some rfl
  rw [if_neg q2, bR_t (by rw [b01_0]; exact q2), w3, cp_s]
  by_cases q3 : isW T p (strB 13) = true
  · rw [if_pos q3, bR_f (by rw [b01_0]; exact fun z => z q3)]; exact wp_some rfl
  rw [if_neg q3, bR_t (by rw [b01_0]; exact q3)]
  refine wp_jn (wp_jn ?_)
  rw [he]
  cases e with
  | false =>
    refine wp_brt rfl (wp_jn (wp_brt rfl (wp_some ?_)))
    rw [if_neg (fun z => absurd z.1 (by decide)), if_neg (fun z => absurd z.1 (by decide))]; rfl
  | true =>
    refine wp_brf (by decide) ?_
    rw [w4, cp_s]
    by_cases q4 : isW T p (strB 14) = true
    · rw [if_pos ⟨rfl, q4⟩, bR_f (by rw [b01_0]; exact fun z => z q4)]; exact wp_some rfl
    rw [if_neg (fun z => q4 z.2), bR_t (by rw [b01_0]; exact q4)]
    refine wp_jn (wp_brf (by decide) ?_)
    rw [w5, cp_s]
    by_cases q5 : isW T p (strB 15) = true
    · rw [if_pos ⟨rfl, q5⟩, bR_f (by rw [b01_0]; exact fun z => z q5)]; exact wp_some rfl
    rw [if_neg (fun z => q5 z.2), bR_t (by rw [b01_0]; exact q5)]
    exact wp_some rfl
theorem k_tb {y : Lay} (hy : LY y) (e : Bool) : kd y (tb e) = (4, mm e) := by cases e; exact k_76 hy; exact k_75 hy
theorem r_tb {y : Lay} (hy : LY y) (e : Bool) {k : Nat} (h : k < mm e) : y.2.1 (tb e) k = 1021 + k := by
  cases e with
  | true =>
    have h : k < 6 := h
    match k, h with
    | 0, _ => exact r_75_0 hy
    | 1, _ => exact r_75_1 hy
    | 2, _ => exact r_75_2 hy
    | 3, _ => exact r_75_3 hy
    | 4, _ => exact r_75_4 hy
    | 5, _ => exact r_75_5 hy
  | false =>
    have h : k < 4 := h
    match k, h with
    | 0, _ => exact r_76_0 hy
    | 1, _ => exact r_76_1 hy
    | 2, _ => exact r_76_2 hy
    | 3, _ => exact r_76_3 hy
theorem strB_21 : ∀ k : Fin 6, strB (21 + k.val) = strB (10 + k.val) := by decide +kernel
theorem wV_at {T : Tx} {p : Nat} {e : Bool} {v : Nat} (hv : v < mm e) (h1 : ∀ k, k < v → ¬ isW T p (strB (10 + k)) = true) (h2 : isW T p (strB (10 + v)) = true) : wV T p e = some v := by
  have h6 : v < 6 := by cases e; exact Nat.lt_trans hv (by decide); exact hv
  unfold wV
  match v, h6 with
  | 0, _ => rw [if_pos h2]
  | 1, _ => rw [if_neg (h1 0 (by decide)), if_pos h2]
  | 2, _ => rw [if_neg (h1 0 (by decide)), if_neg (h1 1 (by decide)), if_pos h2]
  | 3, _ => rw [if_neg (h1 0 (by decide)), if_neg (h1 1 (by decide)), if_neg (h1 2 (by decide)), if_pos h2]
  | 4, _ =>
    cases e with
    | false => exact absurd hv (by decide)
    | true => rw [if_neg (h1 0 (by decide)), if_neg (h1 1 (by decide)), if_neg (h1 2 (by decide)), if_neg (h1 3 (by decide)), if_pos ⟨rfl, h2⟩]
  | 5, _ =>
    cases e with
    | false => exact absurd hv (by decide)
    | true => rw [if_neg (h1 0 (by decide)), if_neg (h1 1 (by decide)), if_neg (h1 2 (by decide)), if_neg (h1 3 (by decide)), if_neg (fun z => h1 4 (by decide) z.2), if_pos ⟨rfl, h2⟩]
theorem wV_no {T : Tx} {p : Nat} {e : Bool} (h1 : ∀ k, k < mm e → ¬ isW T p (strB (10 + k)) = true) : wV T p e = none := by
  unfold wV
  cases e with
  | false => rw [if_neg (h1 0 (by decide)), if_neg (h1 1 (by decide)), if_neg (h1 2 (by decide)), if_neg (h1 3 (by decide)), if_neg (fun z => absurd z.1 (by decide)), if_neg (fun z => absurd z.1 (by decide))]
  | true => rw [if_neg (h1 0 (by decide)), if_neg (h1 1 (by decide)), if_neg (h1 2 (by decide)), if_neg (h1 3 (by decide)), if_neg (fun z => h1 4 (by decide) z.2), if_neg (fun z => h1 5 (by decide) z.2)]
theorem which_m {y : Lay} (hy : LY y) {T : Tx} (hT : TOK T) {N : Mem} {p : Nat} (h : TM T N p) (hb : N.1 73 22 = 0) (e : Bool) : f_X12_which y 73 (tb e) N = some (enc (wV T p e)) := by
  have h6 : mm e ≤ 6 := by cases e <;> decide
  have hF : FUEL = 100000 := rfl
  refine wp_eq ?_
  unfold f_X12_which
  refine wp_for0 (mm e) (fun n => ∀ k, k < n → ¬ isW T p (strB (10 + k)) = true) (by omega) rfl (Nat.zero_le _) (fun i hi => absurd hi (Nat.not_lt_zero i)) ?_ ?_
  · intro f i hi hI hk
    rw [gT_t (by rw [k_tb hy]), k_tb hy]
    refine wp_brf (by show ¬ n2 (mm e) ≤ n2 i; rw [n2_le (by omega) (by omega)]; omega) ?_
    rw [gA_n (k_tb hy e) hi (by omega), n2_nat (by omega), r_tb hy e hi, gN_t (by omega), gK_t (k_73 hy), is_m hy hT h hb (by omega), cp_s, show 1021 + i - 1000 = 21 + i by omega, strB_21 ⟨i, by omega⟩]
    refine wp_br (fun w => wp_lt ?_) (fun w => wp_some ?_)
    · rw [b01_0] at w
      rw [n2_s]
      refine hk (fun k hk2 => ?_)
      by_cases ek : k = i
      · rw [ek]; exact w
      · exact hI k (by omega)
    · rw [b01_0] at w
      rw [wV_at hi hI (Decidable.not_not.mp w)]
      rfl
  · intro f hI
    rw [gT_t (by rw [k_tb hy]), k_tb hy]
    refine wp_brt (by show n2 (mm e) ≤ n2 (mm e); rw [n2_le (by omega) (by omega)]; exact Nat.le_refl _) (wp_some ?_)
    rw [wV_no hI]
    rfl
