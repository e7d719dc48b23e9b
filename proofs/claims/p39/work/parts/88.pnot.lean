/-! ===== expressions: tests, not ===== -/
theorem c0_c0 {β : Type} {A : Option (Int32 × Mem)} {k : Int32 → Mem → Option (Int32 × Mem)} {l : Int32 → Mem → Option β} : c0 (c0 A k) l = c0 A (fun r M => c0 (k r M) l) := by cases A <;> rfl
section JCC
variable {α β : Type} {Q : α → β → Prop} {Z : Option β} {l : Int32 → Mem → Option α}
theorem J_lcc {A : Option (Int32 × Mem)} {k : Int32 → Mem → Option (Int32 × Mem)} (h : J (c0 A (fun r M => c0 (k r M) l)) Z Q) : J (c0 (c0 A k) l) Z Q := by rw [c0_c0]; exact h
theorem J_lcj {κ : Type} {K : κ} {b : κ → Option (Int32 × Mem)} (h : J (c0 (b K) l) Z Q) : J (c0 (jn K b) l) Z Q := h
theorem J_lct {P : Prop} [Decidable P] {a b : Option (Int32 × Mem)} (h : P) (g : J (c0 a l) Z Q) : J (c0 (br P a b) l) Z Q := by rw [bR_t h]; exact g
theorem J_lcf {P : Prop} [Decidable P] {a b : Option (Int32 × Mem)} (h : ¬ P) (g : J (c0 b l) Z Q) : J (c0 (br P a b) l) Z Q := by rw [bR_f h]; exact g
theorem J_lcs {r : Int32} {M : Mem} (h : J (l r M) Z Q) : J (c0 (some (r, M)) l) Z Q := h
theorem J_lcN {r : Nat} {a : Option (Int32 × Mem)} (h : ¬ r = 0) (g : J (c0 a l) Z Q) : J (c0 (gN r a) l) Z Q := by rw [gN_t h]; exact g
theorem J_lcK {y : Lay} {r : Nat} {c : Nat × Nat} {a : Option (Int32 × Mem)} (h : kd y r = c) (g : J (c0 a l) Z Q) : J (c0 (gK y r c a) l) Z Q := by rw [gK_t h]; exact g
theorem J_lN {r : Nat} {a : Option α} (h : ¬ r = 0) (g : J a Z Q) : J (gN r a) Z Q := by rw [gN_t h]; exact g
theorem J_lK {y : Lay} {r : Nat} {c : Nat × Nat} {a : Option α} (h : kd y r = c) (g : J a Z Q) : J (gK y r c a) Z Q := by rw [gK_t h]; exact g
end JCC
theorem readProduct_b {y : Lay} (hy : LY y) {RM : Lay → Nat → Int32 → Mem → Option (Int32 × Mem)} : EBad y (f_X12_readProduct RM) := by
  intro a N hb
  unfold f_X12_readProduct
  rw [gK_t (k_73 hy), readPart_b hy _ _ hb, c0_s, fxF, isMarked_b hy hb, cp_s, jn_s, bR_t rfl, isMarked_b hy hb, cp_s, bR_t rfl]
theorem readSum_b {y : Lay} (hy : LY y) {RM : Lay → Nat → Int32 → Mem → Option (Int32 × Mem)} : EBad y (f_X12_readSum RM) := by
  intro a N hb
  unfold f_X12_readSum
  rw [gK_t (k_73 hy), readProduct_b hy _ _ hb, c0_s, fxF, isMarked_b hy hb, cp_s, jn_s, bR_t rfl, isMarked_b hy hb, cp_s, bR_t rfl]
/-- a test, with what follows on either side -/
theorem test_J {y : Lay} (hy : LY y) {T : Tx} (hT : TOK T) {e : Bool} {M0 N0 : Mem} {w D : Nat} (hD : D < 37) {RC RM : Lay → Nat → Int32 → Mem → Option (Int32 × Mem)} (HS : EX y e T M0 N0 w (D + 1) (fun _ => True) (f_X6_readSum RC) (f_X12_readSum RM)) {Q : Int32 × Mem → Int32 × Mem → Prop} {p L d : Nat} {C : Row} {M N : Mem} (hW : WFP (mm e) C L d) (hd : d ≤ D) (hL : L ≤ p) (hM : EC e T M0 p L C M) (hN : EM e T N0 p L C N) (l : Int32 → Mem → Option (Int32 × Mem)) (z : Mem → Option (Int32 × Mem)) (hg : ∀ p' L' C' M' N', p < p' → p' ≤ T.2 → L' + p ≤ p' + L → WFP (mm e) C' L' (d + 1) → EC e T M0 p' L' C' M' → EM e T N0 p' L' C' N' → J (l 1 M') (z N') Q) (hb : ∀ M' N', EF e M0 N0 M' N' → J (l 0 M') (z N') Q) : J (c0 (f_X6_readTest RC y 29 (n2 w) M) l) (c0 (f_X12_readSum RM y 73 (n2 w) N) fun (r9 : Int32) (M10 : Mem) => cp (f_X12_isMarked y 73 (60 : Int32) M10) fun (r11 : Int32) => jn z fun j13 => jn (fun (_u : Unit) => cp (f_X12_isMarked y 73 (60 : Int32) M10) fun (r24 : Int32) => jn (fun (v25 : Int32) => c0 (f_X12_stepOn y 73 M10) fun (r27 : Int32) (M28 : Mem) => c0 (f_X12_readSum RM y 73 (n2 w) M28) fun (r29 : Int32) (M30 : Mem) => c0 (f_X12_lay y 73 v25 M30) fun (r31 : Int32) (M32 : Mem) => j13 M32) fun j26 => br (r24 = 0) (j26 ((-25) : Int32)) (j26 ((-24) : Int32))) fun j23 => br (r11 = 0) (cp (f_X12_isMarked y 73 (61 : Int32) M10) fun (r37 : Int32) => br (r37 = 0) (j13 M10) (j23 ())) (j23 ())) Q := by
  have h7 := hT.1
  unfold f_X6_readTest
  rw [gK_t (k_29 hy), r_29_0 hy]
  refine J_lcc ?_
  refine J_cc (HS p L C d M N trivial hW (by omega) hL hM hN) (fun r M1 s N1 q => ?_)
  rcases q with ⟨q3, p1, L1, C1, ⟨q4, q4'⟩, q5, q6, m1, n1⟩ | ⟨q3, q4⟩
  · have q3 : r = 1 := q3
    rw [q3]
    have tc := m1.1
    have tm := n1.1
    have kk := tc.2.2.2.1
    refine J_lcf (by decide) (J_lcN (by decide) (J_lcK (k_28 hy) ?_))
    rw [kk]
    refine J_rp (isMarked_m hy hT tm n1.2.1 (c := 60) (by decide) (by decide)) (J_rj (J_rj ?_))
    refine J_lcj ?_
    have op : ∀ cc : Int32, isB cc = true → ¬ cc = -13 → tK T p1 = 3 → J (c0 (c0 (f_X10_advance y 28 M1) fun (r11 : Int32) (M12 : Mem) => c0 (f_X6_readSum RC y 29 (n2 w) M12) fun (r13 : Int32) (M14 : Mem) => br (r13 = 0) (some ((0 : Int32), M14)) (gN (M14.2.2 29 1) (gK y (M14.2.2 29 1) (0, 5) (c0 (f_X5_put y (M14.2.2 29 1) cc M14) fun (r19 : Int32) (M20 : Mem) => some ((1 : Int32), M20))))) l) (c0 (f_X12_stepOn y 73 N1) fun (r27 : Int32) (M28 : Mem) => c0 (f_X12_readSum RM y 73 (n2 w) M28) fun (r29 : Int32) (M30 : Mem) => c0 (f_X12_lay y 73 (mc cc) M30) fun (r31 : Int32) (M32 : Mem) => z M32) Q := by
      intro cc hc1 hc2 k3
      have hlt := tE_gt hT tc.2.1 (by rw [k3]; decide)
      have htE := (tE_sp hT tc.2.1).2
      refine J_lcc (J_lc (m1.adv hy hT) (fun r2 M2 m2 => J_rc (n1.stp hy hT) (fun s2 N2 n2' => J_lcc ?_)))
      refine J_cc (HS (tE T p1) L1 C1 (d + 1) M2 N2 trivial q6 (by omega) (by omega) m2 n2') (fun r3 M3 s3 N3 q2 => ?_)
      rcases q2 with ⟨u3, p', L', C', ⟨u4, u4'⟩, u5, u6, m3, n3⟩ | ⟨u3, u4⟩
      · have u3 : r3 = 1 := u3
        rw [u3]
        refine J_lcf (by decide) ?_
        rw [m3.ref]
        refine J_lcN (ro_n0 e) (J_lcK (k_ro hy e) (J_lcc ?_))
        refine J_lc (put_c hy m3 (by omega) cc) (fun r4 M4 m4 => J_rc (lay_m hy n3 (by omega) cc) (fun s4 N4 n4 => J_lcs ?_))
        exact hg p' (L' + 1) (up C' L' cc) M4 N4 (by omega) u4' (by omega) (u6.bin (by omega) hc1 hc2) m4 n4
      · have u3 : r3 = 0 := u3
        rw [u3]
        exact J_lct rfl (J_lcs (J_rq (lay_b hy u4.1.bad) (hb M3 N3 u4)))
    by_cases qa : isS T p1 60 = true
    · refine J_lct ((kCl_c hT tc.2.1 (c := 60) (by decide)).mpr qa) (J_rf (by rw [b01_0]; exact fun z => z qa) ?_)
      refine J_lcj (J_lct ((kCl_c hT tc.2.1 (c := 60) (by decide)).mpr qa) ?_)
      refine J_rp (isMarked_m hy hT tm n1.2.1 (c := 60) (by decide) (by decide)) (J_rj (J_rf (by rw [b01_0]; exact fun z => z qa) ?_))
      exact op (-14) (by decide) (by decide) (isS_iff.mp qa).1
    · refine J_lcf (fun z => qa ((kCl_c hT tc.2.1 (c := 60) (by decide)).mp z)) (J_rt (by rw [b01_0]; exact qa) ?_)
      refine J_rp (isMarked_m hy hT tm n1.2.1 (c := 61) (by decide) (by decide)) ?_
      by_cases qb : isS T p1 61 = true
      · refine J_lct ((kCl_c hT tc.2.1 (c := 61) (by decide)).mpr qb) (J_rf (by rw [b01_0]; exact fun z => z qb) ?_)
        refine J_lcj (J_lcf (fun z => qa ((kCl_c hT tc.2.1 (c := 60) (by decide)).mp z)) ?_)
        refine J_rp (isMarked_m hy hT tm n1.2.1 (c := 60) (by decide) (by decide)) (J_rj (J_rt (by rw [b01_0]; exact qa) ?_))
        exact op (-15) (by decide) (by decide) (isS_iff.mp qb).1
      · refine J_lcf (fun z => qb ((kCl_c hT tc.2.1 (c := 61) (by decide)).mp z)) (J_rt (by rw [b01_0]; exact qb) (J_lcs ?_))
        exact hg p1 L1 C1 M1 N1 q4 q4' q5 q6 m1 n1
  · have q3 : r = 0 := q3
    rw [q3]
    refine J_lct rfl (J_lcs ?_)
    refine J_rp (isMarked_b hy q4.1.bad) (J_rj (J_rj (J_rt rfl (J_rp (isMarked_b hy q4.1.bad) (J_rt rfl ?_)))))
    exact hb M1 N1 q4
