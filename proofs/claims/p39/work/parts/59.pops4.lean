/-! ===== calls: image, restore, feed, count, girl ===== -/
theorem va_00 {f g : Row} {n k : Nat} (h : k < n) : va_cpy f g 0 0 n k = f k := by
  rw [va_in (Nat.zero_le k) (by omega)]
  congr 1
  omega
theorem CMM.pk {M : Mem} {mm s b sp sk a r sc sd sb st : Nat} {m : Mm} (h : CMM M mm s b sp sk a r sc sd sb st m) {N : Mem} {mm' s' b' sp' sk' a' r' sc' sd' sb' st' : Nat} (hv : skV N s' b' sp' sk' = skV M s b sp sk) (ha : N.1 a' 1 = M.1 a 1) (hr : ∀ k, k < 1640 → N.1 r' k = M.1 r k) (hm : N.1 mm' 6 = M.1 mm 6) (hsc : ∀ k, k < 8 → N.1 sc' k = M.1 sc k) (hsd : ∀ k, k < 8 → N.1 sd' k = M.1 sd k) (hsb : ∀ k, k < 8 → N.1 sb' k = M.1 sb k) (hst : ∀ k, k < 3 → N.1 st' k = M.1 st k) (h40 : m.2.1.1 ≤ 40) (h8 : m.2.2.1.1 ≤ 8) : CMM N mm' s' b' sp' sk' a' r' sc' sd' sb' st' m := by
  obtain ⟨b1, b2, b3, b4⟩ := h
  refine ⟨by rw [hv]; exact b1, ⟨by rw [ha]; exact b2.1, fun j hj => ?_⟩, ⟨by rw [hm]; exact b3.1, fun k hk => ?_⟩, fun k hk => ?_⟩
  · exact (b2.2 j hj).frame (fun k hk => hr _ (by omega))
  · rw [hsc k (by omega), hsd k (by omega), hsb k (by omega)]
    exact b3.2 k hk
  · rw [hst k hk]; exact b4 k hk
theorem memCopy_44 {y : Lay} (hy : LY y) {M : Mem} {m : Mm} (h : CMM M 30 37 38 41 42 31 32 33 34 35 36 m) (z : ZR M 52 55 56) (z' : ZR M 38 41 42) (h40 : m.2.1.1 ≤ 40) (h8 : m.2.2.1.1 ≤ 8) : wp (f_X4_copyFrom y 44 30 M) (fun o => o.1 = 0 ∧ Eqx [44, 51, 52, 55, 56, 45, 46, 47, 48, 49, 50] M o.2 ∧ CMM o.2 44 51 52 55 56 45 46 47 48 49 50 m ∧ skV o.2 51 52 55 56 = skV M 37 38 41 42) := by
  unfold f_X4_copyFrom f_X0_copyFrom
  simp only [lT_s, jn_s, c0_s, cp_s, cx_s, cx_t, gK_t (k_44 hy), gN_t (r := 44) (by decide), r_44_0 hy, r_44_1 hy, r_44_2 hy, r_44_3 hy, r_44_4 hy, r_44_5 hy, gK_t (k_30 hy), gN_t (r := 30) (by decide), r_30_0 hy, r_30_1 hy, r_30_2 hy, r_30_3 hy, r_30_4 hy, r_30_5 hy, gK_t (k_51 hy), gN_t (r := 51) (by decide), r_51_0 hy, r_51_1 hy, r_51_2 hy, r_51_3 hy, r_51_4 hy, r_51_5 hy, r_51_6 hy, gK_t (k_45 hy), gN_t (r := 45) (by decide), r_45_0 hy, gK_t (k_31 hy), gN_t (r := 31) (by decide), r_31_0 hy, gN_t (r := 46) (by decide), gN_t (r := 32) (by decide), gN_t (r := 47) (by decide), gN_t (r := 33) (by decide), gN_t (r := 48) (by decide), gN_t (r := 34) (by decide), gN_t (r := 49) (by decide), gN_t (r := 35) (by decide), gN_t (r := 50) (by decide), gN_t (r := 36) (by decide)]
  refine wp_c0 _ (copyFrom_51_37 hy z z') (fun r M1 q => ?_)
  obtain ⟨-, e2, e3, -⟩ := q
  dsimp only at e2 e3
  rw [gC_t (k_32 hy) (k_46 hy) (by decide), c0_s, gC_t (k_33 hy) (k_47 hy) (by decide), gC_t (k_34 hy) (k_48 hy) (by decide), gC_t (k_35 hy) (k_49 hy) (by decide), gC_t (k_36 hy) (k_50 hy) (by decide)]
  simp only [c0_s, cpI_sr, wI_sr, sr_1, Nat.reduceEqDiff, if_false, if_true, ↓reduceIte]
  have f : ∀ p, p ∉ [51, 52, 55, 56] → M1.1 p = M.1 p := e2.2
  rw [f 32 (by decide), f 31 (by decide), f 33 (by decide), f 34 (by decide), f 35 (by decide), f 36 (by decide), f 30 (by decide)]
  refine wp_some ⟨rfl, ?_, ?_, ?_⟩
  · exact (((((((e2.mono (by decide)).sr (by decide)).sr (by decide)).sr (by decide)).sr (by decide)).sr (by decide)).sr (by decide)).sr (by decide)
  · refine h.pk (N := sr _ 44 _) ?_ ?_ (fun k hk => ?_) ?_ (fun k hk => ?_) (fun k hk => ?_) (fun k hk => ?_) (fun k hk => ?_) h40 h8
    · rw [← e3]; unfold skV
      simp only [sr_1, Nat.reduceEqDiff, if_false, if_true, ↓reduceIte]
    · simp only [sr_1, Nat.reduceEqDiff, if_false, if_true, ↓reduceIte, up_eq]
    · simp only [sr_1, Nat.reduceEqDiff, if_false, if_true, ↓reduceIte]
      exact va_00 (n := 1640) hk
    · simp only [sr_1, Nat.reduceEqDiff, if_false, if_true, ↓reduceIte, up_eq]
    · simp only [sr_1, Nat.reduceEqDiff, if_false, if_true, ↓reduceIte]
      exact va_00 (n := 8) hk
    · simp only [sr_1, Nat.reduceEqDiff, if_false, if_true, ↓reduceIte]
      exact va_00 (n := 8) hk
    · simp only [sr_1, Nat.reduceEqDiff, if_false, if_true, ↓reduceIte]
      exact va_00 (n := 8) hk
    · simp only [sr_1, Nat.reduceEqDiff, if_false, if_true, ↓reduceIte]
      exact va_00 (n := 3) hk
  · rw [← e3]; unfold skV
    simp only [sr_1, Nat.reduceEqDiff, if_false, if_true, ↓reduceIte]
theorem memCopy_30 {y : Lay} (hy : LY y) {M : Mem} {m : Mm} (h : CMM M 44 51 52 55 56 45 46 47 48 49 50 m) (z : ZR M 38 41 42) (z' : ZR M 52 55 56) (h40 : m.2.1.1 ≤ 40) (h8 : m.2.2.1.1 ≤ 8) : wp (f_X4_copyFrom y 30 44 M) (fun o => o.1 = 0 ∧ Eqx [30, 37, 38, 41, 42, 31, 32, 33, 34, 35, 36] M o.2 ∧ CMM o.2 30 37 38 41 42 31 32 33 34 35 36 m ∧ skV o.2 37 38 41 42 = skV M 51 52 55 56) := by
  unfold f_X4_copyFrom f_X0_copyFrom
  simp only [lT_s, jn_s, c0_s, cp_s, cx_s, cx_t, gK_t (k_30 hy), gN_t (r := 30) (by decide), r_30_0 hy, r_30_1 hy, r_30_2 hy, r_30_3 hy, r_30_4 hy, r_30_5 hy, gK_t (k_44 hy), gN_t (r := 44) (by decide), r_44_0 hy, r_44_1 hy, r_44_2 hy, r_44_3 hy, r_44_4 hy, r_44_5 hy, gK_t (k_37 hy), gN_t (r := 37) (by decide), r_37_0 hy, r_37_1 hy, r_37_2 hy, r_37_3 hy, r_37_4 hy, r_37_5 hy, r_37_6 hy, gK_t (k_31 hy), gN_t (r := 31) (by decide), r_31_0 hy, gK_t (k_45 hy), gN_t (r := 45) (by decide), r_45_0 hy, gN_t (r := 32) (by decide), gN_t (r := 46) (by decide), gN_t (r := 33) (by decide), gN_t (r := 47) (by decide), gN_t (r := 34) (by decide), gN_t (r := 48) (by decide), gN_t (r := 35) (by decide), gN_t (r := 49) (by decide), gN_t (r := 36) (by decide), gN_t (r := 50) (by decide)]
  refine wp_c0 _ (copyFrom_37_51 hy z z') (fun r M1 q => ?_)
  obtain ⟨-, e2, e3, -⟩ := q
  dsimp only at e2 e3
  rw [gC_t (k_46 hy) (k_32 hy) (by decide), c0_s, gC_t (k_47 hy) (k_33 hy) (by decide), gC_t (k_48 hy) (k_34 hy) (by decide), gC_t (k_49 hy) (k_35 hy) (by decide), gC_t (k_50 hy) (k_36 hy) (by decide)]
  simp only [c0_s, cpI_sr, wI_sr, sr_1, Nat.reduceEqDiff, if_false, if_true, ↓reduceIte]
  have f : ∀ p, p ∉ [37, 38, 41, 42] → M1.1 p = M.1 p := e2.2
  rw [f 46 (by decide), f 45 (by decide), f 47 (by decide), f 48 (by decide), f 49 (by decide), f 50 (by decide), f 44 (by decide)]
  refine wp_some ⟨rfl, ?_, ?_, ?_⟩
  · exact (((((((e2.mono (by decide)).sr (by decide)).sr (by decide)).sr (by decide)).sr (by decide)).sr (by decide)).sr (by decide)).sr (by decide)
  · refine h.pk (N := sr _ 30 _) ?_ ?_ (fun k hk => ?_) ?_ (fun k hk => ?_) (fun k hk => ?_) (fun k hk => ?_) (fun k hk => ?_) h40 h8
    · rw [← e3]; unfold skV
      simp only [sr_1, Nat.reduceEqDiff, if_false, if_true, ↓reduceIte]
    · simp only [sr_1, Nat.reduceEqDiff, if_false, if_true, ↓reduceIte, up_eq]
    · simp only [sr_1, Nat.reduceEqDiff, if_false, if_true, ↓reduceIte]
      exact va_00 (n := 1640) hk
    · simp only [sr_1, Nat.reduceEqDiff, if_false, if_true, ↓reduceIte, up_eq]
    · simp only [sr_1, Nat.reduceEqDiff, if_false, if_true, ↓reduceIte]
      exact va_00 (n := 8) hk
    · simp only [sr_1, Nat.reduceEqDiff, if_false, if_true, ↓reduceIte]
      exact va_00 (n := 8) hk
    · simp only [sr_1, Nat.reduceEqDiff, if_false, if_true, ↓reduceIte]
      exact va_00 (n := 8) hk
    · simp only [sr_1, Nat.reduceEqDiff, if_false, if_true, ↓reduceIte]
      exact va_00 (n := 3) hk
  · rw [← e3]; unfold skV
    simp only [sr_1, Nat.reduceEqDiff, if_false, if_true, ↓reduceIte]
def imageA (A : St) : St := (aK A, aM A, (true, aM A), aT A, aF A)
def restoreA (A : St) : St := if (aI A).1 = true then (aK A, (aI A).2, aI A, aT A, aF A) else A
def restoreR (A : St) : Int32 := if (aI A).1 = true then 1 else 0
theorem image_val {A : St} (v : VAL A) : VAL (imageA A) := ⟨v.1, v.2.1, fun _ => ⟨v.2.1, rfl⟩, v.2.2.2⟩
theorem restore_val {A : St} (v : VAL A) : VAL (restoreA A) := by
  unfold restoreA
  split
  · rename_i q
    exact ⟨v.1, (v.2.2.1 q).1, fun _ => ⟨(v.2.2.1 q).1, rfl⟩, v.2.2.2⟩
  · exact v
theorem image_c {y : Lay} (hy : LY y) {A : St} {M : Mem} (h : CR A M) (v : VAL A) : wp (f_X11_image y 1 M) (OD (imageA A) 0 M) := by
  unfold f_X11_image
  simp only [lT_s, jn_s, c0_s, cp_s, cx_s, cx_t, gK_t (k_1 hy), gN_t (r := 1) (by decide), r_1_0 hy, r_1_1 hy, r_1_2 hy, r_1_3 hy, r_1_4 hy, r_1_5 hy, r_1_6 hy, r_1_7 hy, r_1_8 hy, r_1_9 hy, r_1_10 hy, gK_t (k_44 hy), gN_t (r := 44) (by decide), r_44_0 hy, r_44_1 hy, r_44_2 hy, r_44_3 hy, r_44_4 hy, r_44_5 hy]
  have hS := h.sok v
  refine wp_c0 _ (memCopy_44 hy h.2.1 h.2.2.1.1 (hS.zr v.1) v.2.1.2.1.1 v.2.1.2.2.1) (fun r M1 q => ?_)
  obtain ⟨-, q2, q3, q4⟩ := q
  dsimp only at q2 q3 q4
  rw [wI_sr]
  have hE : Eqx [1, 44, 51, 52, 55, 56, 45, 46, 47, 48, 49, 50] M (sr M1 1 (up (M1.1 1) 11 1)) := (q2.mono (by decide)).sr (by decide)
  have k1 : M1.1 1 = M.1 1 := q2.2 1 (by decide)
  refine wp_some ⟨rfl, ?_, hE.kM (by decide)⟩
  obtain ⟨h1, h2, h3, h4, h5, h6⟩ := h
  refine ⟨h1.eqx hE (by decide), CMM.frame h2 (fun p hp => hE.2 p ?_), ⟨?_, ?_⟩, ⟨?_, fun _ => CMM.frame q3 (fun p hp => sr_ne ?_)⟩, ?_, ?_⟩
  · simp only [List.mem_cons, List.not_mem_nil, or_false] at hp
    rcases hp with rfl | rfl | rfl | rfl | rfl | rfl | rfl | rfl | rfl | rfl | rfl <;> decide
  · have : SOK (aK A) (skV M1 51 52 55 56) := by rw [q4]; exact hS
    have z : ZR M1 52 55 56 := SOK.zr (s := 51) v.1 this
    unfold ZR at z ⊢
    rw [sr_ne (by decide), sr_ne (by decide), sr_ne (by decide)]
    exact z
  · unfold ZR at h3 ⊢
    rw [hE.2 59 (by decide), hE.2 62 (by decide), hE.2 63 (by decide)]
    exact h3.2
  · rw [sr_ap, up_eq]; rfl
  · simp only [List.mem_cons, List.not_mem_nil, or_false] at hp
    rcases hp with rfl | rfl | rfl | rfl | rfl | rfl | rfl | rfl | rfl | rfl | rfl <;> decide
  · unfold CTP at h5 ⊢
    rw [hE.2 2 (by decide), hE.2 3 (by decide)]
    exact h5
  · rw [sr_ap, up_ne (by decide), k1]; exact h6
theorem restore_c {y : Lay} (hy : LY y) {A : St} {M : Mem} (h : CR A M) (v : VAL A) : wp (f_X11_restore y 1 M) (OD (restoreA A) (restoreR A) M) := by
  unfold f_X11_restore
  simp only [lT_s, jn_s, c0_s, cp_s, cx_s, cx_t, gK_t (k_1 hy), gN_t (r := 1) (by decide), r_1_0 hy, r_1_1 hy, r_1_2 hy, r_1_3 hy, r_1_4 hy, r_1_5 hy, r_1_6 hy, r_1_7 hy, r_1_8 hy, r_1_9 hy, r_1_10 hy, gK_t (k_30 hy), gN_t (r := 30) (by decide), r_30_0 hy, r_30_1 hy, r_30_2 hy, r_30_3 hy, r_30_4 hy, r_30_5 hy, h.2.2.2.1.1]
  have hS := h.sok v
  unfold restoreA restoreR
  by_cases q : (aI A).1 = true
  · rw [if_pos q, if_pos q]
    refine wp_brf (by decide) ?_
    have hI := (h.2.2.2.1.2 q)
    have vI := (v.2.2.1 q).1
    refine wp_c0 _ (memCopy_30 hy hI (hS.zr v.1) h.2.2.1.1 vI.2.1.1 vI.2.2.1) (fun r M1 q => ?_)
    obtain ⟨-, q2, q3, q4⟩ := q
    dsimp only at q2 q3 q4
    exact wp_some ⟨rfl, CR.upd h (q2.mono (by decide)) q3, q2.kM (by decide)⟩
  · rw [if_neg q, if_neg q]
    exact wp_brt rfl (wp_some ⟨rfl, h, kM.refl M⟩)
theorem copyTo_g {y : Lay} {p q N : Nat} {M : Mem} (kp : kd y p = (1, N)) (kq : kd y q = (1, N)) (hN : N ≤ 2000) (hpq : ¬ q = p) : f_X12_copyTo y p q M = some (0, sr M p (rowTo N (M.1 q) (M.1 p))) := by
  unfold f_X12_copyTo
  refine wp_eq ?_
  refine wp_for (i0 := 0) N (fun i s => s = sr M p (rowTo i (M.1 q) (M.1 p))) (by have : FUEL = 100000 := rfl; omega) rfl (by omega) (by rw [rowTo_0, sr_self]) ?_ ?_
  · intro f i s hi hI hk
    subst hI
    rw [gT_t (by rw [kp]), kp]
    refine wp_brf (by show ¬ n2 N ≤ n2 i; rw [n2_le (by omega) (by omega)]; omega) ?_
    rw [gA_n kq hi (by omega), gA_n kp hi (by omega), lT_s, lT_s, n2_nat (by omega), n2_s, wI_sr, sr_ap, sr_sr, sr_ne hpq]
    exact hk _ (by rw [rowTo_s])
  · intro f s hI
    subst hI
    rw [gT_t (by rw [kp]), kp]
    exact wp_brt (Int32.le_refl _) (wp_some rfl)
theorem image_m {y : Lay} (hy : LY y) {A : St} {M : Mem} (h : MR A M) (v : VAL A) : wp (f_X12_image y 73 M) (OM (imageA A) (0, 0) M) := by
  unfold f_X12_image
  rw [gK_t (k_73 hy)]
  refine OM.start hy h (fun M0 h0 g0 hc => ?_)
  simp only [lT_s, wI_sr, sr_ap, sr_sr, gK_t (k_73 hy), gN_t (r := 73) (by decide), r_73_0 hy, r_73_1 hy, r_73_2 hy, r_73_5 hy, r_73_6 hy, r_73_7 hy, r_73_8 hy, r_73_9 hy, r_73_10 hy, r_73_11 hy, r_73_12 hy, r_73_13 hy, r_73_14 hy, r_73_28 hy, r_73_29 hy, r_73_30 hy, r_73_38 hy, r_73_39 hy, r_73_40 hy, r_73_42 hy, r_73_43 hy, r_73_44 hy, r_73_45 hy, r_73_46 hy, r_73_47 hy, r_73_48 hy, r_73_49 hy, r_73_50 hy, r_73_51 hy, r_73_53 hy, r_73_58 hy, r_73_59 hy, r_73_60 hy, r_73_61 hy, r_73_62 hy, r_73_63 hy, gN_t (show ¬ 104 = 0 by decide), gN_t (show ¬ 105 = 0 by decide), gN_t (show ¬ 89 = 0 by decide), gN_t (show ¬ 106 = 0 by decide), gN_t (show ¬ 97 = 0 by decide), gN_t (show ¬ 107 = 0 by decide), gN_t (show ¬ 98 = 0 by decide), gN_t (show ¬ 108 = 0 by decide), gN_t (show ¬ 99 = 0 by decide), gN_t (show ¬ 109 = 0 by decide), gN_t (show ¬ 84 = 0 by decide)]
  generalize hO : up (up (up (M0.1 73) 55 1) 56 (up (M0.1 73) 55 1 36)) 57 (up (up (M0.1 73) 55 1) 56 (up (M0.1 73) 55 1 36) 37) = O
  refine wp_c0 _ (pack_104 hy (f := 0) (by decide)) (fun r M1 q => ?_)
  obtain ⟨-, q2, q3, -⟩ := q
  dsimp only at q2 q3
  have f1 : ∀ p, ¬ p = 73 → ¬ p = 104 → M1.1 p = M0.1 p := fun p p1 p2 => by rw [q2.2 p (by simpa using p2), sr_ne p1]
  have f73 : M1.1 73 = O := by rw [q2.2 73 (by decide), sr_ap]
  have hO' : ∀ k, ¬ k = 55 → ¬ k = 56 → ¬ k = 57 → O k = M0.1 73 k := fun k k1 k2 k3 => by rw [← hO, up_ne k3, up_ne k2, up_ne k1]
  rw [copyTo_g (k_105 hy) (k_89 hy) (by decide) (by decide), c0_s, copyTo_g (k_106 hy) (k_97 hy) (by decide) (by decide), c0_s, copyTo_g (k_107 hy) (k_98 hy) (by decide) (by decide), c0_s, copyTo_g (k_108 hy) (k_99 hy) (by decide) (by decide), c0_s, copyTo_g (k_109 hy) (k_84 hy) (by decide) (by decide), c0_s]
  simp only [sr_1, Nat.reduceEqDiff, if_false, if_true, ↓reduceIte]
  obtain ⟨h1, h2, h3, h4, h5⟩ := h0
  obtain ⟨b1, b2, b3, b4⟩ := h2
  generalize hN : sr (sr (sr (sr (sr M1 105 _) 106 _) 107 _) 108 _) 109 _ = N
  have n73 : N.1 73 = O := by rw [← hN]; simp only [sr_1, Nat.reduceEqDiff, if_false, ↓reduceIte]; exact f73
  have nf : ∀ p, p < 104 → ¬ p = 73 → N.1 p = M0.1 p := fun p p1 p2 => by
    rw [← hN, sr_ne (by omega), sr_ne (by omega), sr_ne (by omega), sr_ne (by omega), sr_ne (by omega), f1 p p2 (by omega)]
  refine wp_some ⟨?_, fun _ => rfl, ⟨?_, ⟨?_, ?_, ?_, ?_⟩, ⟨?_, fun _ => ⟨?_, ⟨?_, fun j hj => ?_⟩, ⟨?_, fun k hk => ?_⟩, fun k hk => ?_⟩⟩, ?_, ?_⟩, ?_⟩
  · show N.1 73 4 = 0
    rw [n73, hO' 4 (by decide) (by decide) (by decide), hc]
  · exact h1.frame (nf 77 (by decide) (by decide)) (nf 79 (by decide) (by decide)) (nf 82 (by decide) (by decide)) (nf 83 (by decide) (by decide))
  · show vo (moV N) = vo (aM A).1
    rw [← b1]; unfold moV
    rw [n73, nf 87 (by decide) (by decide), nf 88 (by decide) (by decide), nf 85 (by decide) (by decide), ← hO]
    rfl
  · show N.1 73 36 = _ ∧ _
    rw [n73, nf 89 (by decide) (by decide), hO' 36 (by decide) (by decide) (by decide)]; exact b2
  · show N.1 73 37 = _ ∧ _
    rw [n73, nf 97 (by decide) (by decide), nf 98 (by decide) (by decide), nf 99 (by decide) (by decide), hO' 37 (by decide) (by decide) (by decide)]; exact b3
  · show ∀ k, k < 3 → N.1 84 k = _
    rw [nf 84 (by decide) (by decide)]; exact b4
  · show N.1 73 55 = 1
    rw [n73, ← hO]; rfl
  · show PKD (N.1 104) 0 _
    rw [← hN]
    simp only [sr_1, Nat.reduceEqDiff, if_false, ↓reduceIte]
    refine q3.eqo ?_
    show _ = vo (aS A)
    rw [← b1]
    unfold moV
    rw [sr_ap, sr_ne (by decide), sr_ne (by decide), sr_ne (by decide), ← hO]
    rfl
  · show N.1 73 56 = _
    rw [n73, ← hO, up_ne (by decide), up_eq, up_ne (by decide)]; exact b2.1
  · show PKD (N.1 105) _ _
    rw [← hN]
    simp only [sr_1, Nat.reduceEqDiff, if_false, if_true, ↓reduceIte]
    have hj : j < (mA (aM A)).1 := hj
    have h40 : (mA (aM A)).1 ≤ 40 := v.2.1.2.1.1
    refine (b2.2 j hj).frame (fun k hk => ?_)
    rw [rowTo_lt (by omega), f1 89 (by decide) (by decide)]
  · show N.1 73 57 = _
    rw [n73, ← hO, up_eq, up_ne (by decide), up_ne (by decide)]; exact b3.1
  · show N.1 106 k = _ ∧ N.1 107 k = _ ∧ N.1 108 k = _
    have hk : k < (mN (aM A)).1 := hk
    have h8 : (mN (aM A)).1 ≤ 8 := v.2.1.2.2.1
    rw [← hN]
    simp only [sr_1, Nat.reduceEqDiff, if_false, if_true, ↓reduceIte]
    rw [rowTo_lt (by omega), rowTo_lt (by omega), rowTo_lt (by omega), f1 97 (by decide) (by decide), f1 98 (by decide) (by decide), f1 99 (by decide) (by decide)]
    exact b3.2 k hk
  · show N.1 109 k = _
    rw [← hN]
    simp only [sr_1, Nat.reduceEqDiff, if_false, if_true, ↓reduceIte]
    rw [rowTo_lt hk, f1 84 (by decide) (by decide)]
    exact b4 k hk
  · show N.1 73 15 = _ ∧ _
    rw [n73, nf 86 (by decide) (by decide), hO' 15 (by decide) (by decide) (by decide)]; exact h4
  · show N.1 73 24 = _
    rw [n73, hO' 24 (by decide) (by decide) (by decide)]; exact h5
  · refine ⟨?_, fun p hp => ?_⟩
    · rw [← hN]
      show M1.2.1 = M.2.1
      exact (congrArg Prod.fst q2.1).trans g0.1
    · show N.1 p = M.1 p
      rw [nf p (by omega) (by omega)]; exact g0.2 p hp
theorem restore_m {y : Lay} (hy : LY y) {A : St} {M : Mem} (h : MR A M) (v : VAL A) : wp (f_X12_restore y 73 M) (OM (restoreA A) (0, restoreR A) M) := by
  unfold f_X12_restore
  rw [gK_t (k_73 hy)]
  refine OM.start hy h (fun M0 h0 g0 hc => ?_)
  rw [h0.2.2.1.1]
  unfold restoreA restoreR
  by_cases q : (aI A).1 = true
  · rw [if_pos q, if_pos q]
    refine wp_brf (by decide) ?_
    have hS := v.2.1.1.1
    have hV := v.2.2.1 q
    simp only [lT_s, wI_sr, sr_ap, sr_sr, gK_t (k_73 hy), gN_t (r := 73) (by decide), r_73_0 hy, r_73_1 hy, r_73_2 hy, r_73_5 hy, r_73_6 hy, r_73_7 hy, r_73_8 hy, r_73_9 hy, r_73_10 hy, r_73_11 hy, r_73_12 hy, r_73_13 hy, r_73_14 hy, r_73_28 hy, r_73_29 hy, r_73_30 hy, r_73_38 hy, r_73_39 hy, r_73_40 hy, r_73_42 hy, r_73_43 hy, r_73_44 hy, r_73_45 hy, r_73_46 hy, r_73_47 hy, r_73_48 hy, r_73_49 hy, r_73_50 hy, r_73_51 hy, r_73_53 hy, r_73_58 hy, r_73_59 hy, r_73_60 hy, r_73_61 hy, r_73_62 hy, r_73_63 hy, gN_t (show ¬ 104 = 0 by decide), gN_t (show ¬ 105 = 0 by decide), gN_t (show ¬ 89 = 0 by decide), gN_t (show ¬ 106 = 0 by decide), gN_t (show ¬ 97 = 0 by decide), gN_t (show ¬ 107 = 0 by decide), gN_t (show ¬ 98 = 0 by decide), gN_t (show ¬ 108 = 0 by decide), gN_t (show ¬ 99 = 0 by decide), gN_t (show ¬ 109 = 0 by decide), gN_t (show ¬ 84 = 0 by decide)]
    have hv := h0.v
    obtain ⟨h1, h2, h3, h4, h5⟩ := h0
    obtain ⟨i1, i2, i3, i4⟩ := h3.2 q
    have e36 : M0.1 73 56 = n2 (aI A).2.2.1.1 := i2.1
    have e37 : up (M0.1 73) 36 (M0.1 73 56) 57 = n2 (aI A).2.2.2.1.1 := by rw [up_ne (by decide)]; exact i3.1
    rw [e37, e36]
    generalize hO : up (up (M0.1 73) 36 (n2 (aI A).2.2.1.1)) 37 (n2 (aI A).2.2.2.1.1) = O
    refine wp_c0 _ (unpack_104 hy (f := 0) (by decide) (S := (aI A).2.1) (by rw [sr_ne (by decide)]; exact i1) ?_ ?_) (fun r M1 q => ?_)
    · intro k hk
      rw [sr_ne (by decide), hv.1.1, hS.b v.1 k hk]
      exact (hV.1.1.1.b v.1 k hk).symm
    · intro k hk
      rw [sr_ne (by decide), hv.1.2.1, hS.sp k hk]
      exact (hV.1.1.1.sp k hk).symm
    obtain ⟨-, q2, q3, q4⟩ := q
    dsimp only at q2 q3 q4
    have f1 : ∀ p, ¬ p = 73 → ¬ p = 87 → ¬ p = 88 → M1.1 p = M0.1 p := fun p p1 p2 p3 => by rw [q2.2 p (by simp [p1, p2, p3]), sr_ne p1]
    have f73 : ∀ k, ¬ (31 ≤ k ∧ k ≤ 35) → M1.1 73 k = O k := fun k hk => by rw [q4 k hk, sr_ap]
    rw [copyTo_g (k_89 hy) (k_105 hy) (by decide) (by decide), c0_s, copyTo_g (k_97 hy) (k_106 hy) (by decide) (by decide), c0_s, copyTo_g (k_98 hy) (k_107 hy) (by decide) (by decide), c0_s, copyTo_g (k_99 hy) (k_108 hy) (by decide) (by decide), c0_s, copyTo_g (k_84 hy) (k_109 hy) (by decide) (by decide), c0_s]
    simp only [sr_1, Nat.reduceEqDiff, if_false, if_true, ↓reduceIte]
    generalize hN : sr (sr (sr (sr (sr M1 89 _) 97 _) 98 _) 99 _) 84 _ = N
    have nE : Eqx [73, 84, 87, 88, 89, 97, 98, 99] M0 N := by
      rw [← hN]
      exact ((((((((Eqx.refl _ _).sr (by decide)).trans (q2.mono (by decide))).sr (by decide)).sr (by decide)).sr (by decide)).sr (by decide)).sr (by decide))
    have n73 : N.1 73 = M1.1 73 := by rw [← hN]; simp only [sr_1, Nat.reduceEqDiff, if_false, ↓reduceIte]
    have k73 : ∀ k, ¬ (31 ≤ k ∧ k ≤ 37) → N.1 73 k = M0.1 73 k := fun k hk => by
      rw [n73, f73 k (by omega), ← hO, up_ne (by omega), up_ne (by omega)]
    refine wp_some ⟨?_, fun _ => rfl, ?_, g0.trans (nE.kC (by decide))⟩
    · show N.1 73 4 = 0
      rw [k73 4 (by decide), hc]
    · refine MR.upd ⟨h1, h2, h3, h4, h5⟩ (nE.mono (by decide)) ⟨k73 15 (by decide), k73 24 (by decide), k73 55 (by decide), k73 56 (by decide), k73 57 (by decide)⟩ ⟨?_, ⟨?_, fun j hj => ?_⟩, ⟨?_, fun k hk => ?_⟩, fun k hk => ?_⟩
      · have e1 : moV N = moV M1 := by
          unfold moV
          rw [n73, ← hN]
          simp only [sr_1, Nat.reduceEqDiff, if_false, ↓reduceIte]
        rw [e1, q3, sr_ne (by decide), hv.1.2.2]
        have : sSk (aI A).2.1 = sSk (aS A) := hV.2
        rw [← this]; rfl
      · rw [n73, f73 36 (by decide), ← hO, up_ne (by decide), up_eq]
      · rw [← hN]
        simp only [sr_1, Nat.reduceEqDiff, if_false, if_true, ↓reduceIte]
        have h40 : (mA (aI A).2).1 ≤ 40 := hV.1.2.1.1
        have hj : j < (mA (aI A).2).1 := hj
        refine (i2.2 j hj).frame (fun k hk => ?_)
        rw [rowTo_lt (by omega), f1 105 (by decide) (by decide) (by decide)]
      · rw [n73, f73 37 (by decide), ← hO, up_eq]
      · have hk : k < (mN (aI A).2).1 := hk
        have h8 : (mN (aI A).2).1 ≤ 8 := hV.1.2.2.1
        rw [← hN]
        simp only [sr_1, Nat.reduceEqDiff, if_false, if_true, ↓reduceIte]
        rw [rowTo_lt (by omega), rowTo_lt (by omega), rowTo_lt (by omega), f1 106 (by decide) (by decide) (by decide), f1 107 (by decide) (by decide) (by decide), f1 108 (by decide) (by decide) (by decide)]
        exact i3.2 k hk
      · rw [← hN]
        simp only [sr_1, Nat.reduceEqDiff, if_false, if_true, ↓reduceIte]
        rw [rowTo_lt hk, f1 109 (by decide) (by decide) (by decide)]
        exact i4 k hk
  · rw [if_neg q, if_neg q]
    exact wp_brt rfl (OM.ret h0 g0 hc)
