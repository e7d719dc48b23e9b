/-! ===== acts kept, undone ===== -/
def keepA (a : Ac) (S : Sk) : Ac := if a.1 < 40 then (a.1 + 1, fun j => if j = a.1 then S else a.2 j) else (40, fun j => if j = 39 then S else a.2 (j + 1))
theorem PKC.eqo {R : Row} {f : Nat} {S T : Sk} (h : PKC R f S) (e : vo S = vo T) : PKC R f T := by
  have h1 : PKC R f (vo S) := h
  rw [e] at h1
  exact h1
theorem PKD.eqo {R : Row} {f : Nat} {S T : Sk} (h : PKD R f S) (e : vo S = vo T) : PKD R f T := by
  have h1 : PKD R f (vo S) := h
  rw [e] at h1
  exact h1
theorem n41 (a : Nat) : n2 a * 41 = n2 (41 * a) := by rw [Nat.mul_comm]; exact n2_mul a 41
theorem n41' (a : Nat) : 41 * n2 a = n2 (41 * a) := n2_mul 41 a
theorem keepA_lt {a : Ac} {S : Sk} (h : a.1 < 40) : keepA a S = (a.1 + 1, fun j => if j = a.1 then S else a.2 j) := if_pos h
theorem keepA_ge {a : Ac} {S : Sk} (h : ¬ a.1 < 40) : keepA a S = (40, fun j => if j = 39 then S else a.2 (j + 1)) := if_neg h
theorem keepAct_c {y : Lay} (hy : LY y) {M : Mem} {a : Ac} {S : Sk} (h1 : M.1 31 1 = n2 a.1) (h4 : a.1 ≤ 40) (h2 : ∀ j, j < a.1 → PKC (M.1 32) (41 * j) (a.2 j)) (hS : vo (skV M 37 38 41 42) = vo S) : wp (f_X4_keepAct y 30 M) (fun o => o.1 = 0 ∧ Eqx [31, 32] M o.2 ∧ o.2.1 31 1 = n2 (keepA a S).1 ∧ ∀ j, j < (keepA a S).1 → PKC (o.2.1 32) (41 * j) ((keepA a S).2 j)) := by
  unfold f_X4_keepAct f_X0_keep
  simp only [lT_s, jn_s, c0_s, cp_s, cx_s, cx_t, gK_t (k_30 hy), gN_t (r := 30) (by decide), r_30_0 hy, r_30_1 hy, r_30_2 hy, r_30_3 hy, r_30_4 hy, r_30_5 hy, gK_t (k_31 hy), gN_t (r := 31) (by decide), r_31_0 hy, gK_t (k_37 hy), gN_t (r := 37) (by decide), r_37_0 hy, r_37_1 hy, r_37_2 hy, r_37_3 hy, r_37_4 hy, r_37_5 hy, r_37_6 hy, gN_t (r := 32) (by decide), h1]
  by_cases h : a.1 < 40
  · rw [keepA_lt h]
    refine wp_c0 (fun o => o.1 = 0 ∧ Eqx [31, 32] M o.2 ∧ o.2.1 31 1 = n2 (a.1 + 1) ∧ ∀ j, j < a.1 + 1 → PKC (o.2.1 32) (41 * j) (if j = a.1 then S else a.2 j)) ?_ (fun r M1 q => wp_some ⟨rfl, q.2⟩)
    refine wp_brt (by rw [show (40 : Int32) = n2 40 from rfl, n2_lt (by omega) (by omega)]; exact h) ?_
    rw [n41]
    refine wp_c0 _ (save_s hy (show 41 * a.1 + 41 ≤ 1640 by omega)) (fun r M1 q => ?_)
    obtain ⟨-, q2, q3, q4⟩ := q
    dsimp only at q2 q3 q4
    rw [wI_sr]
    refine wp_some ⟨rfl, (q2.mono (by decide)).sr (by decide), ?_, fun j hj => ?_⟩
    · rw [sr_ap, up_eq, q2.2 31 (by decide), h1, n2_s]
    · rw [sr_ne (by decide)]
      by_cases e : j = a.1
      · rw [if_pos e, e]; exact q3.eqo hS
      · rw [if_neg e]
        exact (h2 j (by omega)).frame (fun k hk => q4 _ (by omega))
  · rw [keepA_ge h]
    have ha : a.1 = 40 := by omega
    refine wp_c0 (fun o => o.1 = 0 ∧ Eqx [31, 32] M o.2 ∧ o.2.1 31 1 = n2 40 ∧ ∀ j, j < 40 → PKC (o.2.1 32) (41 * j) (if j = 39 then S else a.2 (j + 1))) ?_ (fun r M1 q => wp_some ⟨rfl, q.2⟩)
    refine wp_brf (by rw [show (40 : Int32) = n2 40 from rfl, n2_lt (by omega) (by omega)]; exact h) ?_
    rw [gC_t (k_32 hy) (k_32 hy) (by decide), cpI_sr, wI_sr]
    generalize hN : sr (sr M 32 (va_cpy (M.1 32) (M.1 32) (41 : Int32).toNatClampNeg (0 : Int32).toNatClampNeg (1599 : Int32).toNatClampNeg)) 31 _ = N
    have n31 : N.1 31 1 = 39 := by rw [← hN, sr_ap]; exact up_eq
    have n32 : N.1 32 = va_cpy (M.1 32) (M.1 32) 41 0 1599 := by rw [← hN, sr_ne (by decide), sr_ap]; rfl
    have nE : Eqx [31, 32] M N := by rw [← hN]; exact ((Eqx.refl _ _).sr (by decide)).sr (by decide)
    have nV : vo (skV N 37 38 41 42) = vo S := by
      rw [← hS]; unfold skV
      rw [nE.2 37 (by decide), nE.2 38 (by decide), nE.2 41 (by decide), nE.2 42 (by decide)]
    rw [n31, show (39 : Int32) * 41 = n2 1599 by decide]
    refine wp_c0 _ (save_s hy (show 1599 + 41 ≤ 1640 by omega)) (fun r M1 q => ?_)
    obtain ⟨-, q2, q3, q4⟩ := q
    dsimp only at q2 q3 q4
    rw [wI_sr]
    refine wp_some ⟨rfl, (nE.trans (q2.mono (by decide))).sr (by decide), ?_, fun j hj => ?_⟩
    · rw [sr_ap, up_eq, q2.2 31 (by decide), n31]; rfl
    · rw [sr_ne (by decide)]
      by_cases e : j = 39
      · rw [if_pos e, e]; exact q3.eqo nV
      · rw [if_neg e]
        refine (h2 (j + 1) (by omega)).frame (fun k hk => ?_)
        rw [q4 _ (by omega), n32, va_in (by omega) (by omega), show 41 + (41 * j + k - 0) = 41 * (j + 1) + k by omega]
theorem keep_m {y : Lay} (hy : LY y) {M : Mem} {a : Ac} {S : Sk} (h1 : M.1 73 36 = n2 a.1) (h4 : a.1 ≤ 40) (h2 : ∀ j, j < a.1 → PKD (M.1 89) (41 * j) (a.2 j)) (hS : vo (moV M) = vo S) : wp (f_X12_keep y 73 M) (fun o => o.1 = 0 ∧ Eqx [73, 89] M o.2 ∧ o.2.1 73 = up (M.1 73) 36 (n2 (keepA a S).1) ∧ ∀ j, j < (keepA a S).1 → PKD (o.2.1 89) (41 * j) ((keepA a S).2 j)) := by
  unfold f_X12_keep
  simp only [lT_s, jn_s, c0_s, cp_s, cx_s, cx_t, gK_t (k_73 hy), gN_t (r := 73) (by decide), r_73_0 hy, r_73_1 hy, r_73_2 hy, r_73_5 hy, r_73_6 hy, r_73_7 hy, r_73_8 hy, r_73_9 hy, r_73_10 hy, r_73_11 hy, r_73_12 hy, r_73_13 hy, r_73_14 hy, r_73_28 hy, r_73_29 hy, r_73_30 hy, r_73_38 hy, r_73_39 hy, r_73_40 hy, r_73_42 hy, r_73_43 hy, r_73_44 hy, r_73_45 hy, r_73_46 hy, r_73_47 hy, r_73_48 hy, r_73_49 hy, r_73_50 hy, r_73_51 hy, r_73_53 hy, r_73_58 hy, r_73_59 hy, r_73_60 hy, r_73_61 hy, r_73_62 hy, r_73_63 hy, gN_t (r := 89) (by decide), h1]
  by_cases h : a.1 < 40
  · rw [keepA_lt h]
    refine wp_brf (by rw [show (40 : Int32) = n2 40 from rfl, n2_inj (by omega) (by omega)]; omega) ?_
    rw [n41']
    refine wp_c0 _ (pack_89 hy (show 41 * a.1 + 41 ≤ 1640 by omega)) (fun r M1 q => ?_)
    obtain ⟨-, q2, q3, q4⟩ := q
    dsimp only at q2 q3 q4
    have e73 : M1.1 73 = M.1 73 := q2.2 73 (by decide)
    rw [wI_sr, e73, h1, n2_s]
    refine wp_some ⟨rfl, (q2.mono (by decide)).sr (by decide), sr_ap _ _ _, fun j hj => ?_⟩
    rw [sr_ne (by decide)]
    by_cases e : j = a.1
    · show PKD _ _ (if j = a.1 then S else a.2 j)
      rw [if_pos e, e]; exact q3.eqo hS
    · show PKD _ _ (if j = a.1 then S else a.2 j)
      rw [if_neg e]
      have hj : j < a.1 + 1 := hj
      exact (h2 j (by omega)).frame (fun k hk => q4 _ (by omega))
  · rw [keepA_ge h]
    have ha : a.1 = 40 := by omega
    refine wp_brt (by rw [ha]; rfl) ?_
    refine wp_for (i0 := 41) 1640 (fun i s => 41 ≤ i ∧ s = sr M 89 (fun j => if j + 41 < i then M.1 89 (j + 41) else M.1 89 j)) (by decide) rfl (by omega) ⟨by omega, ?_⟩ ?_ ?_
    · have e : (fun j => if j + 41 < 41 then M.1 89 (j + 41) else M.1 89 j) = M.1 89 := by
        funext j; rw [if_neg (by omega)]
      rw [e, sr_self]
    · intro f i s hi hI hk
      obtain ⟨h41, hI⟩ := hI
      subst hI
      rw [gT_t (by rw [k_89 hy]), k_89 hy]
      refine wp_brf (by show ¬ n2 1640 ≤ n2 i; rw [n2_le (by omega) (by omega)]; omega) ?_
      have es : n2 i - 41 = n2 (i - 41) := n2_sub (b := 41) (by omega)
      rw [es, gA_n (k_89 hy) (by omega) (by omega), gA_n (k_89 hy) (by omega) (by omega), n2_nat (by omega), n2_nat (by omega), n2_s, wI_sr, sr_ap, sr_sr]
      refine hk _ ⟨by omega, ?_⟩
      congr 1
      funext j
      rw [if_neg (by omega)]
      unfold up
      dsimp only
      by_cases e : j = i - 41
      · rw [if_pos e, if_pos (by omega), show j + 41 = i by omega]
      · rw [if_neg e]
        by_cases e2 : j + 41 < i
        · rw [if_pos e2, if_pos (by omega)]
        · rw [if_neg e2, if_neg (by omega)]
    · intro f s hI
      obtain ⟨-, hI⟩ := hI
      subst hI
      rw [gT_t (by rw [k_89 hy]), k_89 hy]
      refine wp_brt (Int32.le_refl _) ?_
      rw [wI_sr, sr_ne (show ¬ 73 = 89 by decide), h1, ha, show n2 40 - 1 = n2 39 by decide]
      generalize hN : sr (sr M 89 _) 73 (up (M.1 73) 36 (n2 39)) = N
      have n73 : N.1 73 = up (M.1 73) 36 (n2 39) := by rw [← hN, sr_ap]
      have n89 : N.1 89 = fun j => if j + 41 < 1640 then M.1 89 (j + 41) else M.1 89 j := by rw [← hN, sr_ne (by decide), sr_ap]
      have nE : Eqx [73, 89] M N := by rw [← hN]; exact ((Eqx.refl _ _).sr (by decide)).sr (by decide)
      have nV : vo (moV N) = vo S := by
        rw [← hS]; unfold moV
        rw [n73, nE.2 87 (by decide), nE.2 88 (by decide), nE.2 85 (by decide)]
        rfl
      rw [n73, up_eq, show (41 : Int32) * n2 39 = n2 1599 by decide]
      refine wp_c0 _ (pack_89 hy (show 1599 + 41 ≤ 1640 by omega)) (fun r M1 q => ?_)
      obtain ⟨-, q2, q3, q4⟩ := q
      dsimp only at q2 q3 q4
      have e73 : M1.1 73 = N.1 73 := q2.2 73 (by decide)
      rw [wI_sr, e73, n73, up_eq, n2_s]
      refine wp_some ⟨rfl, (nE.trans (q2.mono (by decide))).sr (by decide), ?_, fun j hj => ?_⟩
      · rw [sr_ap]
        funext k
        unfold up
        split <;> rfl
      · rw [sr_ne (by decide)]
        have hj : j < 40 := hj
        show PKD _ _ (if j = 39 then S else a.2 (j + 1))
        by_cases e : j = 39
        · rw [if_pos e, e]; exact q3.eqo nV
        · rw [if_neg e]
          refine (h2 (j + 1) (by omega)).frame (fun k hk => ?_)
          rw [q4 _ (by omega), n89]
          dsimp only
          rw [if_pos (by omega), show 41 * j + k + 41 = 41 * (j + 1) + k by omega]
