/-! ===== the class tries rows ===== -/
abbrev rfN (m : Nat) : Lay → Nat → Int32 → Int32 → Int32 → Mem → Option (Int32 × Mem) := fixN (fun _ _ _ _ _ _ => none) (fun R => f_X7_fillB R) m
def FS (m : Nat) (G : Nat → Nat) (w h k : Nat) (sp : Nat → Nat) (M : Mem) : Prop := (M.1 65 4 = n2 m ∧ ∀ j, j < m → M.1 66 j = n2 (G j)) ∧ GEO w h (M.1 4 0) (M.1 4 1) ∧ M.1 4 4 = n2 k ∧ ∀ g, g < k → M.1 41 g = n2 (sp g)
theorem FS.eq {m : Nat} {G : Nat → Nat} {w h k : Nat} {sp : Nat → Nat} {M N : Mem} (h0 : FS m G w h k sp M) (e : Eqx [65, 67, 68] M N) (e4 : N.1 65 4 = M.1 65 4) : FS m G w h k sp N := by
  unfold FS at h0 ⊢
  rw [e4, e.2 66 (by decide), e.2 4 (by decide), e.2 41 (by decide)]
  exact h0
/-- what a try leaves -/
def FR (at' r : Nat) (L : Nat) (W : Nat → Nat) (st le : Nat) (M N : Mem) : Prop := (Eqx [65, 67, 68] M N ∧ (∀ f, ¬ f = 5 → N.1 65 f = M.1 65 f) ∧ ∀ j, j < at' → N.1 67 j = M.1 67 j) ∧ ((st + L < le ∧ N.1 65 5 = n2 (st + L) ∧ (∀ j, j < at' → N.1 68 j = M.1 67 j) ∧ ∀ j, j < r → N.1 68 (at' + j) = n2 (W j)) ∨ (¬ st + L < le ∧ N.1 65 5 = n2 le ∧ N.1 68 = M.1 68))
theorem fill_c {y : Lay} (hy : LY y) {m : Nat} {G : Nat → Nat} {w h k : Nat} {sp : Nat → Nat} (hm : m ≤ 6) (hk : k ≤ 6) (hG : ∀ i, G i < 64) (hsp : ∀ g, sp g < 64) (hw : w ≤ 6) : ∀ r at' st fuel s le M, at' + r = m → r < fuel → tkc k s + r ≤ k → st ≤ 128 * at' → FS m G w h k sp M → le ≤ 1000000 → M.1 65 5 = n2 le → wp (rfN fuel y 65 (n2 at') s (n2 st) M) (fun o => FR at' r (Lf k (fun i g => dist w (sp g) (G i)) r at' s) (Wn k (fun i g => dist w (sp g) (G i)) r at' s) st le M o.2) := by
  have hc : ∀ i g, g < k → (fun i g => dist w (sp g) (G i)) i g < 128 := fun i g _ => dist_lt (hsp g) (hG i) hw
  generalize hcc : (fun i g => dist w (sp g) (G i)) = c at hc ⊢
  intro r
  induction r with
  | zero =>
    intro at' st fuel s le M hat hfu htk hst hF hle he
    match fuel, hfu with
    | fuel + 1, _ =>
      show wp (f_X7_fillB (rfN fuel) y 65 (n2 at') s (n2 st) M) _
      unfold f_X7_fillB
      rw [gK_t (k_65 hy), he]
      refine wp_br (fun q => ?_) (fun q => wp_some ⟨⟨Eqx.refl _ _, fun _ _ => rfl, fun _ _ => rfl⟩, Or.inr ⟨?_, he, rfl⟩⟩)
      · rw [n2_lt (by omega) (by omega)] at q
        refine wp_jn (wp_brt (by rw [hF.1.1, n2_le (by omega) (by omega)]; omega) (wp_lt ?_))
        rw [r_65_1 hy, r_65_2 hy, gN_t (by decide), gN_t (by decide), gC_t (k_67 hy) (k_68 hy) (by decide)]
        refine wp_lt ?_
        rw [wI_sr, cpI_sr]
        refine wp_some ⟨⟨((Eqx.refl _ _).sr (by decide)).sr (by decide), fun f hf => ?_, fun j hj => ?_⟩, Or.inl ⟨?_, ?_, fun j hj => ?_, fun j hj => absurd hj (Nat.not_lt_zero j)⟩⟩
        · rw [sr_ne (by decide), sr_ap, up_ne hf]
        · rw [sr_ne (by decide), sr_ne (by decide)]
        · show st + 0 < le
          exact q
        · rw [sr_ne (by decide), sr_ap, up_eq]; rfl
        · rw [sr_ap, sr_ne (by decide)]
          show va_cpy (M.1 67) _ 0 0 6 j = _
          rw [cpy_lt (by omega)]
      · rw [n2_lt (by omega) (by omega)] at q
        show ¬ st + 0 < le
        exact q
  | succ r ih =>
    intro at' st fuel s le M hat hfu htk hst hF hle he
    match fuel, hfu with
    | fuel + 1, hfu2 =>
      show wp (f_X7_fillB (rfN fuel) y 65 (n2 at') s (n2 st) M) _
      have hL := Lf_lt hk hc (r + 1) at' s htk
      have hr6 : r + 1 ≤ 6 := by omega
      unfold f_X7_fillB
      rw [gK_t (k_65 hy), he]
      by_cases q : st < le
      · refine wp_brt (by rw [n2_lt (by omega) (by omega)]; exact q) (wp_jn (wp_brf (by rw [hF.1.1, n2_le (by omega) (by omega)]; omega) (wp_brt (by rw [show (6 : Int32) = n2 6 from rfl, n2_lt (by omega) (by decide)]; omega) ?_)))
        -- the girls one after another
        refine wp_for k (fun j N => (Eqx [65, 67, 68] M N ∧ (∀ f, ¬ f = 5 → N.1 65 f = M.1 65 f) ∧ ∀ i, i < at' → N.1 67 i = M.1 67 i) ∧ (((∀ g, g < j → ¬ bt s g = 1 → ¬ st + vL k c r at' s g < le) ∧ N.1 65 5 = n2 le ∧ N.1 68 = M.1 68) ∨ (∃ g, g < j ∧ ¬ bt s g = 1 ∧ st + vL k c r at' s g < le ∧ (∀ g', g' < j → ¬ bt s g' = 1 → vL k c r at' s g ≤ vL k c r at' s g') ∧ (∀ g', g' < g → ¬ bt s g' = 1 → vL k c r at' s g < vL k c r at' s g') ∧ N.1 65 5 = n2 (st + vL k c r at' s g) ∧ (∀ i, i < at' → N.1 68 i = M.1 67 i) ∧ N.1 68 at' = n2 g ∧ ∀ i, i < r → N.1 68 (at' + 1 + i) = n2 (Wn k c r (at' + 1) (s ||| bit g) i)))) (by show k < 100000; omega) rfl (Nat.zero_le _) ⟨⟨Eqx.refl _ _, fun _ _ => rfl, fun _ _ => rfl⟩, Or.inl ⟨fun g hg => absurd hg (Nat.not_lt_zero g), he, rfl⟩⟩ ?_ ?_
        · intro f j N hj hI hk2
          obtain ⟨⟨i1, i2, i3⟩, i4⟩ := hI
          have hFN : FS m G w h k sp N := hF.eq i1 (i2 4 (by decide))
          rw [r_65_3 hy, gN_t (by decide), gK_t (k_37 hy), r_37_0 hy, gN_t (by decide), gK_t (k_4 hy), hFN.2.2.1]
          refine wp_brf (by rw [n2_le (by omega) (by omega)]; omega) (wp_jn ?_)
          by_cases hf : bt s j = 1
          · refine wp_brf (by show ¬ bt s j = 0; rw [hf]; decide) (wp_lt ?_)
            rw [n2_s]
            refine hk2 N ⟨⟨i1, i2, i3⟩, ?_⟩
            rcases i4 with ⟨a, b, e⟩ | ⟨g, a, b, e, m1, m2, e5, p1, p2, p3⟩
            · refine Or.inl ⟨fun g hg hfg => ?_, b, e⟩
              by_cases eg : g = j
              · rw [eg] at hfg; exact absurd hf hfg
              · exact a g (by omega) hfg
            · refine Or.inr ⟨g, by omega, b, e, fun g' hg' hfg => ?_, m2, e5, p1, p2, p3⟩
              by_cases eg : g' = j
              · rw [eg] at hfg; exact absurd hf hfg
              · exact m1 g' (by omega) hfg
          · refine wp_brt (bt_0n hf) ?_
            rw [r_65_1 hy, gN_t (by decide), gA_n (k_67 hy) (by omega) (by omega), n2_nat (show at' < 2147483648 by omega)]
            refine wp_lt ?_
            rw [wI_sr]
            have hF1 : FS m G w h k sp (sr N 67 (up (N.1 67) at' (n2 j))) := hFN.eq ((Eqx.refl _ _).sr (by decide)) (by rw [sr_ne (by decide)])
            rw [spotOf_37 hy (show j < 6 by omega), cp_s, hF1.2.2.2 j hj, r_65_0 hy, gN_t (by decide), gA_n (k_66 hy) (by omega) (by omega), hF1.1.2 at' (by omega), stepsBetween_4 hy hF1.2.1 (hsp j) (hG at'), cp_s, n2_s, n2_add]
            have e0 : dist w (sp j) (G at') = c at' j := by rw [← hcc]
            have hcl := hc at' j hj
            rw [e0]
            have htk2 : tkc k (s ||| bit j) + r ≤ k := by rw [tkc_at hk hj hf]; omega
            have hL2 := Lf_lt hk hc r (at' + 1) (s ||| bit j) htk2
            have ev : vL k c r at' s j = c at' j + Lf k c r (at' + 1) (s ||| bit j) := rfl
            -- the least so far
            have hcur : ∃ cur, cur ≤ 1000000 ∧ N.1 65 5 = n2 cur ∧ ((cur = le ∧ (∀ g, g < j → ¬ bt s g = 1 → ¬ st + vL k c r at' s g < le) ∧ N.1 68 = M.1 68) ∨ (∃ g, g < j ∧ ¬ bt s g = 1 ∧ st + vL k c r at' s g < le ∧ (∀ g', g' < j → ¬ bt s g' = 1 → vL k c r at' s g ≤ vL k c r at' s g') ∧ (∀ g', g' < g → ¬ bt s g' = 1 → vL k c r at' s g < vL k c r at' s g') ∧ cur = st + vL k c r at' s g ∧ (∀ i, i < at' → N.1 68 i = M.1 67 i) ∧ N.1 68 at' = n2 g ∧ ∀ i, i < r → N.1 68 (at' + 1 + i) = n2 (Wn k c r (at' + 1) (s ||| bit g) i))) := by
              rcases i4 with ⟨a, b, e⟩ | ⟨g, a, b, e, m1, m2, e5, p⟩
              · exact ⟨le, hle, b, Or.inl ⟨rfl, a, e⟩⟩
              · exact ⟨st + vL k c r at' s g, by omega, e5, Or.inr ⟨g, a, b, e, m1, m2, rfl, p⟩⟩
            obtain ⟨cur, hc1, hc2, hc3⟩ := hcur
            refine wp_c0 _ (ih (at' + 1) (st + c at' j) fuel (s ||| bit j) cur (sr N 67 (up (N.1 67) at' (n2 j))) (by omega) (by omega) htk2 (by omega) hF1 hc1 (by rw [sr_ne (by decide)]; exact hc2)) (fun r' N2 q2 => wp_lt ?_)
            rw [n2_s]
            obtain ⟨⟨x1, x2, x3⟩, x4⟩ := q2
            have x1 : Eqx [65, 67, 68] _ N2 := x1
            refine hk2 N2 ⟨⟨i1.trans (((Eqx.refl _ _).sr (by decide)).trans x1), fun f hf2 => ?_, fun i hi => ?_⟩, ?_⟩
            · rw [x2 f hf2, sr_ne (by decide)]; exact i2 f hf2
            · rw [x3 i (by omega), sr_ap, up_ne (by omega)]; exact i3 i hi
            · rcases x4 with ⟨l1, l2, l3, l4⟩ | ⟨l1, l2, l3⟩
              · -- a better one
                have hlt : st + vL k c r at' s j < cur := by rw [ev]; omega
                have h68 : (∀ i, i < at' → N2.1 68 i = M.1 67 i) ∧ N2.1 68 at' = n2 j := by
                  refine ⟨fun i hi => ?_, ?_⟩
                  · rw [l3 i (by omega), sr_ap, up_ne (by omega)]; exact i3 i hi
                  · rw [l3 at' (by omega), sr_ap, up_eq]
                have e5 : N2.1 65 5 = n2 (st + vL k c r at' s j) := by rw [l2, ev]; congr 1; omega
                rcases hc3 with ⟨rfl, a, e⟩ | ⟨g, a, b, e, m1, m2, rfl, p⟩
                · refine Or.inr ⟨j, by omega, hf, hlt, fun g' hg' hfg => ?_, fun g' hg' hfg => ?_, e5, h68.1, h68.2, l4⟩
                  · by_cases eg : g' = j
                    · rw [eg]; exact Nat.le_refl _
                    · have := a g' (by omega) hfg; omega
                  · have := a g' hg' hfg; omega
                · refine Or.inr ⟨j, by omega, hf, by omega, fun g' hg' hfg => ?_, fun g' hg' hfg => ?_, e5, h68.1, h68.2, l4⟩
                  · by_cases eg : g' = j
                    · rw [eg]; exact Nat.le_refl _
                    · have := m1 g' (by omega) hfg; omega
                  · have := m1 g' hg' hfg; omega
              · have hlt : ¬ st + vL k c r at' s j < cur := by rw [ev]; omega
                have l3 : N2.1 68 = N.1 68 := by rw [l3, sr_ne (by decide)]
                rcases hc3 with ⟨rfl, a, e⟩ | ⟨g, a, b, e, m1, m2, rfl, p1, p2, p3⟩
                · refine Or.inl ⟨fun g hg hfg => ?_, l2, l3.trans e⟩
                  by_cases eg : g = j
                  · rw [eg]; exact hlt
                  · exact a g (by omega) hfg
                · rw [← l3] at p1 p2 p3
                  refine Or.inr ⟨g, by omega, b, e, fun g' hg' hfg => ?_, m2, l2, p1, p2, p3⟩
                  by_cases eg : g' = j
                  · rw [eg]; omega
                  · exact m1 g' (by omega) hfg
        · intro f N hI
          obtain ⟨⟨i1, i2, i3⟩, i4⟩ := hI
          have hFN : FS m G w h k sp N := hF.eq i1 (i2 4 (by decide))
          rw [r_65_3 hy, gN_t (by decide), gK_t (k_37 hy), r_37_0 hy, gN_t (by decide), gK_t (k_4 hy), hFN.2.2.1]
          refine wp_brt (by rw [n2_le (by omega) (by omega)]; exact Nat.le_refl _) (wp_some ⟨⟨i1, i2, i3⟩, ?_⟩)
          obtain ⟨o1, o2, o3, o4⟩ := ownL_sp hk hc (i := at') htk
          rcases i4 with ⟨a, b, e⟩ | ⟨g, a, b, e, m1, m2, e5, p1, p2, p3⟩
          · refine Or.inr ⟨?_, b, e⟩
            have := a _ o1 o2
            rw [o3] at this
            exact this
          · have el : Lf k c (r + 1) at' s = vL k c r at' s g := by
              rw [Lf_s]
              refine mnF_eq a b ?_ m1
              have h2 := Lf_lt hk hc r (at' + 1) (s ||| bit g) (by rw [tkc_at hk a b]; omega)
              have h3 := hc at' g a
              have ev : vL k c r at' s g = c at' g + Lf k c r (at' + 1) (s ||| bit g) := rfl
              omega
            have eo : ownL k c r at' s = g := ownL_at a b el.symm (fun j hj hfj hv => by
              have := m2 j hj hfj
              rw [hv, el] at this
              exact absurd this (Nat.lt_irrefl _))
            refine Or.inl ⟨by rw [el]; exact e, by rw [el]; exact e5, p1, fun j hj => ?_⟩
            cases j with
            | zero =>
              show N.1 68 at' = n2 (ownL k c r at' s)
              rw [eo]; exact p2
            | succ j =>
              show N.1 68 (at' + (j + 1)) = n2 (Wn k c r (at' + 1) (s ||| bit (ownL k c r at' s)) j)
              rw [eo, show at' + (j + 1) = at' + 1 + j by omega]
              exact p3 j (by omega)
      · refine wp_brf (by rw [n2_lt (by omega) (by omega)]; exact q) (wp_some ⟨⟨Eqx.refl _ _, fun _ _ => rfl, fun _ _ => rfl⟩, Or.inr ⟨by omega, he, rfl⟩⟩)
