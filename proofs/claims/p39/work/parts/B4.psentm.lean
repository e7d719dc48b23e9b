/-! ===== the model's table of least steps ===== -/
theorem sh6 : ∀ n : Fin 8, n2 n.val <<< ((6 : Int32) &&& 31) = n2 (64 * n.val) := by decide +kernel
theorem b2p : ∀ k : Fin 7, (1 : Int32) <<< (n2 k.val &&& 31) = n2 (2 ^ k.val) := by decide +kernel
theorem or2p : ∀ s : Fin 64, ∀ g : Fin 6, n2 s.val ||| (1 : Int32) <<< (n2 g.val &&& 31) = n2 (s.val ||| 2 ^ g.val) ∧ s.val ||| 2 ^ g.val < 64 := by decide +kernel
theorem p64 {k s : Nat} (hk : k ≤ 6) (hs : s < 2 ^ k) : s < 64 := Nat.lt_of_lt_of_le hs (Nat.pow_le_pow_right (by decide) hk)
theorem or_lt {k s g : Nat} (hs : s < 2 ^ k) (hg : g < k) : s ||| 2 ^ g < 2 ^ k := Nat.or_lt_two_pow hs (Nat.pow_lt_pow_right (by decide) hg)
def FSm (m : Nat) (G : Nat → Nat) (w h k : Nat) (sp : Nat → Nat) (M : Mem) : Prop := (∀ j, j < m → M.1 96 j = n2 (G j)) ∧ GEO w h (M.1 77 0) (M.1 77 1) ∧ M.1 77 2 = n2 k ∧ ∀ g, g < k → M.1 88 g = n2 (sp g)
/-- a row of the table -/
def RT (k : Nat) (c : Nat → Nat → Nat) (m i : Nat) (M : Mem) : Prop := ∀ s, s < 2 ^ k → M.1 95 (64 * i + s) = n2 (Lf k c (m - i) i (n2 s))
theorem FSm.eq {m : Nat} {G : Nat → Nat} {w h k : Nat} {sp : Nat → Nat} {M N : Mem} (h0 : FSm m G w h k sp M) (e : Eqx [95] M N) : FSm m G w h k sp N := by
  unfold FSm at h0 ⊢
  rw [e.2 96 (by decide), e.2 77 (by decide), e.2 88 (by decide)]
  exact h0
theorem Lf_le (k : Nat) (c : Nat → Nat → Nat) (r i : Nat) (s : Int32) : Lf k c r i s ≤ 100000 := by
  cases r with
  | zero => exact Nat.zero_le _
  | succ r => rw [Lf_s]; exact (mnF_le s (vL k c r i s) 100000 k).1
theorem with_m {y : Lay} (hy : LY y) {m : Nat} {G : Nat → Nat} {w h k : Nat} {sp : Nat → Nat} (hm : m ≤ 6) (hk : k ≤ 6) (hG : ∀ i, G i < 64) (hsp : ∀ g, sp g < 64) {M : Mem} (hF : FSm m G w h k sp M) {i s g : Nat} (hi : i < m) (hs : s < 2 ^ k) (hg : g < k) (hR : RT k (fun i g => dist w (sp g) (G i)) m (i + 1) M) : f_X12_with y 73 (n2 i) (n2 s) (n2 g) M = some (n2 (vL k (fun i g => dist w (sp g) (G i)) (m - (i + 1)) i (n2 s) g)) := by
  have h64 := p64 hk hs
  have e6 := sh6 ⟨i + 1, by omega⟩
  have eo := or2p ⟨s, h64⟩ ⟨g, by omega⟩
  dsimp only at e6 eo
  unfold f_X12_with
  rw [gK_t (k_73 hy), r_73_29 hy, gN_t (by decide), gA_n (k_88 hy) (by omega) (by omega), r_73_45 hy, gN_t (by decide), gA_n (k_96 hy) (by omega) (by omega), n2_nat (by omega), n2_nat (by omega), hF.2.2.2 g hg, hF.1 i hi, farM hy hF.2.1 (hsp g) (hG i), cp_s, r_73_44 hy, gN_t (by decide), n2_s, e6, eo.1, n2_add, gA_n (k_95 hy) (by omega) (by omega), n2_nat (by omega), hR _ (or_lt hs hg), n2_add]
  unfold vL
  rw [show bit g = (1 : Int32) <<< (n2 g &&& 31) from rfl, eo.1]
theorem tellLeast_m {y : Lay} (hy : LY y) {m : Nat} {G : Nat → Nat} {w h k : Nat} {sp : Nat → Nat} (hm : m ≤ 6) (hk : k ≤ 6) (hG : ∀ i, G i < 64) (hsp : ∀ g, sp g < 64) (hw : w ≤ 6) {M : Mem} (hF : FSm m G w h k sp M) : wp (f_X12_tellLeast y 73 (n2 m) M) (fun o => Eqx [95] M o.2 ∧ ∀ i, i ≤ m → RT k (fun i g => dist w (sp g) (G i)) m i o.2) := by
  have hw' : ∀ (M : Mem), FSm m G w h k sp M → ∀ i s g, i < m → s < 2 ^ k → g < k → RT k (fun i g => dist w (sp g) (G i)) m (i + 1) M → f_X12_with y 73 (n2 i) (n2 s) (n2 g) M = some (n2 (vL k (fun i g => dist w (sp g) (G i)) (m - (i + 1)) i (n2 s) g)) := fun M hF i s g a b c d => with_m hy hm hk hG hsp hF a b c d
  have hcb : ∀ i g, dist w (sp g) (G i) < 128 := fun i g => dist_lt (hsp g) (hG i) hw
  generalize hcc : (fun i g => dist w (sp g) (G i)) = c at hw' ⊢
  have hcb : ∀ i g, c i g < 128 := fun i g => by rw [← hcc]; exact hcb i g
  have hF0 : FUEL = 100000 := rfl
  have h2k : 2 ^ k ≤ 64 := Nat.pow_le_pow_right (by decide) hk
  have eb := b2p ⟨k, by omega⟩
  have em := sh6 ⟨m, by omega⟩
  dsimp only at eb em
  have e77 : ∀ N, Eqx [95] M N → N.1 77 (2 : Int32).toNatClampNeg = n2 k := fun N e => (hF.eq e).2.2.1
  unfold f_X12_tellLeast
  rw [gK_t (k_73 hy), r_73_5 hy, gN_t (by decide), gA_t (k_77 hy) (by decide), e77 M (Eqx.refl _ _)]
  refine wp_lt ?_
  rw [eb, r_73_44 hy]
  refine wp_for (2 ^ k) (fun j N => Eqx [95] M N ∧ ∀ s, s < j → N.1 95 (64 * m + s) = 0) (by omega) rfl (Nat.zero_le _) ⟨Eqx.refl _ _, fun s hs => absurd hs (Nat.not_lt_zero s)⟩ ?_ ?_
  · intro f j N hj hI hk2
    refine wp_brf (by rw [n2_le (by omega) (by omega)]; omega) ?_
    rw [gN_t (by decide), em, n2_add, gA_n (k_95 hy) (by omega) (by omega), n2_nat (by omega)]
    refine wp_lt (wp_lt ?_)
    rw [n2_s, wI_sr]
    refine hk2 _ ⟨hI.1.sr (by decide), fun s hs => ?_⟩
    rw [sr_ap]
    by_cases e : s = j
    · rw [e, up_eq]
    · rw [up_ne (by omega)]; exact hI.2 s (by omega)
  · intro f N hI
    refine wp_brt (by rw [n2_le (by omega) (by omega)]; exact Nat.le_refl _) (wp_lt ?_)
    -- from the last goal to the first
    refine wp_fork (κ := Int32 → Mem → Option (Int32 × Mem)) (fun f t s => f (n2 (m - t) - 1) s) (fun t N => Eqx [95] M N ∧ ∀ i, m - t ≤ i → i ≤ m → RT k c m i N) m (by omega) (i0 := 0) (Nat.zero_le _) ⟨hI.1, fun i h1 h2 s hs => ?_⟩ ?_ ?_
    · have ei : i = m := by omega
      rw [ei, hI.2 s hs, Nat.sub_self]
      rfl
    · intro f t N2 ht hJ hk2
      obtain ⟨j1, j2⟩ := hJ
      have et : n2 (m - t) - 1 = n2 (m - (t + 1)) := by
        rw [show (1 : Int32) = n2 1 from rfl, n2_sub (by omega)]
        congr 1
      have e6 := sh6 ⟨m - (t + 1), by omega⟩
      dsimp only at e6
      rw [et]
      refine wp_brf (n2_n0 (by omega)) ?_
      refine wp_for (2 ^ k) (fun j N => Eqx [95] M N ∧ (∀ i, m - t ≤ i → i ≤ m → RT k c m i N) ∧ ∀ s, s < j → N.1 95 (64 * (m - (t + 1)) + s) = n2 (Lf k c (t + 1) (m - (t + 1)) (n2 s))) (by omega) rfl (Nat.zero_le _) ⟨j1, j2, fun s hs => absurd hs (Nat.not_lt_zero s)⟩ ?_ ?_
      · intro f2 j N3 hj hL hk3
        obtain ⟨l1, l2, l3⟩ := hL
        have h64 := p64 hk hj
        refine wp_brf (by rw [n2_le (by omega) (by omega)]; omega) ?_
        have hF3 := hF.eq l1
        -- the girls
        refine wp_for2 k (fun g v => v = n2 (mnF (n2 j) (vL k c t (m - (t + 1)) (n2 j)) 100000 g)) (by omega) (i0 := 0) rfl (Nat.zero_le _) rfl ?_ ?_
        · intro f3 g v hg hv hk4
          rw [gA_t (k_77 hy) (by decide), e77 N3 l1]
          refine wp_brf (by rw [n2_le (by omega) (by omega)]; omega) ?_
          rw [isOf_s, cp_s]
          refine wp_jn ?_
          by_cases q : bt (n2 j) g = 1
          · rw [if_pos q]
            refine wp_brf (by decide) (wp_lt ?_)
            rw [n2_s]
            refine hk4 _ ?_
            rw [mnF_s, if_pos q]; exact hv
          · rw [if_neg q]
            refine wp_brt rfl ?_
            have ew := hw' N3 hF3 (m - (t + 1)) j g (by omega) hj hg (by rw [show m - (t + 1) + 1 = m - t by omega]; exact l2 (m - t) (Nat.le_refl _) (by omega))
            rw [show m - (m - (t + 1) + 1) = t by omega] at ew
            rw [ew, cp_s]
            refine wp_lt (wp_lt ?_)
            have b1 := (mnF_le (n2 j) (vL k c t (m - (t + 1)) (n2 j)) 100000 g).1
            have b2 : vL k c t (m - (t + 1)) (n2 j) g ≤ 100127 := by
              have := Lf_le k c t (m - (t + 1) + 1) (n2 j ||| bit g)
              have := hcb (m - (t + 1)) g
              unfold vL
              omega
            rw [n2_s, hv, jmin_n2 (by omega) (by omega)]
            refine hk4 _ ?_
            rw [mnF_s, if_neg q]
        · intro f3 v hv
          rw [gA_t (k_77 hy) (by decide), e77 N3 l1]
          refine wp_brt (by rw [n2_le (by omega) (by omega)]; exact Nat.le_refl _) ?_
          have b1 := (mnF_le (n2 j) (vL k c t (m - (t + 1)) (n2 j)) 100000 k).1
          rw [gN_t (by decide), e6, n2_add, gA_n (k_95 hy) (by omega) (by omega), n2_nat (by omega), hv, show (100000 : Int32) = n2 100000 from rfl, jmin_n2 (by decide) (by omega), Nat.min_eq_right b1]
          refine wp_lt (wp_lt ?_)
          rw [n2_s, wI_sr]
          refine hk3 _ ⟨l1.sr (by decide), fun i h1 h2 s hs => ?_, fun s hs => ?_⟩
          · have := p64 hk hs
            rw [sr_ap, up_ne (by omega)]; exact l2 i h1 h2 s hs
          · rw [sr_ap]
            by_cases e : s = j
            · rw [e, up_eq, ← Lf_s]
            · have : s < j := by omega
              rw [up_ne (by omega)]; exact l3 s this
      · intro f2 N3 hL
        obtain ⟨l1, l2, l3⟩ := hL
        refine wp_brt (by rw [n2_le (by omega) (by omega)]; exact Nat.le_refl _) (wp_lt ?_)
        rw [am1]
        refine hk2 N3 ⟨l1, fun i h1 h2 s hs => ?_⟩
        by_cases e : i = m - (t + 1)
        · rw [e, l3 s hs, show m - (m - (t + 1)) = t + 1 by omega]
        · exact l2 i (by omega) h2 s hs
    · intro f N2 hJ
      obtain ⟨j1, j2⟩ := hJ
      rw [Nat.sub_self]
      refine wp_brt (by decide) (wp_some ⟨j1, fun i hi => j2 i (by omega) hi⟩)
