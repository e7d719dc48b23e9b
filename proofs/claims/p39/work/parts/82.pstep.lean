/-! ===== the model steps on ===== -/
def G73 (M N : Mem) : Prop := Eqx [73] M N ∧ ∀ f, f < 16 ∨ f = 17 ∨ 22 ≤ f → N.1 73 f = M.1 73 f
theorem G73.refl (M : Mem) : G73 M M := ⟨Eqx.refl _ _, fun _ _ => rfl⟩
theorem G73.trans {M N L : Mem} (h : G73 M N) (g : G73 N L) : G73 M L := ⟨h.1.trans g.1, fun f hf => (g.2 f hf).trans (h.2 f hf)⟩
theorem G73.up {M N : Mem} (h : G73 M N) {k : Nat} {x : Int32} (hk : k = 16 ∨ k = 18 ∨ k = 19 ∨ k = 20 ∨ k = 21) : G73 M (sr N 73 (up (N.1 73) k x)) := ⟨h.1.sr (by decide), fun f hf => by rw [sr_ap, up_ne (by omega)]; exact h.2 f hf⟩
theorem TXM.g73 {T : Tx} {M N : Mem} (h : TXM T M) (g : G73 M N) : TXM T N := by
  unfold TXM at h ⊢
  rw [g.1.2 86 (by decide), g.2 17 (by omega)]
  exact h
theorem n2_n1 {v : Nat} (h : v < 256) : ¬ n2 v = -1 := by rw [i_eq, n2_int (by omega)]; show ¬ (v : Int) = -1; omega
theorem isBk_iff {v : Nat} : isBk v = true ↔ v = 32 ∨ v = 10 := by unfold isBk; simp
theorem jmin_n2 {a b : Nat} (ha : a < 2147483648) (hb : b < 2147483648) : jmin (n2 a) (n2 b) = n2 (min a b) := by
  unfold jmin
  by_cases q : a ≤ b
  · rw [Nat.min_eq_left q]
    first
      | rw [if_pos ((n2_le ha hb).mpr q)]
      | (by_cases e : a = b
         · subst e; simp
         · rw [if_neg (by rw [n2_lt hb ha]; omega)])
  · rw [Nat.min_eq_right (by omega)]
    first
      | rw [if_neg (by rw [n2_le ha hb]; exact q)]
      | rw [if_pos (by rw [n2_lt hb ha]; omega)]
theorem stepOn_m {y : Lay} (hy : LY y) {T : Tx} (hT : TOK T) {N : Mem} (h : TXM T N) {p : Nat} (hp : p ≤ T.2) (h16 : N.1 73 16 = n2 p) : wp (f_X12_stepOn y 73 N) (fun o => TM T o.2 p ∧ G73 N o.2) := by
  unfold f_X12_stepOn
  have h7 := hT.1
  have hF : FUEL = 100000 := rfl
  refine wp_fixn (fun i s => p ≤ i ∧ (G73 N s ∧ s.1 73 16 = n2 i) ∧ ∀ k, p ≤ k → k < i → inT T isBk k = true) T.2 (by omega) hp ⟨Nat.le_refl p, ⟨G73.refl N, h16⟩, fun k a b => by omega⟩ ?_
  intro f j s j2 hI hk
  obtain ⟨j1, ⟨j3, j4⟩, j5⟩ := hI
  have hs : TXM T s := h.g73 j3
  rw [gK_t (k_73 hy), j4, byteAt_m hy hT hs (by omega), cp_s]
  have nxt : inT T isBk j = true → wp (lt (wI s 73 16 (n2 j + 1)) f) (fun o => TM T o.2 p ∧ G73 N o.2) := by
    intro hb
    refine wp_lt ?_
    rw [wI_sr, n2_s]
    have q := (inT_iff.mp hb).1
    refine hk _ q ⟨by omega, ⟨j3.up (by omega), by rw [sr_ap, up_eq]⟩, fun k a b => ?_⟩
    by_cases ek : k = j
    · rw [ek]; exact hb
    · exact j5 k a (by omega)
  refine wp_jn ?_
  by_cases q : j < T.2
  · have hv := hT.2 j q
    rw [if_pos q]
    by_cases qb : isBk (T.1 j) = true
    · have hb : inT T isBk j = true := inT_iff.mpr ⟨q, qb⟩
      by_cases q32 : T.1 j = 32
      · exact wp_brt (by rw [q32]; rfl) (nxt hb)
      · refine wp_brf (by rw [show (32 : Int32) = n2 32 from rfl, n2_inj (by omega) (by decide)]; exact q32) ?_
        rw [cp_s]
        refine wp_brt ?_ (nxt hb)
        rw [(isBk_iff.mp qb).resolve_left q32]
        rfl
    · have nb : ¬ inT T isBk j = true := fun w => qb (inT_iff.mp w).2
      have ejs : tS T p = j := rn_at nb j1 (by omega) j5
      obtain ⟨kt1, kt2, kt3, -⟩ := tKE (T := T) (p := p)
      rw [ejs] at kt1 kt2 kt3
      refine wp_brf (by rw [show (32 : Int32) = n2 32 from rfl, n2_inj (by omega) (by decide)]; exact fun w => qb (isBk_iff.mpr (Or.inl w))) ?_
      rw [cp_s]
      refine wp_brf (by rw [show (10 : Int32) = n2 10 from rfl, n2_inj (by omega) (by decide)]; exact fun w => qb (isBk_iff.mpr (Or.inr w))) ?_
      refine wp_lt ?_
      rw [wI_sr]
      have g8 : G73 N (sr s 73 (up (s.1 73) 20 (n2 j))) := j3.up (by omega)
      have a16 : (sr s 73 (up (s.1 73) 20 (n2 j))).1 73 16 = n2 j := by rw [sr_ap, up_ne (by decide), j4]
      have a20 : (sr s 73 (up (s.1 73) 20 (n2 j))).1 73 20 = n2 j := by rw [sr_ap, up_eq]
      generalize sr s 73 (up (s.1 73) 20 (n2 j)) = M8 at g8 a16 a20
      have h8 : TXM T M8 := h.g73 g8
      rw [a16, byteAt_m hy hT h8 (by omega), if_pos q, cp_s]
      refine wp_jn ?_
      refine wp_brf (n2_n1 hv) ?_
      rw [isLt_m hv, cp_s]
      by_cases ql : isLt (T.1 j) = true
      · refine wp_brf (by rw [b01_0]; exact fun z => z ql) ?_
        obtain ⟨k1, k2⟩ := kt1 q ql
        refine wp_fixn (fun i z => j ≤ i ∧ (G73 N z ∧ z.1 73 20 = n2 j ∧ z.1 73 16 = n2 i) ∧ ∀ k, j ≤ k → k < i → inT T isLt k = true) T.2 (by omega) j2 ⟨Nat.le_refl j, ⟨g8, a20, a16⟩, fun k a b => by omega⟩ ?_
        intro f2 i z i2 hJ hk2
        obtain ⟨i1, ⟨i3, i4, i5⟩, i7⟩ := hJ
        have hz : TXM T z := h.g73 i3
        have fin : ¬ inT T isLt i = true → TM T (sr (sr z 73 (up (z.1 73) 18 1)) 73 (up ((sr z 73 (up (z.1 73) 18 1)).1 73) 21 (n2 i))) p ∧ G73 N (sr (sr z 73 (up (z.1 73) 18 1)) 73 (up ((sr z 73 (up (z.1 73) 18 1)).1 73) 21 (n2 i))) := fun hb2 => by
          have ei : rn (inT T isLt) j = i := rn_at hb2 i1 (by omega) i7
          have g9 := (i3.up (k := 18) (x := 1) (by omega)).up (k := 21) (x := n2 i) (by omega)
          refine ⟨⟨h.g73 g9, hp, ⟨?_, ?_, ?_⟩, ?_, fun w => ?_⟩, g9⟩
          · rw [ejs, sr_ap, up_ne (by decide), sr_ap, up_ne (by decide), i4]
          · rw [k2, ei, sr_ap, up_eq]
          · rw [k2, ei, sr_ap, up_ne (by decide), sr_ap, up_ne (by decide), i5]
          · unfold kMd; rw [k1, if_neg (by decide), if_pos rfl, sr_ap, up_ne (by decide), sr_ap, up_eq]
          · rw [k1] at w; exact absurd w (by decide)
        rw [i5, byteAt_m hy hT hz (by omega), cp_s]
        by_cases qi : i < T.2
        · rw [if_pos qi, isLt_m (hT.2 i qi), cp_s]
          by_cases ql2 : isLt (T.1 i) = true
          · refine wp_brf (by rw [b01_0]; exact fun w => w ql2) (wp_lt ?_)
            rw [wI_sr, n2_s]
            refine hk2 _ qi ⟨by omega, ⟨i3.up (by omega), ?_, ?_⟩, fun k a b => ?_⟩
            · rw [sr_ap, up_ne (by decide), i4]
            · rw [sr_ap, up_eq]
            · by_cases ek : k = i
              · rw [ek, inT_iff]; exact ⟨qi, ql2⟩
              · exact i7 k a (by omega)
          · refine wp_brt (by rw [b01_0]; exact ql2) (wp_lt (wp_lt ?_))
            rw [wI_sr, wI_sr, sr_ap, up_ne (show ¬ 16 = 18 by decide), i5]
            have g := fin (fun w => ql2 (inT_iff.mp w).2)
            rw [sr_ap] at g
            exact wp_some g
        · rw [if_neg qi, isLt_e, cp_s]
          refine wp_brt rfl (wp_lt (wp_lt ?_))
          rw [wI_sr, wI_sr, sr_ap, up_ne (show ¬ 16 = 18 by decide), i5]
          have g := fin (inT_no (by omega))
          rw [sr_ap] at g
          exact wp_some g
      · refine wp_brt (by rw [b01_0]; exact ql) ?_
        rw [isDg_m hv, cp_s]
        by_cases qd : isDg (T.1 j) = true
        · refine wp_brf (by rw [b01_0]; exact fun z => z qd) (wp_lt ?_)
          obtain ⟨k1, k2⟩ := kt2 q ql qd
          rw [wI_sr]
          refine wp_fixn (fun i z => j ≤ i ∧ (G73 N z ∧ z.1 73 20 = n2 j ∧ z.1 73 16 = n2 i ∧ ∃ v, v ≤ 100000 ∧ z.1 73 19 = n2 v ∧ (i - j ≤ 4 → v = vlD T j (i - j))) ∧ ∀ k, j ≤ k → k < i → inT T isDg k = true) T.2 (by omega) j2 ⟨Nat.le_refl j, ⟨g8.up (by omega), by rw [sr_ap, up_ne (by decide), a20], by rw [sr_ap, up_ne (by decide), a16], 0, by decide, by rw [sr_ap, up_eq]; rfl, fun _ => by rw [Nat.sub_self]; rfl⟩, fun k a b => by omega⟩ ?_
          intro f2 i z i2 hJ hk2
          obtain ⟨i1, ⟨i3, i4, i5, v, v1, v2, v3⟩, i7⟩ := hJ
          have hz : TXM T z := h.g73 i3
          have fin : ¬ inT T isDg i = true → TM T (sr (sr z 73 (up (z.1 73) 18 2)) 73 (up ((sr z 73 (up (z.1 73) 18 2)).1 73) 21 (n2 i))) p ∧ G73 N (sr (sr z 73 (up (z.1 73) 18 2)) 73 (up ((sr z 73 (up (z.1 73) 18 2)).1 73) 21 (n2 i))) := fun hb2 => by
            have ei : rn (inT T isDg) j = i := rn_at hb2 i1 (by omega) i7
            have g9 := (i3.up (k := 18) (x := 2) (by omega)).up (k := 21) (x := n2 i) (by omega)
            refine ⟨⟨h.g73 g9, hp, ⟨?_, ?_, ?_⟩, ?_, fun w w4 => ?_⟩, g9⟩
            · rw [ejs, sr_ap, up_ne (by decide), sr_ap, up_ne (by decide), i4]
            · rw [k2, ei, sr_ap, up_eq]
            · rw [k2, ei, sr_ap, up_ne (by decide), sr_ap, up_ne (by decide), i5]
            · unfold kMd; rw [k1, if_neg (by decide), if_neg (by decide), if_pos rfl, sr_ap, up_ne (by decide), sr_ap, up_eq]
            · rw [k2, ei, ejs] at w4
              unfold tV
              rw [k2, ei, ejs, sr_ap, up_ne (by decide), sr_ap, up_ne (by decide), v2, v3 w4]
          rw [i5, byteAt_m hy hT hz (by omega), cp_s, cp_s]
          by_cases qi : i < T.2
          · rw [if_pos qi, isDg_m (hT.2 i qi), cp_s]
            by_cases qd2 : isDg (T.1 i) = true
            · have d4 := isDg_48 qd2
              refine wp_brf (by rw [b01_0]; exact fun w => w qd2) (wp_lt (wp_lt ?_))
              rw [v2, dgstep d4.1, show (100000 : Int32) = n2 100000 from rfl, jmin_n2 (by decide) (by omega), wI_sr, wI_sr, sr_ap, up_ne (show ¬ 16 = 19 by decide), i5, n2_s]
              have g9 := (i3.up (k := 19) (x := n2 (min 100000 (10 * v + (T.1 i - 48)))) (by omega)).up (k := 16) (x := n2 (i + 1)) (by omega)
              rw [sr_ap] at g9
              refine hk2 _ qi ⟨by omega, ⟨g9, ?_, ?_, min 100000 (10 * v + (T.1 i - 48)), by omega, ?_, fun w => ?_⟩, fun k a b => ?_⟩
              · rw [sr_ap, up_ne (by decide), up_ne (by decide), i4]
              · rw [sr_ap, up_eq]
              · rw [sr_ap, up_ne (by decide), up_eq]
              · have e1 : v = vlD T j (i - j) := v3 (by omega)
                have e2 := vl_lt (T := T) (s := j) (i - j) (fun k hk => (inT_iff.mp (i7 (j + k) (by omega) (by omega))).2)
                have e3 : (10 : Nat) ^ (i - j) ≤ 10 ^ 3 := Nat.pow_le_pow_right (by decide) (by omega)
                rw [← e1] at e2
                have e4 : (10 : Nat) ^ 3 = 1000 := by decide
                rw [show i + 1 - j = (i - j) + 1 by omega, vlD_s, ← e1, show j + (i - j) = i by omega]
                omega
              · by_cases ek : k = i
                · rw [ek, inT_iff]; exact ⟨qi, qd2⟩
                · exact i7 k a (by omega)
            · refine wp_brt (by rw [b01_0]; exact qd2) (wp_lt (wp_lt ?_))
              rw [wI_sr, wI_sr, sr_ap, up_ne (show ¬ 16 = 18 by decide), i5]
              have g := fin (fun w => qd2 (inT_iff.mp w).2)
              rw [sr_ap] at g
              exact wp_some g
          · rw [if_neg qi, isDg_e, cp_s]
            refine wp_brt rfl (wp_lt (wp_lt ?_))
            rw [wI_sr, wI_sr, sr_ap, up_ne (show ¬ 16 = 18 by decide), i5]
            have g := fin (inT_no (by omega))
            rw [sr_ap] at g
            exact wp_some g
        · refine wp_brt (by rw [b01_0]; exact qd) ?_
          obtain ⟨k1, k2⟩ := kt3 q ql qd
          refine wp_lt ?_
          rw [wI_sr, n2_s, isMk_m hv, cp_s]
          have key : ∀ v : Int32, v = kMd T p → wp (lt (wI (sr M8 73 (up (M8.1 73) 16 (n2 (j + 1)))) 73 18 v) (fun (M30 : Mem) => lt (wI M30 73 21 (M30.1 73 16)) fun (M17 : Mem) => some ((0 : Int32), M17))) (fun o => TM T o.2 p ∧ G73 N o.2) := by
            intro v hv2
            refine wp_lt (wp_lt ?_)
            rw [wI_sr, wI_sr, sr_ap, sr_ap, up_ne (show ¬ 16 = 18 by decide), up_eq]
            have g9 := ((g8.up (k := 16) (x := n2 (j + 1)) (by omega)).up (k := 18) (x := v) (by omega)).up (k := 21) (x := n2 (j + 1)) (by omega)
            rw [sr_ap, sr_ap] at g9
            refine wp_some ⟨⟨h.g73 g9, hp, ⟨?_, ?_, ?_⟩, ?_, fun w => ?_⟩, g9⟩
            · rw [ejs, sr_ap, up_ne (by decide), up_ne (by decide), up_ne (by decide), a20]
            · rw [k2, sr_ap, up_eq]
            · rw [k2, sr_ap, up_ne (by decide), up_ne (by decide), up_eq]
            · rw [← hv2, sr_ap, up_ne (by decide), up_eq]
            · rw [k1] at w; exact absurd w (by decide)
          refine wp_jn ?_
          by_cases qm : isMk (T.1 j) = true
          · refine wp_brf (by rw [b01_0]; exact fun z => z qm) (key _ ?_)
            unfold kMd
            rw [k1, if_neg (by decide), if_neg (by decide), if_neg (by decide), ejs, if_pos qm]
          · refine wp_brt (by rw [b01_0]; exact qm) (key _ ?_)
            unfold kMd
            rw [k1, if_neg (by decide), if_neg (by decide), if_neg (by decide), ejs, if_neg qm]
  · have nb : ¬ inT T isBk j = true := inT_no (by omega)
    have ejs : tS T p = j := rn_at nb j1 (by omega) j5
    obtain ⟨-, -, -, kt4⟩ := tKE (T := T) (p := p)
    rw [ejs] at kt4
    obtain ⟨k1, k2⟩ := kt4 q
    rw [if_neg q]
    refine wp_brf (by decide) ?_
    rw [cp_s]
    refine wp_brf (by decide) (wp_lt ?_)
    rw [wI_sr]
    have g8 : G73 N (sr s 73 (up (s.1 73) 20 (n2 j))) := j3.up (by omega)
    have a16 : (sr s 73 (up (s.1 73) 20 (n2 j))).1 73 16 = n2 j := by rw [sr_ap, up_ne (by decide), j4]
    have a20 : (sr s 73 (up (s.1 73) 20 (n2 j))).1 73 20 = n2 j := by rw [sr_ap, up_eq]
    generalize sr s 73 (up (s.1 73) 20 (n2 j)) = M8 at g8 a16 a20
    have h8 : TXM T M8 := h.g73 g8
    rw [a16, byteAt_m hy hT h8 (by omega), if_neg q, cp_s]
    refine wp_jn (wp_brt rfl (wp_lt (wp_lt ?_)))
    rw [wI_sr, wI_sr, sr_ap, up_ne (show ¬ 16 = 18 by decide), a16]
    have g9 := (g8.up (k := 18) (x := 0) (by omega)).up (k := 21) (x := n2 j) (by omega)
    rw [sr_ap] at g9
    refine wp_some ⟨⟨h.g73 g9, hp, ⟨?_, ?_, ?_⟩, ?_, fun w => ?_⟩, g9⟩
    · rw [ejs, sr_ap, up_ne (by decide), up_ne (by decide), a20]
    · rw [k2, sr_ap, up_eq]
    · rw [k2, sr_ap, up_ne (by decide), up_ne (by decide), a16]
    · unfold kMd
      rw [k1, if_pos rfl, sr_ap, up_ne (by decide), up_eq]
    · rw [k1] at w; exact absurd w (by decide)
