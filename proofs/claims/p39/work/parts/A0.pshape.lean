/-! ===== a coast's shape ===== -/
def bbP (w h c : Nat) : Int32 :=
  let b0 := if c < w then 0 else 0 ||| bit (c - w)
  let b1 := if w * h ≤ c + w then b0 else b0 ||| bit (c + w)
  let b2 := if c % w = 0 then b1 else b1 ||| bit (c - 1)
  if w ≤ c % w + 1 then b2 else b2 ||| bit (c + 1)
theorem bbP_all : ∀ w : Fin 7, ∀ h : Fin 6, ∀ c : Fin 30, 1 ≤ w.val → 1 ≤ h.val → c.val < w.val * h.val → bbP w.val h.val c.val = besP w.val (w.val * h.val) c.val := by decide +kernel
theorem bitsBeside_4 {y : Lay} (hy : LY y) {M : Mem} {w h c : Nat} (g : GEO w h (M.1 4 0) (M.1 4 1)) (hc : c < w * h) : f_X1_bitsBeside y 4 (n2 c) M = some (besP w (w * h) c) := by
  have h30 := g.n30
  have g' := g
  obtain ⟨⟨w1, w2⟩, ⟨h1, h2⟩, e0, -⟩ := g'
  rw [← bbP_all ⟨w, by omega⟩ ⟨h, by omega⟩ ⟨c, by omega⟩ w1 h1 hc]
  have hm : c % w < w := Nat.mod_lt _ (by omega)
  have hcw : c % w ≤ c := Nat.mod_le _ _
  refine wp_eq ?_
  unfold f_X1_bitsBeside bbP
  dsimp only
  rw [gK_t (k_4 hy), cells_4 hy g, columnOf_4 hy g (by omega), e0, n2_add]
  -- one bit after another
  have s4 : ∀ b2 : Int32, wp (cp (some (n2 (c % w))) fun (r10 : Int32) => jn (fun (v11 : Int32) => some v11) fun j12 => br ((n2 w - (1 : Int32)) ≤ r10) (j12 b2) (lt (b2 ||| ((1 : Int32) <<< ((n2 c + (1 : Int32)) &&& 31))) fun (v15 : Int32) => j12 v15)) (fun z => z = (if w ≤ c % w + 1 then b2 else b2 ||| bit (c + 1))) := by
    intro b2
    rw [cp_s, show n2 w - (1 : Int32) = n2 (w - 1) from n2_sub w1, n2_s]
    refine wp_jn ?_
    by_cases q : w ≤ c % w + 1
    · rw [if_pos q]
      exact wp_brt (by rw [n2_le (by omega) (by omega)]; omega) (wp_some rfl)
    · rw [if_neg q]
      exact wp_brf (by rw [n2_le (by omega) (by omega)]; omega) (wp_lt (wp_some rfl))
  have s3 : ∀ b1 : Int32, wp (cp (some (n2 (c % w))) fun (r7 : Int32) => jn (fun (v8 : Int32) => cp (some (n2 (c % w))) fun (r10 : Int32) => jn (fun (v11 : Int32) => some v11) fun j12 => br ((n2 w - (1 : Int32)) ≤ r10) (j12 v8) (lt (v8 ||| ((1 : Int32) <<< ((n2 c + (1 : Int32)) &&& 31))) fun (v15 : Int32) => j12 v15)) fun j9 => br (r7 ≤ 0) (j9 b1) (lt (b1 ||| ((1 : Int32) <<< ((n2 c - (1 : Int32)) &&& 31))) fun (v18 : Int32) => j9 v18)) (fun z => z = (if w ≤ c % w + 1 then (if c % w = 0 then b1 else b1 ||| bit (c - 1)) else (if c % w = 0 then b1 else b1 ||| bit (c - 1)) ||| bit (c + 1))) := by
    intro b1
    rw [cp_s]
    refine wp_jn ?_
    by_cases q : c % w = 0
    · rw [if_pos q]
      exact wp_brt (by rw [show (0 : Int32) = n2 0 from rfl, n2_le (by omega) (by decide)]; omega) (s4 b1)
    · rw [if_neg q]
      refine wp_brf (by rw [show (0 : Int32) = n2 0 from rfl, n2_le (by omega) (by decide)]; omega) (wp_lt ?_)
      rw [show n2 c - (1 : Int32) = n2 (c - 1) from n2_sub (show 1 ≤ c by omega)]
      exact s4 (b1 ||| bit (c - 1))
  refine wp_jn ?_
  have s2 : ∀ b0 : Int32, wp (cp (some (n2 (w * h))) fun (r4 : Int32) => jn (fun (v5 : Int32) => cp (some (n2 (c % w))) fun (r7 : Int32) => jn (fun (v8 : Int32) => cp (some (n2 (c % w))) fun (r10 : Int32) => jn (fun (v11 : Int32) => some v11) fun j12 => br ((n2 w - (1 : Int32)) ≤ r10) (j12 v8) (lt (v8 ||| ((1 : Int32) <<< ((n2 c + (1 : Int32)) &&& 31))) fun (v15 : Int32) => j12 v15)) fun j9 => br (r7 ≤ 0) (j9 v5) (lt (v5 ||| ((1 : Int32) <<< ((n2 c - (1 : Int32)) &&& 31))) fun (v18 : Int32) => j9 v18)) fun j6 => br (r4 ≤ (n2 (c + w))) (j6 b0) (lt (b0 ||| ((1 : Int32) <<< ((n2 (c + w)) &&& 31))) fun (v21 : Int32) => j6 v21)) (fun z => z = (if w ≤ c % w + 1 then (if c % w = 0 then (if w * h ≤ c + w then b0 else b0 ||| bit (c + w)) else (if w * h ≤ c + w then b0 else b0 ||| bit (c + w)) ||| bit (c - 1)) else (if c % w = 0 then (if w * h ≤ c + w then b0 else b0 ||| bit (c + w)) else (if w * h ≤ c + w then b0 else b0 ||| bit (c + w)) ||| bit (c - 1)) ||| bit (c + 1))) := by
    intro b0
    rw [cp_s]
    refine wp_jn ?_
    by_cases q : w * h ≤ c + w
    · rw [if_pos q]
      exact wp_brt (by rw [n2_le (by omega) (by omega)]; exact q) (s3 b0)
    · rw [if_neg q]
      exact wp_brf (by rw [n2_le (by omega) (by omega)]; exact q) (wp_lt (s3 (b0 ||| bit (c + w))))
  by_cases q : c < w
  · rw [if_pos q]
    exact wp_brt (by rw [n2_lt (by omega) (by omega)]; exact q) (s2 0)
  · rw [if_neg q]
    refine wp_brf (by rw [n2_lt (by omega) (by omega)]; exact q) (wp_lt ?_)
    rw [show n2 c - n2 w = n2 (c - w) from n2_sub (by omega)]
    exact s2 (0 ||| bit (c - w))
theorem shape_4 {y : Lay} (hy : LY y) {M : Mem} {w h : Nat} (hw : 1 ≤ w ∧ w ≤ 6) (hh : 1 ≤ h ∧ h ≤ 5) : wp (f_X1_shape y 4 (n2 w) (n2 h) M) (fun o => Eqx [4, 5] M o.2 ∧ o.2.1 4 = up (up (M.1 4) 0 (n2 w)) 1 (n2 h) ∧ ∀ c, c < 30 → o.2.1 5 c = if c < w * h then besP w (w * h) c else 0) := by
  unfold f_X1_shape
  rw [gK_t (k_4 hy)]
  refine wp_lt ?_
  rw [wI_sr]
  refine wp_lt ?_
  rw [wI_sr, sr_ap, sr_sr]
  refine wp_for 30 (fun i s => Eqx [4, 5] M s ∧ s.1 4 = up (up (M.1 4) 0 (n2 w)) 1 (n2 h) ∧ ∀ c, c < i → s.1 5 c = if c < w * h then besP w (w * h) c else 0) (by decide) rfl (Nat.zero_le _) ⟨(Eqx.refl _ _).sr (by decide), sr_ap _ _ _, fun c hc => absurd hc (Nat.not_lt_zero c)⟩ ?_ ?_
  · intro f i s hi hI hk
    obtain ⟨i1, i2, i3⟩ := hI
    have g : GEO w h (s.1 4 0) (s.1 4 1) := by
      rw [i2]
      exact ⟨hw, hh, by rw [up_ne (by decide), up_eq], by rw [up_eq]⟩
    have h30 := g.n30
    refine wp_brf (by rw [show (30 : Int32) = n2 30 from rfl, n2_le (by decide) (by omega)]; omega) ?_
    rw [r_4_6 hy, gN_t (by decide), cells_4 hy g, cp_s]
    have fin : ∀ v : Int32, v = (if i < w * h then besP w (w * h) i else 0) → wp (gA y 5 1 (n2 i) (lt (wI s 5 (n2 i).toNatClampNeg v) fun (M15 : Mem) => lt (n2 i + (1 : Int32)) fun (v16 : Int32) => f v16 M15)) (fun o => Eqx [4, 5] M o.2 ∧ o.2.1 4 = up (up (M.1 4) 0 (n2 w)) 1 (n2 h) ∧ ∀ c, c < 30 → o.2.1 5 c = if c < w * h then besP w (w * h) c else 0) := by
      intro v hv
      rw [gA_n (k_5 hy) hi (by omega), n2_nat (by omega)]
      refine wp_lt (wp_lt ?_)
      rw [n2_s, wI_sr]
      refine hk _ ⟨i1.sr (by decide), by rw [sr_ne (by decide)]; exact i2, fun c hc => ?_⟩
      rw [sr_ap]
      by_cases e : c = i
      · rw [e, up_eq, hv]
      · rw [up_ne e]; exact i3 c (by omega)
    refine wp_jn ?_
    by_cases q : i < w * h
    · refine wp_brf (by rw [n2_le (by omega) (by omega)]; omega) ?_
      rw [bitsBeside_4 hy g q, cp_s]
      exact fin _ (if_pos q).symm
    · refine wp_brt (by rw [n2_le (by omega) (by omega)]; omega) ?_
      exact fin _ (if_neg q).symm
  · intro f s hI
    exact wp_brt rfl (wp_some hI)
theorem bitsBeside_13 {y : Lay} (hy : LY y) {M : Mem} {w h c : Nat} (g : GEO w h (M.1 13 0) (M.1 13 1)) (hc : c < w * h) : f_X1_bitsBeside y 13 (n2 c) M = some (besP w (w * h) c) := by
  have h30 := g.n30
  have g' := g
  obtain ⟨⟨w1, w2⟩, ⟨h1, h2⟩, e0, -⟩ := g'
  rw [← bbP_all ⟨w, by omega⟩ ⟨h, by omega⟩ ⟨c, by omega⟩ w1 h1 hc]
  have hm : c % w < w := Nat.mod_lt _ (by omega)
  have hcw : c % w ≤ c := Nat.mod_le _ _
  refine wp_eq ?_
  unfold f_X1_bitsBeside bbP
  dsimp only
  rw [gK_t (k_13 hy), cells_13 hy g, columnOf_13 hy g (by omega), e0, n2_add]
  -- one bit after another
  have s4 : ∀ b2 : Int32, wp (cp (some (n2 (c % w))) fun (r10 : Int32) => jn (fun (v11 : Int32) => some v11) fun j12 => br ((n2 w - (1 : Int32)) ≤ r10) (j12 b2) (lt (b2 ||| ((1 : Int32) <<< ((n2 c + (1 : Int32)) &&& 31))) fun (v15 : Int32) => j12 v15)) (fun z => z = (if w ≤ c % w + 1 then b2 else b2 ||| bit (c + 1))) := by
    intro b2
    rw [cp_s, show n2 w - (1 : Int32) = n2 (w - 1) from n2_sub w1, n2_s]
    refine wp_jn ?_
    by_cases q : w ≤ c % w + 1
    · rw [if_pos q]
      exact wp_brt (by rw [n2_le (by omega) (by omega)]; omega) (wp_some rfl)
    · rw [if_neg q]
      exact wp_brf (by rw [n2_le (by omega) (by omega)]; omega) (wp_lt (wp_some rfl))
  have s3 : ∀ b1 : Int32, wp (cp (some (n2 (c % w))) fun (r7 : Int32) => jn (fun (v8 : Int32) => cp (some (n2 (c % w))) fun (r10 : Int32) => jn (fun (v11 : Int32) => some v11) fun j12 => br ((n2 w - (1 : Int32)) ≤ r10) (j12 v8) (lt (v8 ||| ((1 : Int32) <<< ((n2 c + (1 : Int32)) &&& 31))) fun (v15 : Int32) => j12 v15)) fun j9 => br (r7 ≤ 0) (j9 b1) (lt (b1 ||| ((1 : Int32) <<< ((n2 c - (1 : Int32)) &&& 31))) fun (v18 : Int32) => j9 v18)) (fun z => z = (if w ≤ c % w + 1 then (if c % w = 0 then b1 else b1 ||| bit (c - 1)) else (if c % w = 0 then b1 else b1 ||| bit (c - 1)) ||| bit (c + 1))) := by
    intro b1
    rw [cp_s]
    refine wp_jn ?_
    by_cases q : c % w = 0
    · rw [if_pos q]
      exact wp_brt (by rw [show (0 : Int32) = n2 0 from rfl, n2_le (by omega) (by decide)]; omega) (s4 b1)
    · rw [if_neg q]
      refine wp_brf (by rw [show (0 : Int32) = n2 0 from rfl, n2_le (by omega) (by decide)]; omega) (wp_lt ?_)
      rw [show n2 c - (1 : Int32) = n2 (c - 1) from n2_sub (show 1 ≤ c by omega)]
      exact s4 (b1 ||| bit (c - 1))
  refine wp_jn ?_
  have s2 : ∀ b0 : Int32, wp (cp (some (n2 (w * h))) fun (r4 : Int32) => jn (fun (v5 : Int32) => cp (some (n2 (c % w))) fun (r7 : Int32) => jn (fun (v8 : Int32) => cp (some (n2 (c % w))) fun (r10 : Int32) => jn (fun (v11 : Int32) => some v11) fun j12 => br ((n2 w - (1 : Int32)) ≤ r10) (j12 v8) (lt (v8 ||| ((1 : Int32) <<< ((n2 c + (1 : Int32)) &&& 31))) fun (v15 : Int32) => j12 v15)) fun j9 => br (r7 ≤ 0) (j9 v5) (lt (v5 ||| ((1 : Int32) <<< ((n2 c - (1 : Int32)) &&& 31))) fun (v18 : Int32) => j9 v18)) fun j6 => br (r4 ≤ (n2 (c + w))) (j6 b0) (lt (b0 ||| ((1 : Int32) <<< ((n2 (c + w)) &&& 31))) fun (v21 : Int32) => j6 v21)) (fun z => z = (if w ≤ c % w + 1 then (if c % w = 0 then (if w * h ≤ c + w then b0 else b0 ||| bit (c + w)) else (if w * h ≤ c + w then b0 else b0 ||| bit (c + w)) ||| bit (c - 1)) else (if c % w = 0 then (if w * h ≤ c + w then b0 else b0 ||| bit (c + w)) else (if w * h ≤ c + w then b0 else b0 ||| bit (c + w)) ||| bit (c - 1)) ||| bit (c + 1))) := by
    intro b0
    rw [cp_s]
    refine wp_jn ?_
    by_cases q : w * h ≤ c + w
    · rw [if_pos q]
      exact wp_brt (by rw [n2_le (by omega) (by omega)]; exact q) (s3 b0)
    · rw [if_neg q]
      exact wp_brf (by rw [n2_le (by omega) (by omega)]; exact q) (wp_lt (s3 (b0 ||| bit (c + w))))
  by_cases q : c < w
  · rw [if_pos q]
    exact wp_brt (by rw [n2_lt (by omega) (by omega)]; exact q) (s2 0)
  · rw [if_neg q]
    refine wp_brf (by rw [n2_lt (by omega) (by omega)]; exact q) (wp_lt ?_)
    rw [show n2 c - n2 w = n2 (c - w) from n2_sub (by omega)]
    exact s2 (0 ||| bit (c - w))
theorem shape_13 {y : Lay} (hy : LY y) {M : Mem} {w h : Nat} (hw : 1 ≤ w ∧ w ≤ 6) (hh : 1 ≤ h ∧ h ≤ 5) : wp (f_X1_shape y 13 (n2 w) (n2 h) M) (fun o => Eqx [13, 14] M o.2 ∧ o.2.1 13 = up (up (M.1 13) 0 (n2 w)) 1 (n2 h) ∧ ∀ c, c < 30 → o.2.1 14 c = if c < w * h then besP w (w * h) c else 0) := by
  unfold f_X1_shape
  rw [gK_t (k_13 hy)]
  refine wp_lt ?_
  rw [wI_sr]
  refine wp_lt ?_
  rw [wI_sr, sr_ap, sr_sr]
  refine wp_for 30 (fun i s => Eqx [13, 14] M s ∧ s.1 13 = up (up (M.1 13) 0 (n2 w)) 1 (n2 h) ∧ ∀ c, c < i → s.1 14 c = if c < w * h then besP w (w * h) c else 0) (by decide) rfl (Nat.zero_le _) ⟨(Eqx.refl _ _).sr (by decide), sr_ap _ _ _, fun c hc => absurd hc (Nat.not_lt_zero c)⟩ ?_ ?_
  · intro f i s hi hI hk
    obtain ⟨i1, i2, i3⟩ := hI
    have g : GEO w h (s.1 13 0) (s.1 13 1) := by
      rw [i2]
      exact ⟨hw, hh, by rw [up_ne (by decide), up_eq], by rw [up_eq]⟩
    have h30 := g.n30
    refine wp_brf (by rw [show (30 : Int32) = n2 30 from rfl, n2_le (by decide) (by omega)]; omega) ?_
    rw [r_13_6 hy, gN_t (by decide), cells_13 hy g, cp_s]
    have fin : ∀ v : Int32, v = (if i < w * h then besP w (w * h) i else 0) → wp (gA y 14 1 (n2 i) (lt (wI s 14 (n2 i).toNatClampNeg v) fun (M15 : Mem) => lt (n2 i + (1 : Int32)) fun (v16 : Int32) => f v16 M15)) (fun o => Eqx [13, 14] M o.2 ∧ o.2.1 13 = up (up (M.1 13) 0 (n2 w)) 1 (n2 h) ∧ ∀ c, c < 30 → o.2.1 14 c = if c < w * h then besP w (w * h) c else 0) := by
      intro v hv
      rw [gA_n (k_14 hy) hi (by omega), n2_nat (by omega)]
      refine wp_lt (wp_lt ?_)
      rw [n2_s, wI_sr]
      refine hk _ ⟨i1.sr (by decide), by rw [sr_ne (by decide)]; exact i2, fun c hc => ?_⟩
      rw [sr_ap]
      by_cases e : c = i
      · rw [e, up_eq, hv]
      · rw [up_ne e]; exact i3 c (by omega)
    refine wp_jn ?_
    by_cases q : i < w * h
    · refine wp_brf (by rw [n2_le (by omega) (by omega)]; omega) ?_
      rw [bitsBeside_13 hy g q, cp_s]
      exact fin _ (if_pos q).symm
    · refine wp_brt (by rw [n2_le (by omega) (by omega)]; omega) ?_
      exact fin _ (if_neg q).symm
  · intro f s hI
    exact wp_brt rfl (wp_some hI)
