/-! ===== game ===== -/
theorem wp_lt {α β : Type} {e : α} {k : α → Option β} {Q : β → Prop} (h : wp (k e) Q) : wp (lt e k) Q := h
theorem wp_jn {κ β : Type} {K : κ} {b : κ → Option β} {Q : β → Prop} (h : wp (b K) Q) : wp (jn K b) Q := h
def gmR (rs : Int32) (g o a b : Nat) : Int32 := ((rs &&& ((bit g ||| bit o) ^^^ -1)) ||| (if a = 1 then 0 else bit g)) ||| (if b = 1 then 0 else bit o)
def gmS (K : KG) (S : Sk) (g o a b : Nat) : Sk := pDay K (rsS S (gmR (sRs S) g o a b))
def gG (K : KG) (S : Sk) (g o a b : Nat) : Int32 := (sB (gmS K S g o a b) (sSp S g).toNatClampNeg - 10 * bcJ (sOv (gmS K S g o a b))) - 2 * n2 a
def gO (K : KG) (S : Sk) (g o a b : Nat) : Int32 := (sB (gmS K S g o a b) (sSp S o).toNatClampNeg - 10 * bcJ (sOv (gmS K S g o a b))) - 2 * n2 b
def gmT (K : KG) (S : Sk) (g o a b : Nat) : Prop := ¬ gG K S g o a b < gG K S g o (1 - a) b ∧ ¬ gO K S g o a b < gO K S g o a (1 - b)
noncomputable def gmF (K : KG) (S : Sk) (g o : Nat) : Nat → Int32 × Int32 → Int32 × Int32 := fun c q => if (¬ gG K S g o (c / 2) (c % 2) < gG K S g o (1 - c / 2) (c % 2)) ∧ ¬ gO K S g o (c / 2) (c % 2) < gO K S g o (c / 2) (1 - c % 2) then (q.1 + 1, if q.2 = -1 then 10 * n2 (c / 2) + n2 (c % 2) else q.2) else q
noncomputable def gmQ (K : KG) (S : Sk) (g o n : Nat) : Int32 × Int32 := it (gmF K S g o) (0, -1) n
noncomputable def gamP (A : St) (g o w : Int32) : Nat × Int32 := if (inN (kg (aK A)) g ∧ inN (kg (aK A)) o) ∧ inR 0 1 w then (if g = o then (2, 0) else (0, if w = 0 then (gmQ (aK A) (aS A) g.toInt.toNat o.toInt.toNat 4).1 else (gmQ (aK A) (aS A) g.toInt.toNat o.toInt.toNat 4).2)) else (1, 0)
/-- the class's resting -/
theorem gm_rs {rs : Int32} {g o a b : Nat} (hg : g < 32) (ho : o < 32) (hgo : ¬ g = o) : (if b = 0 then ((if a = 0 then rs ||| bit g else rs &&& (bit g ^^^ -1)) ||| bit o) else ((if a = 0 then rs ||| bit g else rs &&& (bit g ^^^ -1)) &&& (bit o ^^^ -1))) = gmR rs g o (if a = 0 then 0 else 1) (if b = 0 then 0 else 1) := by
  refine bt_ext (fun i hi => ?_)
  unfold gmR
  by_cases ha : a = 0
  · by_cases hb : b = 0
    · simp only [if_pos ha, if_pos hb, if_neg (show ¬ (0 : Nat) = 1 by decide)]
      rw [bt_or hi, bt_or hi, bt_or hi, bt_or hi, bt_and hi, not_bt hi, bt_or hi, bt_b hg hi, bt_b ho hi]
      constructor
      · intro h
        rcases h with (h | h) | h
        · by_cases e1 : i = g
          · exact Or.inl (Or.inr e1)
          · by_cases e2 : i = o
            · exact Or.inr e2
            · exact Or.inl (Or.inl ⟨h, fun z => by rcases z with z | z; exact e1 z; exact e2 z⟩)
        · exact Or.inl (Or.inr h)
        · exact Or.inr h
      · intro h
        rcases h with (h | h) | h
        · exact Or.inl (Or.inl h.1)
        · exact Or.inl (Or.inr h)
        · exact Or.inr h
    · simp only [if_pos ha, if_neg hb, if_neg (show ¬ (0 : Nat) = 1 by decide), if_pos (show (1 : Nat) = 1 from rfl)]
      rw [bt_and hi, not_bt hi, bt_or hi, bt_or hi, bt_or hi, bt_and hi, not_bt hi, bt_or hi, bt_b hg hi, bt_b ho hi]
      constructor
      · intro ⟨h, h2⟩
        rcases h with h | h
        · by_cases e1 : i = g
          · exact Or.inl (Or.inr e1)
          · exact Or.inl (Or.inl ⟨h, fun z => by rcases z with z | z; exact e1 z; exact h2 z⟩)
        · exact Or.inl (Or.inr h)
      · intro h
        rcases h with (h | h) | h
        · exact ⟨Or.inl h.1, fun z => h.2 (Or.inr z)⟩
        · exact ⟨Or.inr h, fun z => hgo (h.symm.trans z)⟩
        · exact absurd h (bt_0 hi)
  · by_cases hb : b = 0
    · simp only [if_neg ha, if_pos hb, if_neg (show ¬ (0 : Nat) = 1 by decide), if_pos (show (1 : Nat) = 1 from rfl)]
      rw [bt_or hi, bt_and hi, not_bt hi, bt_or hi, bt_or hi, bt_and hi, not_bt hi, bt_or hi, bt_b hg hi, bt_b ho hi]
      constructor
      · intro h
        rcases h with h | h
        · by_cases e2 : i = o
          · exact Or.inr e2
          · exact Or.inl (Or.inl ⟨h.1, fun z => by rcases z with z | z; exact h.2 z; exact e2 z⟩)
        · exact Or.inr h
      · intro h
        rcases h with (h | h) | h
        · exact Or.inl ⟨h.1, fun z => h.2 (Or.inl z)⟩
        · exact absurd h (bt_0 hi)
        · exact Or.inr h
    · simp only [if_neg ha, if_neg hb, if_pos (show (1 : Nat) = 1 from rfl)]
      rw [bt_and hi, bt_and hi, not_bt hi, not_bt hi, bt_or hi, bt_or hi, bt_and hi, not_bt hi, bt_or hi, bt_b hg hi, bt_b ho hi]
      constructor
      · intro ⟨⟨h, h2⟩, h3⟩
        exact Or.inl (Or.inl ⟨h, fun z => by rcases z with z | z; exact h2 z; exact h3 z⟩)
      · intro h
        rcases h with (h | h) | h
        · exact ⟨⟨h.1, fun z => h.2 (Or.inl z)⟩, fun z => h.2 (Or.inr z)⟩
        · exact absurd h (bt_0 hi)
        · exact absurd h (bt_0 hi)
theorem setResting_58 {y : Lay} (hy : LY y) {M : Mem} (g : Nat) (b : Int32) : f_X8_setResting y 58 (n2 g) b M = some (0, sr M 58 (up (M.1 58) 8 (if b = 0 then M.1 58 8 &&& (bit g ^^^ -1) else M.1 58 8 ||| bit g))) := by
  unfold f_X8_setResting
  simp only [lT_s, jn_s, c0_s, cp_s, cx_s, cx_t, gK_t (k_58 hy), gN_t (r := 58) (by decide), r_58_0 hy, r_58_1 hy, r_58_2 hy, r_58_3 hy, r_58_4 hy, r_58_5 hy, r_58_6 hy, wI_sr]
  by_cases q : b = 0
  · rw [bR_t q, if_pos q]; rfl
  · rw [bR_f q, if_neg q]; rfl
theorem CR.gains {A : St} {M : Mem} (h : CR A M) (r : Row) : CR A (sr M 72 r) := by
  obtain ⟨h1, h2, h3, h4, h5, h6⟩ := h
  exact ⟨h1, h2, h3, h4, h5, h6⟩
theorem lt2 {v : Nat} (h : v < 2) : v = 0 ∨ v = 1 := by omega
/-- one play of the class -/
theorem play_c {y : Lay} (hy : LY y) {A : St} {M : Mem} (h : CR A M) (v : VAL A) {g o : Nat} (hg : g < 6) (ho : o < 6) (hgo : ¬ g = o) {a b : Nat} (ha2 : a < 2) (hb2 : b < 2) {β : Type} {k : Mem → Option β} {Q : β → Prop} (hk : ∀ N, CR A N → kM M N → N.1 72 = M.1 72 → skV N 58 59 62 63 = gmS (aK A) (aS A) g o (if a = 0 then 0 else 1) (if b = 0 then 0 else 1) → wp (k N) Q) :
    wp (c0 (f_X8_copyFrom y 58 37 M) fun (r20 : Int32) (M21 : Mem) => jn (fun (v22 : Int32) => c0 (f_X8_setResting y 58 (n2 g) v22 M21) fun (r24 : Int32) (M25 : Mem) => jn (fun (v26 : Int32) => c0 (f_X8_setResting y 58 (n2 o) v26 M25) fun (r28 : Int32) (M29 : Mem) => c0 (f_X8_passDay y 58 M29) fun (r30 : Int32) (M31 : Mem) => k M31) fun j27 => br (n2 b = 0) (j27 (1 : Int32)) (j27 (0 : Int32))) fun j23 => br (n2 a = 0) (j23 (1 : Int32)) (j23 (0 : Int32))) Q := by
  have hS := h.sok v
  have hK := v.1
  refine wp_c0 _ (copyFrom_58_37 hy h.2.2.1.2 (hS.zr hK)) (fun r M1 h1 => ?_)
  obtain ⟨-, h2, h3, -⟩ := h1
  dsimp only at h2 h3
  have hv : vo (skV M1 58 59 62 63) = vo (aS A) := by rw [h3]; exact h.2.1.1
  have hz1 : SOK (aK A) (skV M1 58 59 62 63) := by rw [h3]; exact hS
  have hM1 : CR A M1 := h.trial (h2.mono (by decide)) (SOK.zr (s := 58) hK hz1)
  have e8 : M1.1 58 8 = sRs (aS A) := rs_eqo hv
  have ea : (n2 a = 0) ↔ a = 0 := n2_inj (j := 0) (by omega) (by decide)
  have eb : (n2 b = 0) ↔ b = 0 := n2_inj (j := 0) (by omega) (by decide)
  have flat : wp (c0 (f_X8_setResting y 58 (n2 g) (if a = 0 then 1 else 0) M1) fun (r24 : Int32) (M25 : Mem) => c0 (f_X8_setResting y 58 (n2 o) (if b = 0 then 1 else 0) M25) fun (r28 : Int32) (M29 : Mem) => c0 (f_X8_passDay y 58 M29) fun (r30 : Int32) (M31 : Mem) => k M31) Q := by
    rw [setResting_58 hy, c0_s, setResting_58 hy, c0_s, sr_sr, sr_ap, up_eq, e8]
    have e5 : (if (if b = 0 then (1 : Int32) else 0) = 0 then (if (if a = 0 then (1 : Int32) else 0) = 0 then sRs (aS A) &&& (bit g ^^^ -1) else sRs (aS A) ||| bit g) &&& (bit o ^^^ -1) else (if (if a = 0 then (1 : Int32) else 0) = 0 then sRs (aS A) &&& (bit g ^^^ -1) else sRs (aS A) ||| bit g) ||| bit o) = gmR (sRs (aS A)) g o (if a = 0 then 0 else 1) (if b = 0 then 0 else 1) := by
      rw [← gm_rs (show g < 32 by omega) (show o < 32 by omega) hgo]
      rcases lt2 ha2 with rfl | rfl
      · rcases lt2 hb2 with rfl | rfl
        · rfl
        · rfl
      · rcases lt2 hb2 with rfl | rfl
        · rfl
        · rfl
    rw [e5]
    have euu : ∀ x z, up (up (M1.1 58) 8 x) 8 z = up (M1.1 58) 8 z := fun x z => by
      funext k; unfold up; split <;> rfl
    rw [euu]
    generalize hx : gmR (sRs (aS A)) g o (if a = 0 then 0 else 1) (if b = 0 then 0 else 1) = x
    have hz2 : SOK (aK A) (skV (sr M1 58 (up (M1.1 58) 8 x)) 58 59 62 63) := hz1
    have hM2 : CR A (sr M1 58 (up (M1.1 58) 8 x)) := hM1.trial ((Eqx.refl _ _).sr (by decide)) (SOK.zr (s := 58) hK hz2)
    refine wp_c0 _ (passDay_58 hy v.1 hM2.1 hz2) (fun r M3 q => ?_)
    obtain ⟨-, w2, w3, -, -⟩ := q
    dsimp only at w2 w3
    have hS' : SOK (aK A) (skV M3 58 59 62 63) := by rw [w3]; exact pDay_ok v.1 hz2
    refine hk M3 (hM2.trial (w2.mono (by decide)) (SOK.zr (s := 58) v.1 hS')) (((h2.kM (by decide)).trans (kM_sr (kM.refl M1) (by decide))).trans (w2.kM (by decide))) ?_ ?_
    · rw [w2.2 72 (by decide), sr_ne (by decide), h2.2 72 (by decide)]
    · rw [w3]
      unfold gmS
      rw [hx]
      refine vo_pDay ?_
      have e2 : vo (skV (sr M1 58 (up (M1.1 58) 8 x)) 58 59 62 63) = rsS (skV M1 58 59 62 63) x := rfl
      rw [e2]
      unfold rsS
      rw [b_eqo hv, sp_eqo hv, sk_eqo hv, pg_eqo hv, kn_eqo hv, ma_eqo hv, dy_eqo hv]
      rfl
  rw [jn_s]
  rcases lt2 ha2 with rfl | rfl
  · refine wp_brt rfl ?_
    refine wp_c0 (fun q => f_X8_setResting y 58 (n2 g) 1 M1 = some q) (by rw [setResting_58 hy]; exact wp_some rfl) (fun r N hN => ?_)
    rw [jn_s]
    rw [if_pos rfl, hN, c0_s] at flat
    rcases lt2 hb2 with rfl | rfl
    · exact wp_brt rfl flat
    · exact wp_brf (by decide) flat
  · refine wp_brf (by decide) ?_
    refine wp_c0 (fun q => f_X8_setResting y 58 (n2 g) 0 M1 = some q) (by rw [setResting_58 hy]; exact wp_some rfl) (fun r N hN => ?_)
    rw [jn_s]
    rw [if_neg (by decide), hN, c0_s] at flat
    rcases lt2 hb2 with rfl | rfl
    · exact wp_brt rfl flat
    · exact wp_brf (by decide) flat
/-- the class's gains of what is played -/
def GNC (K : KG) (S : Sk) (g o : Nat) (R : Row) (n : Nat) : Prop := ∀ a b, a < 2 → b < 2 → 2 * a + b < n → R (2 * a + b) = gG K S g o a b ∧ R (4 + 2 * a + b) = gO K S g o a b
theorem if01 {v : Nat} (h : v < 2) : (if v = 0 then 0 else 1) = v := by
  rcases lt2 h with rfl | rfl <;> rfl
theorem playAll_c {y : Lay} (hy : LY y) {A : St} {M : Mem} (h : CR A M) (v : VAL A) {g o : Nat} (hg : g < 6) (ho : o < 6) (hgo : ¬ g = o) : wp (f_X11_playAll y 1 (n2 g) (n2 o) M) (fun r => CR A r.2 ∧ kM M r.2 ∧ GNC (aK A) (aS A) g o (r.2.1 72) 4) := by
  unfold f_X11_playAll
  have h30 := v.1.n30
  simp only [gK_t (k_1 hy), gN_t (r := 1) (by decide), r_1_0 hy, r_1_1 hy, r_1_2 hy, r_1_3 hy, r_1_4 hy, r_1_5 hy, r_1_6 hy, r_1_7 hy, r_1_8 hy, r_1_9 hy, r_1_10 hy, gK_t (k_30 hy), gN_t (r := 30) (by decide), r_30_0 hy, r_30_1 hy, r_30_2 hy, r_30_3 hy, r_30_4 hy, r_30_5 hy, gK_t (k_37 hy), gN_t (r := 37) (by decide), r_37_0 hy, r_37_1 hy, r_37_2 hy, r_37_3 hy, r_37_4 hy, r_37_5 hy, r_37_6 hy, gK_t (k_58 hy), gN_t (r := 58) (by decide), r_58_0 hy, r_58_1 hy, r_58_2 hy, r_58_3 hy, r_58_4 hy, r_58_5 hy, r_58_6 hy, r_1_10 hy]
  have l1 : ∀ i : Nat, i < 100 → ((1 : Int32) < n2 i ↔ 1 < i) := fun i hi => n2_lt (by decide) (by omega)
  refine wp_for (i0 := 0) 2 (fun i s => CR A s ∧ kM M s ∧ GNC (aK A) (aS A) g o (s.1 72) (2 * i)) (by decide) rfl (by decide) ⟨h, kM.refl M, fun a b _ _ q => absurd q (Nat.not_lt_zero _)⟩ ?_ ?_
  · intro f i s hi hI hk
    obtain ⟨i1, i2, i3⟩ := hI
    refine wp_brf (by rw [l1 i (by omega)]; omega) ?_
    refine wp_for (i0 := 0) 2 (fun j z => CR A z ∧ kM M z ∧ GNC (aK A) (aS A) g o (z.1 72) (2 * i + j)) (by decide) rfl (by decide) ⟨i1, i2, i3⟩ ?_ ?_
    · intro f2 j z hj hJ hk2
      obtain ⟨j1, j2, j3⟩ := hJ
      refine wp_brf (by rw [l1 j (by omega)]; omega) ?_
      refine play_c hy j1 v hg ho hgo hi hj (fun N n1 n2' n3 n4 => ?_)
      rw [if01 hi, if01 hj] at n4
      have e12 : N.1 58 12 = sOv (gmS (aK A) (aS A) g o i j) := congrArg sOv n4
      have e59 : N.1 59 = sB (gmS (aK A) (aS A) g o i j) := congrArg sB n4
      have e62 : N.1 62 = sSp (aS A) := congrArg sSp n4
      obtain ⟨s1, s2⟩ := v.2.1.1.1.2.1.n g h30
      obtain ⟨t1, t2⟩ := v.2.1.1.1.2.1.n o h30
      have s1 : (sSp (aS A) g).toNatClampNeg < kn (aK A) := s1
      have s2 : sSp (aS A) g = n2 (sSp (aS A) g).toNatClampNeg := s2
      have t1 : (sSp (aS A) o).toNatClampNeg < kn (aK A) := t1
      have t2 : sSp (aS A) o = n2 (sSp (aS A) o).toNatClampNeg := t2
      have m1 : (2 : Int32) * n2 i + n2 j = n2 (2 * i + j) := by
        rw [show (2 : Int32) * n2 i = n2 (2 * i) from n2_mul 2 i, n2_add]
      have m2 : (4 : Int32) + (2 : Int32) * n2 i + n2 j = n2 (4 + 2 * i + j) := by
        rw [show (2 : Int32) * n2 i = n2 (2 * i) from n2_mul 2 i, show (4 : Int32) + n2 (2 * i) = n2 (4 + 2 * i) from n2_add 4 (2 * i), n2_add]
      rw [bitCount_s, cp_s, lT_s, gN_t (by decide), spotOf_58 hy hg, cp_s, e62, s2, blueOf_58 hy (by omega), cp_s, m1, m2, gA_n (k_72 hy) (by omega) (by omega), lT_s, wI_sr, spotOf_58 hy ho, cp_s, sr_ne (show ¬ 62 = 72 by decide), e62, t2, blueOf_58 hy (by omega), cp_s, sr_ne (show ¬ 59 = 72 by decide), gA_n (k_72 hy) (by omega) (by omega), lT_s, lT_s, wI_sr, sr_sr, sr_ap, n2_nat (by omega), n2_nat (by omega), n2_s, n3]
      refine hk2 _ ⟨n1.gains _, kM_sr (j2.trans n2') (by decide), fun a b ha hb hab => ?_⟩
      rw [sr_ap]
      by_cases e : 2 * a + b = 2 * i + j
      · have ea : a = i := by omega
        have eb : b = j := by omega
        subst ea eb
        constructor
        · rw [up_ne (by omega), up_eq, e59, e12]; rfl
        · rw [up_eq, e59, e12]; rfl
      · have hlt : 2 * a + b < 2 * i + j := by omega
        obtain ⟨p1, p2⟩ := j3 a b ha hb hlt
        rw [up_ne (by omega), up_ne (by omega), up_ne (by omega), up_ne (by omega)]
        exact ⟨p1, p2⟩
    · intro f2 z hJ
      obtain ⟨j1, j2, j3⟩ := hJ
      refine wp_brt (by decide) ?_
      rw [lT_s, n2_s]
      exact hk _ ⟨j1, j2, j3⟩
  · intro f s hI
    obtain ⟨i1, i2, i3⟩ := hI
    exact wp_brt (by decide) (wp_some ⟨i1, i2, i3⟩)
theorem gainAt_s {y : Lay} (hy : LY y) {M : Mem} {w a b : Nat} (hw : w < 2) (ha : a < 2) (hb : b < 2) : f_X11_gainAt y 1 (n2 w) (n2 a) (n2 b) M = some (M.1 72 (4 * w + 2 * a + b)) := by
  unfold f_X11_gainAt
  have e : (4 : Int32) * n2 w + (2 : Int32) * n2 a + n2 b = n2 (4 * w + 2 * a + b) := by
    rw [show (2 : Int32) * n2 a = n2 (2 * a) from n2_mul 2 a, show (4 : Int32) * n2 w = n2 (4 * w) from n2_mul 4 w, n2_add, n2_add]
  rw [e, lT_s, jn_s, jn_s, bR_f (n2_n0 (by omega)), gK_t (k_1 hy), r_1_10 hy, gN_t (by decide), gT_t (by rw [k_72 hy]), k_72 hy, bR_f (by show ¬ n2 8 ≤ _; rw [n2_le (by decide) (by omega)]; omega), gA_n (k_72 hy) (by omega) (by omega), n2_nat (by omega)]
theorem gmQ_s (K : KG) (S : Sk) (g o n : Nat) : gmQ K S g o (n + 1) = gmF K S g o n (gmQ K S g o n) := rfl
theorem gmQ_ok (K : KG) (S : Sk) (g o : Nat) : ∀ n, n ≤ 4 → ∃ m, m ≤ n ∧ (gmQ K S g o n).1 = n2 m ∧ ((gmQ K S g o n).2 = -1 ↔ m = 0) := by
  intro n
  induction n with
  | zero => intro _; exact ⟨0, Nat.le_refl 0, rfl, ⟨fun _ => rfl, fun _ => rfl⟩⟩
  | succ n ih =>
    intro hn
    obtain ⟨m, h1, h2, h3⟩ := ih (by omega)
    rw [gmQ_s]
    unfold gmF
    split
    · refine ⟨m + 1, by omega, ?_, ?_⟩
      · show (gmQ K S g o n).1 + 1 = _
        rw [h2, n2_s]
      · have hne : ¬ 10 * n2 (n / 2) + n2 (n % 2) = -1 := by
          rw [show (10 : Int32) * n2 (n / 2) = n2 (10 * (n / 2)) from n2_mul 10 _, n2_add]
          exact enc_ne _ (by omega)
        constructor
        · intro q
          exfalso
          have q : (if (gmQ K S g o n).2 = -1 then 10 * n2 (n / 2) + n2 (n % 2) else (gmQ K S g o n).2) = -1 := q
          split at q
          · exact hne q
          · rename_i z; exact z q
        · intro q; omega
    · exact ⟨m, by omega, h2, h3⟩
theorem GNC.g {K : KG} {S : Sk} {g o : Nat} {R : Row} (h : GNC K S g o R 4) {a b : Nat} (ha : a < 2) (hb : b < 2) : R (4 * 0 + 2 * a + b) = gG K S g o a b ∧ R (4 * 1 + 2 * a + b) = gO K S g o a b := by
  obtain ⟨h1, h2⟩ := h a b ha hb (by omega)
  rw [show 4 * 0 + 2 * a + b = 2 * a + b by omega]
  exact ⟨h1, h2⟩
theorem game_c {y : Lay} (hy : LY y) {A : St} {M : Mem} (h : CR A M) (v : VAL A) (g o w : Int32) : wp (f_X11_game y 1 g o w M) (OC A (gamP A g o w) M) := by
  unfold f_X11_game
  have hg6 := v.1.2.1.2.2
  rw [gK_t (k_1 hy)]
  unfold gamP
  rcases needGirl_s hy h.1.1.2.2.2.2.1 hg6 g with ⟨q, e⟩ | ⟨q, e⟩
  · rcases needGirl_s hy h.1.1.2.2.2.2.1 hg6 o with ⟨q', e'⟩ | ⟨q', e'⟩
    · rcases needWhat_s (y := y) (M := M) (m := 1) (by decide) w with ⟨qw, ew⟩ | ⟨qw, ew⟩
      · have ew : f_X11_needWhat y 1 w 1 M = some (0, 0, M) := ew
        have qq : (inN (kg (aK A)) g ∧ inN (kg (aK A)) o) ∧ inR 0 1 w := ⟨⟨q, q'⟩, qw.1, by have := qw.2; omega⟩
        rw [e, cx_s, e', cx_s, ew, cx_s, if_pos qq]
        clear qq
        by_cases hgo : g = o
        · rw [if_pos hgo]
          exact wp_brt hgo (OC.thr h (by decide))
        · rw [if_neg hgo]
          refine wp_brf hgo ?_
          obtain ⟨e1, e2⟩ := inN_n q
          obtain ⟨e3, e4⟩ := inN_n q'
          generalize g.toInt.toNat = gg at e1 e2 ⊢
          generalize o.toInt.toNat = oo at e3 e4 ⊢
          subst e1 e3
          have hne : ¬ gg = oo := fun z => hgo (by rw [z])
          refine wp_c0 _ (playAll_c hy h v (show gg < 6 by omega) (show oo < 6 by omega) hne) (fun r M1 p => ?_)
          obtain ⟨p1, p2, p3⟩ := p
          dsimp only at p1 p2 p3
          rw [lT_s]
          have l1 : ∀ i : Nat, i < 100 → ((1 : Int32) < n2 i ↔ 1 < i) := fun i hi => n2_lt (by decide) (by omega)
          refine wp_for3 (i0 := 0) 2 (fun i a b => (a, b) = gmQ (aK A) (aS A) gg oo (2 * i)) (by decide) rfl (by decide) rfl ?_ ?_
          · intro f i a b hi hI hk
            refine wp_brf (by rw [l1 i (by omega)]; omega) ?_
            refine wp_for3 (i0 := 0) 2 (fun j c d => (c, d) = gmQ (aK A) (aS A) gg oo (2 * i + j)) (by decide) rfl (by decide) hI ?_ ?_
            · intro f2 j c d hj hJ hk2
              refine wp_brf (by rw [l1 j (by omega)]; omega) ?_
              have hS : gmQ (aK A) (aS A) gg oo (2 * i + (j + 1)) = gmF (aK A) (aS A) gg oo (2 * i + j) (c, d) := by rw [hJ]; rfl
              rw [hS] at hk2
              unfold gmF at hk2
              rw [show (2 * i + j) / 2 = i by omega, show (2 * i + j) % 2 = j by omega] at hk2
              obtain ⟨m, m1, m2, m3⟩ := gmQ_ok (aK A) (aS A) gg oo (2 * i + j) (by omega)
              rw [← hJ] at m2 m3
              dsimp only at m2 m3 hk2
              have s1 : ∀ x : Nat, x < 2 → (1 : Int32) - n2 x = n2 (1 - x) := fun x hx => n2_sub (a := 1) (by omega)
              have gz : ∀ (u : Nat) (x z : Nat), u < 2 → x < 2 → z < 2 → f_X11_gainAt y 1 (n2 u) (n2 x) (n2 z) M1 = some (M1.1 72 (4 * u + 2 * x + z)) := fun u x z hu hx hz => gainAt_s hy hu hx hz
              have g0a : f_X11_gainAt y 1 0 (n2 i) (n2 j) M1 = some (gG (aK A) (aS A) gg oo i j) := (gz 0 i j (by decide) hi hj).trans (by rw [(p3.g hi hj).1])
              have g0b : f_X11_gainAt y 1 0 (n2 (1 - i)) (n2 j) M1 = some (gG (aK A) (aS A) gg oo (1 - i) j) := (gz 0 (1 - i) j (by decide) (by omega) hj).trans (by rw [(p3.g (by omega) hj).1])
              have g1a : f_X11_gainAt y 1 1 (n2 i) (n2 j) M1 = some (gO (aK A) (aS A) gg oo i j) := (gz 1 i j (by decide) hi hj).trans (by rw [(p3.g hi hj).2])
              have g1b : f_X11_gainAt y 1 1 (n2 i) (n2 (1 - j)) M1 = some (gO (aK A) (aS A) gg oo i (1 - j)) := (gz 1 i (1 - j) (by decide) hi (by omega)).trans (by rw [(p3.g hi (by omega)).2])
              rw [s1 i hi, s1 j hj, g0a, cp_s, g0b, cp_s, jn_s, jn_s]
              have stay : ¬ (¬ gG (aK A) (aS A) gg oo i j < gG (aK A) (aS A) gg oo (1 - i) j ∧ ¬ gO (aK A) (aS A) gg oo i j < gO (aK A) (aS A) gg oo i (1 - j)) → wp (f2 c d (n2 j + 1)) (OC A (0, if w = 0 then (gmQ (aK A) (aS A) gg oo 4).1 else (gmQ (aK A) (aS A) gg oo 4).2) M) := fun z => by
                rw [if_neg z] at hk2
                rw [n2_s]
                exact hk2 _ _ rfl
              refine wp_br (fun z => ?_) (fun z => ?_)
              · refine wp_jn ?_
                exact wp_brt rfl (stay (fun u => u.1 z))
              · rw [g1a, cp_s, g1b, cp_s]
                refine wp_br (fun z2 => ?_) (fun z2 => ?_)
                · refine wp_jn ?_
                  exact wp_brt rfl (stay (fun u => u.2 z2))
                · refine wp_jn ?_
                  refine wp_brf (by decide) ?_
                  rw [if_pos ⟨z, z2⟩] at hk2
                  refine wp_jn ?_
                  have c0' : (c = 0) ↔ m = 0 := by rw [m2]; exact n2_inj (j := 0) (by omega) (by decide)
                  refine wp_br (fun z3 => ?_) (fun z3 => ?_)
                  · refine wp_lt (wp_lt (wp_lt ?_))
                    rw [n2_s]
                    refine hk2 _ _ ?_
                    rw [if_pos (m3.mpr (c0'.mp z3))]
                  · refine wp_lt (wp_lt ?_)
                    rw [n2_s]
                    refine hk2 _ _ ?_
                    rw [if_neg (fun u => z3 (c0'.mpr (m3.mp u)))]
            · intro f2 c d hJ
              refine wp_brt (by decide) ?_
              rw [lT_s, n2_s]
              exact hk _ _ hJ
          · intro f a b hI
            refine wp_brt (by decide) ?_
            rw [jn_s]
            have hI : (a, b) = gmQ (aK A) (aS A) gg oo 4 := hI
            refine wp_br (fun z => OC.ret' ?_ p1 p2) (fun z => OC.ret' ?_ p1 p2)
            · rw [if_pos z, ← hI]
            · rw [if_neg z, ← hI]
      · have ew : f_X11_needWhat y 1 w 1 M = some (1, 0, M) := ew
        rw [e, cx_s, e', cx_s, ew, if_neg (fun z => qw ⟨z.2.1, by have := z.2.2; omega⟩)]
        exact OC.thr h (by decide)
    · rw [e, cx_s, e', if_neg (fun z => q' z.1.2)]
      exact OC.thr h (by decide)
  · rw [e, if_neg (fun z => q z.1.1)]
    exact OC.thr h (by decide)
/-! the model -/
def GNM (K : KG) (S : Sk) (g o : Nat) (R : Row) (n : Nat) : Prop := ∀ c, c < 4 → c < n → R (2 * c) = gG K S g o (c / 2) (c % 2) ∧ R (2 * c + 1) = gO K S g o (c / 2) (c % 2)
theorem bitsOv {y : Lay} {K : KG} {S : Sk} {M : Mem} : f_X12_bitsOf y (sOv (pDay K S)) M = some (bcJ (sOv (pDay K S))) := bitsOf_ov (n := 30) (by decide)
theorem c4 : ∀ c : Fin 4, n2 c.val / 2 = n2 (c.val / 2) ∧ n2 c.val - n2 c.val / 2 * 2 = n2 (c.val % 2) ∧ 2 * n2 c.val = n2 (2 * c.val) ∧ 2 * n2 c.val + 1 = n2 (2 * c.val + 1) ∧ 2 * (n2 c.val ^^^ 2) = n2 (2 * (2 * (1 - c.val / 2) + c.val % 2)) ∧ 2 * (n2 c.val ^^^ 1) + 1 = n2 (2 * (2 * (c.val / 2) + (1 - c.val % 2)) + 1) := by decide
theorem tellGains_m {y : Lay} (hy : LY y) {A : St} {M : Mem} (h : MR A M) (v : VAL A) (hc : M.1 73 4 = 0) {g o : Nat} (hg : g < kg (aK A)) (ho : o < kg (aK A)) : wp (f_X12_tellGains y 73 (n2 g) (n2 o) M) (fun r => MR A r.2 ∧ kC M r.2 ∧ r.2.1 73 4 = 0 ∧ GNM (aK A) (aS A) g o (r.2.1 103) 4) := by
  unfold f_X12_tellGains
  have h30 := v.1.n30
  have hg6 := v.1.2.1.2.2
  have hS := v.2.1.1.1
  rw [gK_t (k_73 hy), r_73_42 hy, gN_t (by decide)]
  refine look_in hy (fun r M1 hL hV => ?_)
  have hM1 : MR A M1 := MR.look h (hL.1.mono (by decide)) (by rw [hV]) hL.2.1
  have hp1 : PKD (M1.1 93) 0 (aS A) := hL.2.2.eqo h.2.1.1
  have hc1 : M1.1 73 4 = 0 := by
    have : M1.1 73 4 = M.1 73 4 := hL.2.1 4 (by decide)
    rw [this, hc]
  refine wp_for (i0 := 0) 4 (fun c z => MR A z ∧ kC M z ∧ z.1 73 4 = 0 ∧ PKD (z.1 93) 0 (aS A) ∧ GNM (aK A) (aS A) g o (z.1 103) c) (by decide) rfl (by decide) ⟨hM1, hL.1.kC (by decide), hc1, hp1, fun c _ q => absurd q (Nat.not_lt_zero _)⟩ ?_ ?_
  · intro f c z hc4 hI hk
    obtain ⟨i1, i2, i3, i4, i5⟩ := hI
    refine wp_brf (nle_l (m := 4) rfl hc4 (by omega)) ?_
    obtain ⟨d1, d2, d3, d4, -, -⟩ := c4 ⟨c, hc4⟩
    dsimp only at d1 d2 d3 d4
    have d2' : n2 c - n2 (c / 2) * 2 = n2 (c % 2) := by rw [← d1]; exact d2
    rw [gd_t (by decide), jn_s, d1, d2']
    have eg : (1 : Int32) <<< (n2 g &&& 31) = bit g := rfl
    have eo : (1 : Int32) <<< (n2 o &&& 31) = bit o := rfl
    have hx1 : (n2 (c / 2) = 1) ↔ c / 2 = 1 := n2_inj (j := 1) (by omega) (by decide)
    have hx2 : (n2 (c % 2) = 1) ↔ c % 2 = 1 := n2_inj (j := 1) (by omega) (by decide)
    have go : ∀ x1 x2 : Int32, x1 = (if c / 2 = 1 then 0 else bit g) → x2 = (if c % 2 = 1 then 0 else bit o) → wp (lt (wI z 73 35 ((((z.1 73 35) &&& ((((1 : Int32) <<< (n2 g &&& 31)) ||| ((1 : Int32) <<< (n2 o &&& 31))) ^^^ ((-1) : Int32))) ||| x1) ||| x2)) fun (M17 : Mem) => c0 (f_X12_aDay y 73 M17) fun (r18 : Int32) (M19 : Mem) => gN (y.2.1 73 53) (gN (y.2.1 73 28) (gN (y.2.1 73 29) (gA y (y.2.1 73 29) 1 (n2 g) (gA y (y.2.1 73 28) 1 (M19.1 (y.2.1 73 29) (n2 g).toNatClampNeg) (cp (f_X12_bitsOf y (M19.1 73 41) M19) fun (r25 : Int32) => gd (¬ (2 : Int32) = 0) (gA y (y.2.1 73 53) 1 ((2 : Int32) * n2 c) (lt (wI M19 (y.2.1 73 53) ((2 : Int32) * n2 c).toNatClampNeg (((M19.1 (y.2.1 73 28) (M19.1 (y.2.1 73 29) (n2 g).toNatClampNeg).toNatClampNeg) - ((10 : Int32) * r25)) - ((2 : Int32) * n2 (c / 2)))) fun (M28 : Mem) => gA y (y.2.1 73 29) 1 (n2 o) (gA y (y.2.1 73 28) 1 (M28.1 (y.2.1 73 29) (n2 o).toNatClampNeg) (cp (f_X12_bitsOf y (M28.1 73 41) M28) fun (r31 : Int32) => gd (¬ (2 : Int32) = 0) (gA y (y.2.1 73 53) 1 (((2 : Int32) * n2 c) + (1 : Int32)) (lt (wI M28 (y.2.1 73 53) (((2 : Int32) * n2 c) + (1 : Int32)).toNatClampNeg (((M28.1 (y.2.1 73 28) (M28.1 (y.2.1 73 29) (n2 o).toNatClampNeg).toNatClampNeg) - ((10 : Int32) * r31)) - ((2 : Int32) * n2 (c % 2)))) fun (M34 : Mem) => c0 (f_X12_unpack y 73 93 (0 : Int32) M34) fun (r35 : Int32) (M36 : Mem) => lt (n2 c + (1 : Int32)) fun (v37 : Int32) => f v37 M36)))))))))))) (fun r => MR A r.2 ∧ kC M r.2 ∧ r.2.1 73 4 = 0 ∧ GNM (aK A) (aS A) g o (r.2.1 103) 4) := by
      intro x1 x2 hx1 hx2
      have hv0 := i1.v
      rw [lT_s, wI_sr, eg, eo, hv0.2.2.1]
      have ex : ((sRs (aS A) &&& ((bit g ||| bit o) ^^^ -1)) ||| x1) ||| x2 = gmR (sRs (aS A)) g o (c / 2) (c % 2) := by rw [hx1, hx2]; rfl
      rw [ex]
      have hA := i1.rs (gmR (sRs (aS A)) g o (c / 2) (c % 2))
      have vA : VAL (wS A (rsS (aS A) (gmR (sRs (aS A)) g o (c / 2) (c % 2)))) := v.wS (aok_rs v.2.1.1 _) rfl
      have f1 : F73 z (sr z 73 (up (z.1 73) 35 (gmR (sRs (aS A)) g o (c / 2) (c % 2)))) := F73.up (by decide)
      have eE : Eqx [73, 87, 88, 90, 91, 92, 93, 103] z (sr z 73 (up (z.1 73) 35 (gmR (sRs (aS A)) g o (c / 2) (c % 2)))) := (Eqx.refl _ _).sr (by decide)
      have r93 : (sr z 73 (up (z.1 73) 35 (gmR (sRs (aS A)) g o (c / 2) (c % 2)))).1 93 = z.1 93 := sr_ne (by decide)
      have r103 : (sr z 73 (up (z.1 73) 35 (gmR (sRs (aS A)) g o (c / 2) (c % 2)))).1 103 = z.1 103 := sr_ne (by decide)
      have hvz : vo (moV (sr z 73 (up (z.1 73) 35 (gmR (sRs (aS A)) g o (c / 2) (c % 2))))) = vo (rsS (aS A) (gmR (sRs (aS A)) g o (c / 2) (c % 2))) := hA.2.1.1
      have hSz := hA.sok vA
      generalize sr z 73 (up (z.1 73) 35 (gmR (sRs (aS A)) g o (c / 2) (c % 2))) = z1 at hA f1 eE r93 r103 hvz hSz
      refine wp_c0 _ (aDay_v hy v.1 hA.1 hSz) (fun r z2 p => ?_)
      obtain ⟨-, p2, p3, p4⟩ := p
      dsimp only at p2 p3 p4
      have q3 : moV z2 = gmS (aK A) (aS A) g o (c / 2) (c % 2) := by rw [p3]; exact vo_pDay hvz
      have e41 : z2.1 73 41 = sOv (gmS (aK A) (aS A) g o (c / 2) (c % 2)) := congrArg sOv q3
      have e87 : z2.1 87 = sB (gmS (aK A) (aS A) g o (c / 2) (c % 2)) := congrArg sB q3
      have e88 : z2.1 88 = sSp (aS A) := congrArg sSp q3
      have e85 : z2.1 85 = sSk (aS A) := congrArg sSk q3
      have hS2 : SOK (aK A) (moV z2) := by rw [p3]; exact pDay_ok v.1 hSz
      obtain ⟨s1, s2⟩ := hS.2.1.n g h30
      obtain ⟨t1, t2⟩ := hS.2.1.n o h30
      have s1 : (sSp (aS A) g).toNatClampNeg < kn (aK A) := s1
      have s2 : sSp (aS A) g = n2 (sSp (aS A) g).toNatClampNeg := s2
      have t1 : (sSp (aS A) o).toNatClampNeg < kn (aK A) := t1
      have t2 : sSp (aS A) o = n2 (sSp (aS A) o).toNatClampNeg := t2
      have gs : ∀ {X : Option (Int32 × Mem)} {Q : Int32 × Mem → Prop}, wp X Q → wp (gA y 87 1 (sSp (aS A) g) X) Q := fun {X Q} hX => by
        rw [s2, gA_n (k_87 hy) (show (sSp (aS A) g).toNatClampNeg < 30 by omega) (by omega)]; exact hX
      have os : ∀ {X : Option (Int32 × Mem)} {Q : Int32 × Mem → Prop}, wp X Q → wp (gA y 87 1 (sSp (aS A) o) X) Q := fun {X Q} hX => by
        rw [t2, gA_n (k_87 hy) (show (sSp (aS A) o).toNatClampNeg < 30 by omega) (by omega)]; exact hX
      rw [r_73_53 hy, r_73_28 hy, r_73_29 hy, gN_t (by decide), gN_t (by decide), gN_t (by decide), gA_n (k_88 hy) (show g < 6 by omega) (by omega), n2_nat (show g < 2147483648 by omega), e88]
      refine gs ?_
      rw [e41]
      unfold gmS
      rw [bitsOv, cp_s, gd_t (by decide), d3, gA_n (k_103 hy) (show 2 * c < 8 by omega) (by omega), lT_s, wI_sr, gA_n (k_88 hy) (show o < 6 by omega) (by omega), n2_nat (show o < 2147483648 by omega), sr_ne (show ¬ 88 = 103 by decide), e88]
      refine os ?_
      rw [sr_ne (show ¬ 73 = 103 by decide), e41]
      unfold gmS
      rw [bitsOv, cp_s, gd_t (by decide), show n2 (2 * c) + 1 = n2 (2 * c + 1) from n2_s _, gA_n (k_103 hy) (show 2 * c + 1 < 8 by omega) (by omega), lT_s, wI_sr, sr_sr, sr_ap, sr_ne (show ¬ 87 = 103 by decide), n2_nat (show 2 * c < 2147483648 by omega), n2_nat (show 2 * c + 1 < 2147483648 by omega)]
      generalize hRR : up (up (z2.1 103) (2 * c) _) (2 * c + 1) _ = RR
      have g1 : RR (2 * c) = gG (aK A) (aS A) g o (c / 2) (c % 2) := by
        rw [← hRR, up_ne (by omega), up_eq, e87]; rfl
      have g2 : RR (2 * c + 1) = gO (aK A) (aS A) g o (c / 2) (c % 2) := by
        rw [← hRR, up_eq, e87]; rfl
      have g3 : ∀ k, k < 2 * c → RR k = z.1 103 k := fun k hk => by
        rw [← hRR, up_ne (by omega), up_ne (by omega), p2.2 103 (by decide), r103]
      have eE2 : Eqx [73, 87, 88, 90, 91, 92, 93, 103] z (sr z2 103 RR) := (eE.trans (p2.mono (by decide))).sr (by decide)
      have f2 : F73 z (sr z2 103 RR) := (f1.trans (F73.day p4)).trans (F73.row (sr_ne (by decide)))
      have hmz : moV (sr z2 103 RR) = moV z2 := rfl
      have r93' : (sr z2 103 RR).1 93 = z.1 93 := by rw [sr_ne (by decide), p2.2 93 (by decide), r93]
      have r103' : (sr z2 103 RR).1 103 = RR := sr_ap _ _ _
      have r85' : (sr z2 103 RR).1 85 = sSk (aS A) := by rw [sr_ne (by decide), e85]
      generalize sr z2 103 RR = z3 at eE2 f2 hmz r93' r103' r85'
      rw [← hmz] at hS2
      refine wp_c0 _ (unpack_93 hy (f := 0) (by decide) (S := aS A) (by rw [r93']; exact i4) ?_ ?_) (fun r N q => ?_)
      · intro k hk
        exact (hS2.b v.1 k hk).trans (hS.b v.1 k hk).symm
      · intro k hk
        exact (hS2.sp k hk).trans (hS.sp k hk).symm
      obtain ⟨-, q2, q3', q4⟩ := q
      dsimp only at q2 q3' q4
      have eE3 : Eqx [73, 87, 88, 90, 91, 92, 93, 103] z N := eE2.trans (q2.mono (by decide))
      have f3 : F73 z N := f2.trans (F73.un q4)
      rw [lT_s, n2_s]
      refine hk _ ⟨MR.look i1 (eE3.mono (by decide)) ?_ f3, i2.trans (eE3.kC (by decide)), ?_, ?_, fun c' hc' hlt => ?_⟩
      · rw [q3', r85']
        exact i1.2.1.1.symm
      · have : N.1 73 4 = z.1 73 4 := f3 4 (by decide)
        rw [this, i3]
      · rw [q2.2 93 (by decide), r93']; exact i4
      · rw [q2.2 103 (by decide), r103']
        by_cases e : c' = c
        · rw [e]; exact ⟨g1, g2⟩
        · rw [g3 _ (by omega), g3 _ (by omega)]
          exact i5 c' hc' (by omega)
    have inner : ∀ x1 : Int32, x1 = (if c / 2 = 1 then 0 else bit g) → ∀ k : Int32 → Option (Int32 × Mem), (∀ x2, x2 = (if c % 2 = 1 then 0 else bit o) → wp (k x2) (fun r => MR A r.2 ∧ kC M r.2 ∧ r.2.1 73 4 = 0 ∧ GNM (aK A) (aS A) g o (r.2.1 103) 4)) → wp (gd (¬ (2 : Int32) = 0) (jn k fun j16 => br (n2 (c % 2) = (1 : Int32)) (j16 (0 : Int32)) (j16 ((1 : Int32) <<< (n2 o &&& 31))))) (fun r => MR A r.2 ∧ kC M r.2 ∧ r.2.1 73 4 = 0 ∧ GNM (aK A) (aS A) g o (r.2.1 103) 4) := fun x1 _ k hkk => by
      rw [gd_t (by decide), jn_s]
      refine wp_br (fun u => hkk _ ?_) (fun u => hkk _ ?_)
      · rw [if_pos (hx2.mp u)]
      · rw [if_neg (fun w => u (hx2.mpr w))]; rfl
    refine wp_br (fun u => ?_) (fun u => ?_)
    · have hh : (0 : Int32) = (if c / 2 = 1 then 0 else bit g) := by rw [if_pos (hx1.mp u)]
      exact inner 0 hh _ (fun x2 hx => go 0 x2 hh hx)
    · have hh : (1 : Int32) <<< (n2 g &&& 31) = (if c / 2 = 1 then 0 else bit g) := by rw [if_neg (fun w => u (hx1.mpr w))]; rfl
      exact inner _ hh _ (fun x2 hx => go _ x2 hh hx)
  · intro f z hI
    obtain ⟨i1, i2, i3, i4, i5⟩ := hI
    exact wp_brt (by decide) (wp_some ⟨i1, i2, i3, i5⟩)
theorem game_m {y : Lay} (hy : LY y) {A : St} {M : Mem} (h : MR A M) (v : VAL A) (g o w : Int32) : wp (f_X12_game y 73 g o w M) (OM A (gamP A g o w) M) := by
  unfold f_X12_game
  have hg6 := v.1.2.1.2.2
  rw [gK_t (k_73 hy)]
  refine OM.start hy h (fun M0 h0 g0 hc => ?_)
  have hth : ¬ ((inN (kg (aK A)) g ∧ inN (kg (aK A)) o) ∧ inR 0 1 w) → wp (c0 (f_X12_fail y 73 1 M0) fun (r5 : Int32) (M6 : Mem) => some (r5, M6)) (OM A (gamP A g o w) M) := fun q => by
    have e : gamP A g o w = (1, 0) := if_neg q
    rw [e]
    exact OM.fail hy rfl (by decide) h0 g0
  have z0 : (0 : Int32).toInt = 0 := by decide
  have z1 : (1 : Int32).toInt = 1 := by decide
  rcases isGirl_s hy h0.1.1.2.2.2.2 hg6 g with ⟨q, e⟩ | ⟨q, e⟩
  · rw [e, cp_s, jn_s]
    refine wp_brf (by decide) ?_
    rcases isGirl_s hy h0.1.1.2.2.2.2 hg6 o with ⟨q', e'⟩ | ⟨q', e'⟩
    · rw [e', cp_s]
      refine wp_brf (by decide) ?_
      refine wp_br (fun q1 => hth (fun z => by rw [i_lt, z0] at q1; have := z.2.1; omega)) (fun q1 => wp_br (fun q2 => ?_) (fun q2 => hth (fun z => by rw [i_le, z1] at q2; have := z.2.2; omega)))
      have qq : (inN (kg (aK A)) g ∧ inN (kg (aK A)) o) ∧ inR 0 1 w := ⟨⟨q, q'⟩, by rw [i_lt, z0] at q1; omega, by rw [i_le, z1] at q2; omega⟩
      unfold gamP
      rw [if_pos qq]
      clear qq hth
      by_cases hgo : g = o
      · rw [if_pos hgo]
        exact wp_brt hgo (OM.fail hy rfl (by decide) h0 g0)
      · rw [if_neg hgo]
        refine wp_brf hgo ?_
        obtain ⟨e1, e2⟩ := inN_n q
        obtain ⟨e3, e4⟩ := inN_n q'
        generalize g.toInt.toNat = gg at e1 e2 ⊢
        generalize o.toInt.toNat = oo at e3 e4 ⊢
        subst e1 e3
        refine wp_c0 _ (tellGains_m hy h0 v hc e2 e4) (fun r M1 p => ?_)
        obtain ⟨p1, p2, p3, p4⟩ := p
        dsimp only at p1 p2 p3 p4
        rw [lT_s]
        refine wp_for3 (i0 := 0) 4 (fun i a b => (a, b) = gmQ (aK A) (aS A) gg oo i) (by decide) rfl (by decide) rfl ?_ ?_
        · intro f c a b hc4 hI hk
          refine wp_brf (nle_l (m := 4) rfl hc4 (by omega)) ?_
          obtain ⟨d1, d2, d3, d4, d5, d6⟩ := c4 ⟨c, hc4⟩
          dsimp only at d1 d2 d3 d4 d5 d6
          have hS : gmQ (aK A) (aS A) gg oo (c + 1) = gmF (aK A) (aS A) gg oo c (a, b) := by rw [hI]; rfl
          rw [hS] at hk
          unfold gmF at hk
          dsimp only at hk
          have l1 : 2 * (1 - c / 2) + c % 2 < 4 := by omega
          have l2 : 2 * (c / 2) + (1 - c % 2) < 4 := by omega
          have k1 := p4 _ l1 l1
          have k2 := p4 _ l2 l2
          have k3 := p4 c hc4 hc4
          rw [show (2 * (1 - c / 2) + c % 2) / 2 = 1 - c / 2 by omega, show (2 * (1 - c / 2) + c % 2) % 2 = c % 2 by omega] at k1
          rw [show (2 * (c / 2) + (1 - c % 2)) / 2 = c / 2 by omega, show (2 * (c / 2) + (1 - c % 2)) % 2 = 1 - c % 2 by omega] at k2
          rw [r_73_53 hy, gN_t (by decide), d5, gA_n (k_103 hy) (by omega) (by omega), d3, gA_n (k_103 hy) (by omega) (by omega), jn_s, n2_nat (show 2 * c < 2147483648 by omega), n2_nat (show 2 * (2 * (1 - c / 2) + c % 2) < 2147483648 by omega), k1.1, k3.1]
          have stay : ¬ (¬ gG (aK A) (aS A) gg oo (c / 2) (c % 2) < gG (aK A) (aS A) gg oo (1 - c / 2) (c % 2) ∧ ¬ gO (aK A) (aS A) gg oo (c / 2) (c % 2) < gO (aK A) (aS A) gg oo (c / 2) (1 - c % 2)) → wp (lt (n2 c + 1) fun v38 => f a b v38) (OM A (0, if w = 0 then (gmQ (aK A) (aS A) gg oo 4).1 else (gmQ (aK A) (aS A) gg oo 4).2) M) := fun z => by
            rw [if_neg z] at hk
            rw [lT_s, n2_s]
            exact hk _ _ rfl
          refine wp_br (fun z => stay (fun u => u.1 z)) (fun z => ?_)
          rw [d6, gA_n (k_103 hy) (by omega) (by omega), show n2 (2 * c) + 1 = n2 (2 * c + 1) from n2_s _, gA_n (k_103 hy) (by omega) (by omega), n2_nat (show 2 * c + 1 < 2147483648 by omega), n2_nat (show 2 * (2 * (c / 2) + (1 - c % 2)) + 1 < 2147483648 by omega), k2.2, k3.2]
          refine wp_br (fun z2 => ?_) (fun z2 => stay (fun u => u.2 (by rw [i_le] at z2; rw [i_lt]; omega)))
          rw [if_pos ⟨z, by rw [i_le] at z2; rw [i_lt]; omega⟩] at hk
          rw [lT_s, jn_s]
          refine wp_br (fun z3 => ?_) (fun z3 => ?_)
          · rw [gd_t (by decide), gd_t (by decide)]
            show wp (lt (n2 c + 1) fun v38 => f (a + 1) (10 * (n2 c / 2) + (n2 c - n2 c / 2 * 2)) v38) _
            rw [lT_s, n2_s]
            refine hk _ _ ?_
            rw [if_pos z3, d2, d1]
          · show wp (lt (n2 c + 1) fun v38 => f (a + 1) b v38) _
            rw [lT_s, n2_s]
            refine hk _ _ ?_
            rw [if_neg z3]
        · intro f a b hI
          refine wp_brt (by decide) ?_
          rw [jn_s]
          refine wp_br (fun z => OM.ret' ?_ p1 (g0.trans p2) p3) (fun z => OM.ret' ?_ p1 (g0.trans p2) p3)
          · rw [if_pos z, ← hI]
          · rw [if_neg z, ← hI]
    · rw [e', cp_s]
      exact wp_brt rfl (hth (fun z => q' z.1.2))
  · rw [e, cp_s, jn_s]
    exact wp_brt rfl (hth (fun z => q z.1.1))
