/-! ===== patches: what is reached from a cell ===== -/
theorem ab_c (x y : Nat) : ab x y = ab y x := by unfold ab; omega
theorem dist_c (w a b : Nat) : dist w a b = dist w b a := by unfold dist; rw [ab_c, ab_c (a % w)]
theorem besP_iff (w c : Nat) : ∀ n, n ≤ 31 → ∀ k, k < 32 → (bt (besP w n c) k = 1 ↔ k < n ∧ dist w c k = 1) := by
  intro n
  induction n with
  | zero => intro _ k hk; exact ⟨fun h => absurd h (bt_0 hk), fun h => absurd h.1 (Nat.not_lt_zero _)⟩
  | succ n ih =>
    intro hn k hk
    show bt (besF w c n (besP w n c)) k = 1 ↔ _
    have hi := ih (by omega) k hk
    unfold besF
    split
    · rename_i q
      rw [bt_or hk, bt_b (by omega) hk, hi]
      constructor
      · intro z
        rcases z with z | z
        · exact ⟨by omega, z.2⟩
        · rw [z]; exact ⟨by omega, q⟩
      · intro z
        by_cases e : k = n
        · exact Or.inr e
        · exact Or.inl ⟨by omega, z.2⟩
    · rename_i q
      rw [hi]
      constructor
      · intro z; exact ⟨by omega, z.2⟩
      · intro z
        have : ¬ k = n := fun e => q (by rw [← e]; exact z.2)
        exact ⟨by omega, z.2⟩
theorem bes_c {K : KG} (hK : KOK K) {a b : Nat} (ha : a < kn K) (hb : b < kn K) : bt (bes K a) b = 1 ↔ bt (bes K b) a = 1 := by
  have h30 := hK.n30
  unfold bes
  rw [besP_iff _ _ _ (by omega) _ (by omega), besP_iff _ _ _ (by omega) _ (by omega), dist_c]
  exact ⟨fun h => ⟨ha, h.2⟩, fun h => ⟨hb, h.2⟩⟩
/-- b is joined from a -/
def AD (K : KG) (B : Row) (off : Int32) (b a : Nat) : Prop := bt (bes K b) a = 1 ∧ ¬ off < jabs (B a - B b)
def CLO (K : KG) (B : Row) (off : Int32) (S : Nat → Prop) : Prop := ∀ a b, a < kn K → b < kn K → S a → AD K B off b a → S b
def RCH (K : KG) (B : Row) (off : Int32) (c i : Nat) : Prop := ∀ S : Nat → Prop, S c → CLO K B off S → S i
def SND (K : KG) (B : Row) (off : Int32) (c : Nat) (v : Int32) : Prop := (∀ i, i < 32 → bt v i = 1 → i < kn K ∧ RCH K B off c i) ∧ bt v c = 1
def PTC (K : KG) (B : Row) (off : Int32) (c : Nat) (v : Int32) : Prop := SND K B off c v ∧ CLO K B off (fun i => bt v i = 1)
theorem RCH.refl {K : KG} {B : Row} {off : Int32} (c : Nat) : RCH K B off c c := fun _ h _ => h
theorem RCH.step {K : KG} {B : Row} {off : Int32} {c a b : Nat} (h : RCH K B off c a) (ha : a < kn K) (hb : b < kn K) (e : AD K B off b a) : RCH K B off c b := fun S h1 h2 => h2 a b ha hb (h S h1 h2) e
theorem PTC.uniq {K : KG} {B : Row} {off : Int32} {c : Nat} {v w : Int32} (h : PTC K B off c v) (g : PTC K B off c w) : v = w :=
  bt_ext (fun i hi => ⟨fun q => (h.1.1 i hi q).2 _ g.1.2 g.2, fun q => (g.1.1 i hi q).2 _ h.1.2 h.2⟩)
/-! counting -/
def cnt (v : Int32) (n : Nat) : Nat := it (fun k a => if bt v k = 1 then a + 1 else a) 0 n
theorem cnt_s (v : Int32) (n : Nat) : cnt v (n + 1) = if bt v n = 1 then cnt v n + 1 else cnt v n := rfl
theorem cnt_le (v : Int32) : ∀ n, cnt v n ≤ n := by
  intro n
  induction n with
  | zero => exact Nat.le_refl _
  | succ n ih => rw [cnt_s]; split <;> omega
theorem cnt_mono {v w : Int32} : ∀ n, (∀ i, i < n → bt v i = 1 → bt w i = 1) → cnt v n ≤ cnt w n := by
  intro n
  induction n with
  | zero => intro _; exact Nat.zero_le _
  | succ n ih =>
    intro h
    have h1 := ih (fun i hi => h i (by omega))
    rw [cnt_s, cnt_s]
    by_cases q : bt v n = 1
    · rw [if_pos q, if_pos (h n (by omega) q)]; omega
    · rw [if_neg q]; split <;> omega
theorem cnt_lt {v w : Int32} : ∀ n, (∀ i, i < n → bt v i = 1 → bt w i = 1) → ∀ j, j < n → bt w j = 1 → ¬ bt v j = 1 → cnt v n < cnt w n := by
  intro n
  induction n with
  | zero => intro _ j hj; omega
  | succ n ih =>
    intro h j hj h1 h2
    rw [cnt_s, cnt_s]
    by_cases e : j = n
    · subst e
      have := cnt_mono (v := v) (w := w) j (fun i hi => h i (by omega))
      rw [if_neg h2, if_pos h1]; omega
    · have := ih (fun i hi => h i (by omega)) j (by omega) h1 h2
      by_cases q : bt v n = 1
      · rw [if_pos q, if_pos (h n (by omega) q)]; omega
      · rw [if_neg q]; split <;> omega
theorem cnt_pos {v : Int32} {n c : Nat} (hc : c < n) (h : bt v c = 1) (hn : n ≤ 32) : 1 ≤ cnt v n := by
  have := cnt_lt (v := 0) (w := v) n (fun i hi q => absurd q (bt_0 (by omega))) c hc h (bt_0 (by omega))
  omega
theorem grow {K : KG} (hK : KOK K) {B : Row} {off : Int32} {c : Nat} {v w : Int32} (hw : SND K B off c w) (h : ∀ i, i < 32 → bt v i = 1 → bt w i = 1) (hne : ¬ w = v) : cnt v 30 < cnt w 30 := by
  have h30 := hK.n30
  have key : ¬ ∀ j, j < 30 → bt w j = 1 → bt v j = 1 := fun z => hne (bt_ext (fun i hi => ⟨fun q => z i (by have := (hw.1 i hi q).1; omega) q, h i hi⟩))
  by_cases q : cnt v 30 < cnt w 30
  · exact q
  · exact absurd (fun j hj h1 => by
      by_cases z : bt v j = 1
      · exact z
      · exact absurd (cnt_lt 30 (fun i hi => h i (by omega)) j hj h1 z) q) key
theorem bit_SND {K : KG} {B : Row} {off : Int32} {c : Nat} (hc : c < kn K) (h30 : kn K ≤ 30) : SND K B off c (bit c) := by
  refine ⟨fun i hi q => ?_, (bt_b (by omega) (by omega)).mpr rfl⟩
  rw [bt_b (by omega) hi] at q
  rw [q]; exact ⟨hc, RCH.refl c⟩
/-! the class -/
theorem besideWithin_s {y : Lay} (hy : LY y) {A : St} {M : Mem} (h : CR A M) (v : VAL A) (p off : Int32) : wp (f_X8_besideWithin y 37 p off M) (fun r => ∀ b, b < 32 → (bt r b = 1 ↔ b < kn (aK A) ∧ ∃ a, a < kn (aK A) ∧ bt p a = 1 ∧ AD (aK A) (sB (aS A)) off b a)) := by
  unfold f_X8_besideWithin
  have h30 := v.1.n30
  have g := h.1.geo v.1
  simp only [lT_s, jn_s, c0_s, cp_s, cx_s, cx_t, gK_t (k_37 hy), gN_t (r := 37) (by decide), r_37_0 hy, r_37_1 hy, r_37_2 hy, r_37_3 hy, r_37_4 hy, r_37_5 hy, r_37_6 hy, gK_t (k_4 hy), gN_t (r := 4) (by decide), r_4_6 hy, r_4_7 hy, r_4_8 hy, cells_4 hy g]
  refine wp_for2 (i0 := 0) (kn (aK A)) (fun i r => ∀ b, b < 32 → (bt r b = 1 ↔ b < i ∧ ∃ a, a < kn (aK A) ∧ bt p a = 1 ∧ AD (aK A) (sB (aS A)) off b a)) (by have : FUEL = 100000 := rfl; omega) rfl (by omega) (fun b hb => ⟨fun q => absurd q (bt_0 hb), fun q => absurd q.1 (Nat.not_lt_zero _)⟩) ?_ ?_
  · intro f i r hi hI hk
    refine wp_brf (by show ¬ n2 (kn (aK A)) ≤ n2 i; rw [n2_le (by omega) (by omega)]; omega) ?_
    rw [besideBits_4 hy (show i < 30 by omega), cp_s, h.1.be v.1 hi]
    refine wp_for2 (i0 := 0) (kn (aK A)) (fun j z => ∀ b, b < 32 → (bt z b = 1 ↔ (bt r b = 1 ∨ (b = i ∧ ∃ a, a < j ∧ bt p a = 1 ∧ AD (aK A) (sB (aS A)) off i a)))) (by have : FUEL = 100000 := rfl; omega) rfl (by omega) (fun b hb => ⟨fun q => Or.inl q, fun q => by rcases q with q | ⟨-, a, ha, -⟩; exact q; omega⟩) ?_ ?_
    · intro f2 j z hj hJ hk2
      refine wp_brf (by show ¬ n2 (kn (aK A)) ≤ n2 j; rw [n2_le (by omega) (by omega)]; omega) ?_
      have hb1 : ((bes (aK A) i &&& p) >>> (n2 j &&& 31)) &&& 1 = bt (bes (aK A) i &&& p) j := rfl
      rw [hb1]
      have stay : ¬ (bt p j = 1 ∧ AD (aK A) (sB (aS A)) off i j) → ∀ b, b < 32 → (bt z b = 1 ↔ (bt r b = 1 ∨ (b = i ∧ ∃ a, a < j + 1 ∧ bt p a = 1 ∧ AD (aK A) (sB (aS A)) off i a))) := fun w b hb => by
        rw [hJ b hb]
        constructor
        · intro q
          rcases q with q | ⟨q1, a, q2, q3⟩
          · exact Or.inl q
          · exact Or.inr ⟨q1, a, by omega, q3⟩
        · intro q
          rcases q with q | ⟨q1, a, q2, q3⟩
          · exact Or.inl q
          · by_cases e : a = j
            · rw [e] at q3; exact absurd q3 w
            · exact Or.inr ⟨q1, a, by omega, q3⟩
      refine wp_br (fun q => ?_) (fun q => ?_)
      · rw [n2_s]
        refine hk2 _ (stay (fun w => ?_))
        have : bt (bes (aK A) i &&& p) j = 1 := (bt_and (by omega)).mpr ⟨w.2.1, w.1⟩
        rw [q] at this
        exact absurd this (by decide)
      · have q' := (bt_and (by omega)).mp (bt_ne.mp q)
        rw [blueOf_37 hy (show j < 30 by omega), cp_s, blueOf_37 hy (show i < 30 by omega), cp_s, h.v.1.1]
        refine wp_br (fun w => ?_) (fun w => ?_)
        · rw [n2_s]
          exact hk2 _ (stay (fun u => u.2.2 w))
        · rw [n2_s]
          refine hk2 _ (fun b hb => ?_)
          show bt (z ||| bit i) b = 1 ↔ _
          rw [bt_or hb, hJ b hb, bt_b (by omega) hb]
          constructor
          · intro u
            rcases u with (u | ⟨u1, a, u2, u3⟩) | u
            · exact Or.inl u
            · exact Or.inr ⟨u1, a, by omega, u3⟩
            · exact Or.inr ⟨u, j, by omega, q'.2, q'.1, w⟩
          · intro u
            rcases u with u | ⟨u1, -⟩
            · exact Or.inl (Or.inl u)
            · exact Or.inr u1
    · intro f2 z hJ
      refine wp_brt (Int32.le_refl _) ?_
      rw [n2_s]
      refine hk _ (fun b hb => ?_)
      rw [hJ b hb, hI b hb]
      constructor
      · intro u
        rcases u with ⟨u1, u2⟩ | ⟨u1, u2⟩
        · exact ⟨by omega, u2⟩
        · rw [u1]; exact ⟨by omega, u2⟩
      · intro u
        by_cases e : b = i
        · rw [e] at u; exact Or.inr ⟨e, u.2⟩
        · exact Or.inl ⟨by omega, u.2⟩
  · intro f r hI
    exact wp_brt (Int32.le_refl _) (wp_some hI)
theorem patchBits_s {y : Lay} (hy : LY y) {A : St} {M : Mem} (h : CR A M) (v : VAL A) {c : Nat} (hc : c < kn (aK A)) (off : Int32) : wp (f_X8_patchBits y 37 (n2 c) off M) (fun r => PTC (aK A) (sB (aS A)) off c r) := by
  unfold f_X8_patchBits
  have h30 := v.1.n30
  simp only [lT_s, jn_s, c0_s, cp_s, cx_s, cx_t, gK_t (k_37 hy), gN_t (r := 37) (by decide), r_37_0 hy, r_37_1 hy, r_37_2 hy, r_37_3 hy, r_37_4 hy, r_37_5 hy, r_37_6 hy]
  have e0 : (1 : Int32) <<< (n2 c &&& 31) = bit c := rfl
  rw [e0]
  refine wp_for2 (i0 := 0) 30 (fun j p => SND (aK A) (sB (aS A)) off c p ∧ j + 1 ≤ cnt p 30) (by decide) rfl (by omega) ⟨bit_SND hc h30, cnt_pos (show c < 30 by omega) (bit_SND (B := sB (aS A)) (off := off) hc h30).2 (by decide)⟩ ?_ ?_
  · intro f j p hj hI hk
    obtain ⟨hS, hn⟩ := hI
    refine wp_brf (nle_l (m := 30) rfl hj (by omega)) ?_
    refine wp_cp _ (besideWithin_s hy h v p off) (fun r hr => ?_)
    have hS2 : SND (aK A) (sB (aS A)) off c (p ||| r) := by
      refine ⟨fun i hi q => ?_, (bt_or (by omega)).mpr (Or.inl hS.2)⟩
      rw [bt_or hi] at q
      rcases q with q | q
      · exact hS.1 i hi q
      · obtain ⟨q1, a, q2, q3, q4⟩ := (hr i hi).mp q
        exact ⟨q1, ((hS.1 a (by omega) q3).2).step q2 q1 q4⟩
    refine wp_br (fun q => wp_some ⟨hS, fun a b ha hb h1 h2 => ?_⟩) (fun q => ?_)
    · have : bt (p ||| r) b = 1 := (bt_or (by omega)).mpr (Or.inr ((hr b (by omega)).mpr ⟨hb, a, ha, h1, h2⟩))
      rw [q] at this
      exact this
    · rw [n2_s]
      refine hk _ ⟨hS2, ?_⟩
      have := grow v.1 (v := p) hS2 (fun i hi z => (bt_or hi).mpr (Or.inl z)) q
      omega
  · intro f p hI
    have := cnt_le p 30
    omega
/-! the model -/
theorem patchOf_s {y : Lay} (hy : LY y) {A : St} {M : Mem} (h : MR A M) (v : VAL A) {c : Nat} (hc : c < kn (aK A)) (off : Int32) : wp (f_X12_patchOf y 73 (n2 c) off M) (fun r => PTC (aK A) (sB (aS A)) off c r) := by
  unfold f_X12_patchOf
  have h30 := v.1.n30
  have g := h.1.geo v.1
  simp only [lT_s, jn_s, c0_s, cp_s, cx_s, cx_t, gK_t (k_73 hy), gN_t (r := 73) (by decide), r_73_0 hy, r_73_1 hy, r_73_2 hy, r_73_5 hy, r_73_6 hy, r_73_7 hy, r_73_8 hy, r_73_9 hy, r_73_10 hy, r_73_11 hy, r_73_12 hy, r_73_13 hy, r_73_14 hy, r_73_28 hy, r_73_29 hy, r_73_30 hy, r_73_38 hy, r_73_39 hy, r_73_40 hy, r_73_42 hy, r_73_43 hy, r_73_44 hy, r_73_45 hy, r_73_46 hy, r_73_47 hy, r_73_48 hy, r_73_49 hy, r_73_50 hy, r_73_51 hy, r_73_53 hy, r_73_58 hy, r_73_59 hy, r_73_60 hy, r_73_61 hy, r_73_62 hy, r_73_63 hy, gN_t (r := 87) (by decide), cellsG hy g]
  have e0 : (1 : Int32) <<< (n2 c &&& 31) = bit c := rfl
  rw [e0]
  have fin : FUEL = 100000 := rfl
  refine wp_for2 (i0 := 0) 30 (fun j p => SND (aK A) (sB (aS A)) off c p ∧ (CLO (aK A) (sB (aS A)) off (fun i => bt p i = 1) ∨ j + 1 ≤ cnt p 30)) (by decide) rfl (by omega) ⟨bit_SND hc h30, Or.inr (cnt_pos (show c < 30 by omega) (bit_SND (B := sB (aS A)) (off := off) hc h30).2 (by decide))⟩ ?_ ?_
  · intro f j p hj hI hk
    obtain ⟨hS, hn⟩ := hI
    refine wp_brf (nle_l (m := 30) rfl hj (by omega)) ?_
    refine wp_for2 (i0 := 0) (kn (aK A)) (fun a q => (∀ i, i < 32 → bt p i = 1 → bt q i = 1) ∧ SND (aK A) (sB (aS A)) off c q ∧ ∀ a', a' < a → bt p a' = 1 → ∀ b, b < kn (aK A) → AD (aK A) (sB (aS A)) off b a' → bt q b = 1) (by omega) rfl (by omega) ⟨fun _ _ z => z, hS, fun a' ha' => absurd ha' (Nat.not_lt_zero _)⟩ ?_ ?_
    · intro f2 a q ha hJ hk2
      obtain ⟨j1, j2, j3⟩ := hJ
      refine wp_brf (by show ¬ n2 (kn (aK A)) ≤ n2 a; rw [n2_le (by omega) (by omega)]; omega) ?_
      rw [isOf_f, cp_s]
      rcases bt01 q a with hb | hb
      · rw [fl01_0 hb]
        refine wp_brt rfl ?_
        rw [n2_s]
        refine hk2 _ ⟨j1, j2, fun a' ha' h1 b hb' h2 => ?_⟩
        by_cases e : a' = a
        · rw [e] at h1
          have := j1 a (by omega) h1
          rw [hb] at this
          exact absurd this (by decide)
        · exact j3 a' (by omega) h1 b hb' h2
      · rw [fl01_1 hb]
        refine wp_brf (by decide) ?_
        rw [besideM hy g (show a < 30 by omega), cp_s]
        have eb : besP (kw (aK A)) (kw (aK A) * kh (aK A)) a = bes (aK A) a := rfl
        rw [eb]
        refine wp_for2 (i0 := 0) (kn (aK A)) (fun b z => (∀ i, i < 32 → bt q i = 1 → bt z i = 1) ∧ SND (aK A) (sB (aS A)) off c z ∧ ∀ b', b' < b → AD (aK A) (sB (aS A)) off b' a → bt z b' = 1) (by omega) rfl (by omega) ⟨fun _ _ z => z, j2, fun b' hb' => absurd hb' (Nat.not_lt_zero _)⟩ ?_ ?_
        · intro f3 b z hbn hL hk3
          obtain ⟨l1, l2, l3⟩ := hL
          refine wp_brf (by show ¬ n2 (kn (aK A)) ≤ n2 b; rw [n2_le (by omega) (by omega)]; omega) ?_
          rw [isOf_f, cp_s]
          have stay : ¬ AD (aK A) (sB (aS A)) off b a → wp (f3 (z ||| 0) (n2 b + 1)) (fun r => PTC (aK A) (sB (aS A)) off c r) := fun w => by
            rw [or_0, n2_s]
            refine hk3 _ ⟨l1, l2, fun b' hb' h2 => ?_⟩
            by_cases e : b' = b
            · rw [e] at h2; exact absurd h2 w
            · exact l3 b' (by omega) h2
          rcases bt01 (bes (aK A) a) b with hc1 | hc1
          · rw [fl01_0 hc1]
            refine wp_brt rfl (stay (fun w => ?_))
            have := (bes_c v.1 hbn ha).mp w.1
            rw [hc1] at this
            exact absurd this (by decide)
          · rw [fl01_1 hc1]
            refine wp_brf (by decide) ?_
            rw [gA_n (k_87 hy) (show a < 30 by omega) (by omega), gA_n (k_87 hy) (show b < 30 by omega) (by omega), n2_nat (show a < 2147483648 by omega), n2_nat (show b < 2147483648 by omega), h.v.1.1]
            refine wp_br (fun w => stay (fun u => u.2 w)) (fun w => ?_)
            have hAD : AD (aK A) (sB (aS A)) off b a := ⟨(bes_c v.1 ha hbn).mp hc1, w⟩
            rw [n2_s]
            have l1' : ∀ i, i < 32 → bt z i = 1 → bt (z ||| bit b) i = 1 := fun i hi u => (bt_or hi).mpr (Or.inl u)
            refine hk3 (z ||| bit b) ⟨fun i hi u => l1' i hi (l1 i hi u), ⟨fun i hi u => ?_, l1' c (by omega) l2.2⟩, fun b' hb' h2 => ?_⟩
            · rw [bt_or hi, bt_b (by omega) hi] at u
              rcases u with u | u
              · exact l2.1 i hi u
              · rw [u]; exact ⟨hbn, ((j2.1 a (by omega) hb).2).step ha hbn hAD⟩
            · by_cases e : b' = b
              · rw [e, bt_or (by omega), bt_b (by omega) (by omega)]; exact Or.inr rfl
              · exact l1' b' (by omega) (l3 b' (by omega) h2)
        · intro f3 z hL
          obtain ⟨l1, l2, l3⟩ := hL
          refine wp_brt (Int32.le_refl _) ?_
          rw [n2_s]
          refine hk2 _ ⟨fun i hi u => l1 i hi (j1 i hi u), l2, fun a' ha' h1 b hb' h2 => ?_⟩
          by_cases e : a' = a
          · rw [e] at h2; exact l3 b hb' h2
          · exact l1 b (by omega) (j3 a' (by omega) h1 b hb' h2)
    · intro f2 q hJ
      obtain ⟨j1, j2, j3⟩ := hJ
      refine wp_brt (Int32.le_refl _) ?_
      rw [n2_s]
      refine hk _ ⟨j2, ?_⟩
      by_cases e : q = p
      · left
        rw [e] at j3 ⊢
        exact fun a b ha hb h1 h2 => j3 a ha h1 b hb h2
      · rcases hn with hn | hn
        · exfalso
          refine e (bt_ext (fun i hi => ⟨fun u => ?_, j1 i hi⟩))
          exact (j2.1 i hi u).2 (fun i => bt p i = 1) hS.2 hn
        · right
          have := grow v.1 (v := p) j2 j1 e
          omega
  · intro f p hI
    refine wp_brt (by decide) (wp_some ⟨hI.1, ?_⟩)
    rcases hI.2 with q | q
    · exact q
    · have := cnt_le p 30
      omega
