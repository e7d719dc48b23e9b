/-! ===== going on a token, class and model ===== -/
theorem wp_fixn {β : Type} {Q : β → Prop} {bot : Mem → Option β} {F : (Mem → Option β) → Mem → Option β} (I : Nat → Mem → Prop) (N : Nat) (hN : N < FUEL) {i0 : Nat} {s0 : Mem} (hi0 : i0 ≤ N) (h0 : I i0 s0) (hs : ∀ f i s, i ≤ N → I i s → (∀ s', i < N → I (i + 1) s' → wp (f s') Q) → wp (F f s) Q) : wp (fixN bot F FUEL s0) Q := by
  refine wp_fixm (κ := Mem → Option β) (bot := bot) (F := F) (A := Nat × Mem) (fun f a => f a.2) (fun a => a.1 ≤ N ∧ I a.1 a.2) (fun a => N - a.1) ?_ FUEL (i0, s0) ⟨hi0, h0⟩ (by show N - i0 < FUEL; omega)
  intro f a ha hb
  exact hs f a.1 a.2 ha.1 ha.2 (fun s' h1 h2 => hb (a.1 + 1, s') ⟨h1, h2⟩ (by show N - (a.1 + 1) < N - a.1; omega))
def kCl (T : Tx) (p : Nat) : Int32 := if tK T p = 0 then -1 else if tK T p = 1 then -2 else if tK T p = 2 then -3 else n2 (T.1 (tS T p))
def kMd (T : Tx) (p : Nat) : Int32 := if tK T p = 0 then 0 else if tK T p = 1 then 1 else if tK T p = 2 then 2 else if isMk (T.1 (tS T p)) = true then 3 else 4
def tV (T : Tx) (p : Nat) : Nat := vlD T (tS T p) (tE T p - tS T p)
/-- the class stands at a token -/
def TC (T : Tx) (M : Mem) (p : Nat) : Prop := TXC T M ∧ p ≤ T.2 ∧ (M.1 28 3 = n2 (tS T p) ∧ M.1 28 4 = n2 (tE T p)) ∧ M.1 28 2 = kCl T p ∧ (tK T p = 2 → tE T p - tS T p ≤ 4 → M.1 28 5 = n2 (tV T p))
def TM (T : Tx) (N : Mem) (p : Nat) : Prop := TXM T N ∧ p ≤ T.2 ∧ (N.1 73 20 = n2 (tS T p) ∧ N.1 73 21 = n2 (tE T p) ∧ N.1 73 16 = n2 (tE T p)) ∧ N.1 73 18 = kMd T p ∧ (tK T p = 2 → tE T p - tS T p ≤ 4 → N.1 73 19 = n2 (tV T p))
def G28 (M N : Mem) : Prop := Eqx [28] M N ∧ N.1 28 1 = M.1 28 1 ∧ N.1 28 6 = M.1 28 6 ∧ N.1 28 7 = M.1 28 7
theorem G28.refl (M : Mem) : G28 M M := ⟨Eqx.refl _ _, rfl, rfl, rfl⟩
theorem G28.up {M N : Mem} (h : G28 M N) {k : Nat} {x : Int32} (h1 : ¬ k = 1) (h6 : ¬ k = 6) (h7 : ¬ k = 7) : G28 M (sr N 28 (up (N.1 28) k x)) := ⟨h.1.sr (by decide), by rw [sr_ap, up_ne (Ne.symm h1)]; exact h.2.1, by rw [sr_ap, up_ne (Ne.symm h6)]; exact h.2.2.1, by rw [sr_ap, up_ne (Ne.symm h7)]; exact h.2.2.2⟩
theorem TXC.g28 {T : Tx} {M N : Mem} (h : TXC T M) (g : G28 M N) : TXC T N := by
  unfold TXC at h ⊢
  rw [g.1.2 2 (by decide), g.1.2 3 (by decide), g.2.1, g.2.2.2]
  exact h
theorem vlD_s (T : Tx) (s n : Nat) : vlD T s (n + 1) = 10 * vlD T s n + (T.1 (s + n) - 48) := rfl
theorem vl_lt {T : Tx} {s : Nat} : ∀ n, (∀ k, k < n → isDg (T.1 (s + k)) = true) → vlD T s n < 10 ^ n := by
  intro n
  induction n with
  | zero => intro _; exact Nat.lt_succ_self 0
  | succ n ih =>
    intro h
    have h1 := ih (fun k hk => h k (by omega))
    have h2 := h n (Nat.lt_succ_self n)
    unfold isDg at h2
    rw [Bool.and_eq_true, decide_eq_true_eq, decide_eq_true_eq] at h2
    rw [vlD_s, Nat.pow_succ]
    omega
theorem isDg_48 {v : Nat} (h : isDg v = true) : 48 ≤ v ∧ v ≤ 57 := by
  unfold isDg at h
  rw [Bool.and_eq_true, decide_eq_true_eq, decide_eq_true_eq] at h
  exact h
theorem inT_iff {T : Tx} {f : Nat → Bool} {k : Nat} : inT T f k = true ↔ k < T.2 ∧ f (T.1 k) = true := by
  unfold inT
  rw [Bool.and_eq_true, decide_eq_true_eq]
theorem dgstep {a b : Nat} (hb : 48 ≤ b) : (10 : Int32) * n2 a + n2 b - 48 = n2 (10 * a + (b - 48)) := by
  rw [show (10 : Int32) * n2 a = n2 (10 * a) from n2_mul 10 a, n2_add, show (48 : Int32) = n2 48 from rfl, n2_sub (by omega)]
  congr 1
  omega
theorem tKE {T : Tx} {p : Nat} : (tS T p < T.2 → isLt (T.1 (tS T p)) = true → tK T p = 1 ∧ tE T p = rn (inT T isLt) (tS T p)) ∧ (tS T p < T.2 → ¬ isLt (T.1 (tS T p)) = true → isDg (T.1 (tS T p)) = true → tK T p = 2 ∧ tE T p = rn (inT T isDg) (tS T p)) ∧ (tS T p < T.2 → ¬ isLt (T.1 (tS T p)) = true → ¬ isDg (T.1 (tS T p)) = true → tK T p = 3 ∧ tE T p = tS T p + 1) ∧ (¬ tS T p < T.2 → tK T p = 0 ∧ tE T p = tS T p) := by
  unfold tK tE
  refine ⟨fun h1 h2 => ?_, fun h1 h2 h3 => ?_, fun h1 h2 h3 => ?_, fun h1 => ?_⟩
  · rw [if_pos h1, if_pos h2, if_pos h1, if_pos h2]; exact ⟨rfl, rfl⟩
  · rw [if_pos h1, if_neg h2, if_pos h3, if_pos h1, if_neg h2, if_pos h3]; exact ⟨rfl, rfl⟩
  · rw [if_pos h1, if_neg h2, if_neg h3, if_pos h1, if_neg h2, if_neg h3]; exact ⟨rfl, rfl⟩
  · rw [if_neg h1, if_neg h1]; exact ⟨rfl, rfl⟩
theorem b01_0 {b : Bool} : b01 b = 0 ↔ ¬ b = true := by cases b <;> decide
theorem advance_c {y : Lay} (hy : LY y) {T : Tx} (hT : TOK T) {M : Mem} (h : TXC T M) {p : Nat} (hp : p ≤ T.2) (h4 : M.1 28 4 = n2 p) : wp (f_X10_advance y 28 M) (fun o => TC T o.2 p ∧ G28 M o.2) := by
  unfold f_X10_advance
  have h7 := hT.1
  have hF : FUEL = 100000 := rfl
  rw [gK_t (k_28 hy)]
  refine wp_lt ?_
  rw [h4, wI_sr]
  refine wp_fixn (fun i s => p ≤ i ∧ (G28 M s ∧ s.1 28 3 = n2 i) ∧ ∀ k, p ≤ k → k < i → inT T isBk k = true) T.2 (by omega) hp ⟨Nat.le_refl p, ⟨(G28.refl M).up (by decide) (by decide) (by decide), by rw [sr_ap, up_eq]⟩, fun k a b => by omega⟩ ?_
  intro f j s j2 hI hk
  obtain ⟨j1, ⟨j3, j4⟩, j5⟩ := hI
  have hs : TXC T s := h.g28 j3
  refine wp_jn ?_
  -- the rest, once blanks are gone over
  have rest : ¬ inT T isBk j = true → wp (lt (wI s 28 4 (s.1 28 3)) fun (M7 : Mem) => lt (wI M7 28 5 (0 : Int32)) fun (M8 : Mem) => jn (fun (M9 : Mem) => some ((0 : Int32), M9)) fun j10 => br ((M8.1 28 3) < (M8.1 28 1)) (gN 2 (gK y 2 (0, 9) (cp (f_X9_byteAt y 2 (M8.1 28 3) M8) fun (r15 : Int32) => cp (f_X10_isLetter y r15 M8) fun (r16 : Int32) => br (r16 = 0) (cp (f_X9_byteAt y 2 (M8.1 28 3) M8) fun (r19 : Int32) => cp (f_X10_isDigit y r19 M8) fun (r20 : Int32) => br (r20 = 0) (cp (f_X9_byteAt y 2 (M8.1 28 3) M8) fun (r23 : Int32) => lt (wI M8 28 2 r23) fun (M24 : Mem) => lt (wI M24 28 4 ((M24.1 28 4) + (1 : Int32))) fun (M25 : Mem) => j10 M25) (lt (wI M8 28 2 ((-3) : Int32)) fun (M26 : Mem) => fixN (fun _ => none) (fun (s28 : Mem → Option (Int32 × Mem)) (M27 : Mem) => br ((M27.1 28 1) ≤ (M27.1 28 4)) (j10 M27) (cp (f_X9_byteAt y 2 (M27.1 28 4) M27) fun (r32 : Int32) => cp (f_X10_isDigit y r32 M27) fun (r33 : Int32) => br (r33 = 0) (j10 M27) (jn (fun (M36 : Mem) => lt (wI M36 28 4 ((M36.1 28 4) + (1 : Int32))) fun (M38 : Mem) => s28 M38) fun j37 => br ((4 : Int32) ≤ ((M27.1 28 4) - (M27.1 28 3))) (j37 M27) (cp (f_X9_byteAt y 2 (M27.1 28 4) M27) fun (r41 : Int32) => lt (wI M27 28 5 ((((10 : Int32) * (M27.1 28 5)) + r41) - (48 : Int32))) fun (M42 : Mem) => j37 M42)))) FUEL M26)) (lt (wI M8 28 2 ((-2) : Int32)) fun (M43 : Mem) => fixN (fun _ => none) (fun (s45 : Mem → Option (Int32 × Mem)) (M44 : Mem) => br ((M44.1 28 1) ≤ (M44.1 28 4)) (j10 M44) (cp (f_X9_byteAt y 2 (M44.1 28 4) M44) fun (r49 : Int32) => cp (f_X10_isLetter y r49 M44) fun (r50 : Int32) => br (r50 = 0) (j10 M44) (lt (wI M44 28 4 ((M44.1 28 4) + (1 : Int32))) fun (M53 : Mem) => s45 M53))) FUEL M43)))) (lt (wI M8 28 2 ((-1) : Int32)) fun (M54 : Mem) => j10 M54)) (fun o => TC T o.2 p ∧ G28 M o.2) := by
    intro hb
    have ejs : tS T p = j := rn_at hb j1 (by omega) j5
    refine wp_lt (wp_lt (wp_jn ?_))
    rw [wI_sr, j4, wI_sr]
    have g8 : G28 M (sr (sr s 28 (up (s.1 28) 4 (n2 j))) 28 (up ((sr s 28 (up (s.1 28) 4 (n2 j))).1 28) 5 0)) := (j3.up (by decide) (by decide) (by decide)).up (by decide) (by decide) (by decide)
    have a3 : (sr (sr s 28 (up (s.1 28) 4 (n2 j))) 28 (up ((sr s 28 (up (s.1 28) 4 (n2 j))).1 28) 5 0)).1 28 3 = n2 j := by rw [sr_ap, up_ne (by decide), sr_ap, up_ne (by decide), j4]
    have a4 : (sr (sr s 28 (up (s.1 28) 4 (n2 j))) 28 (up ((sr s 28 (up (s.1 28) 4 (n2 j))).1 28) 5 0)).1 28 4 = n2 j := by rw [sr_ap, up_ne (by decide), sr_ap, up_eq]
    have a5 : (sr (sr s 28 (up (s.1 28) 4 (n2 j))) 28 (up ((sr s 28 (up (s.1 28) 4 (n2 j))).1 28) 5 0)).1 28 5 = 0 := by rw [sr_ap, up_eq]
    generalize sr (sr s 28 (up (s.1 28) 4 (n2 j))) 28 (up ((sr s 28 (up (s.1 28) 4 (n2 j))).1 28) 5 0) = M8 at g8 a3 a4 a5
    have h8 : TXC T M8 := h.g28 g8
    have a1 : M8.1 28 1 = n2 T.2 := h8.2.2.1
    obtain ⟨kt1, kt2, kt3, kt4⟩ := tKE (T := T) (p := p)
    rw [ejs] at kt1 kt2 kt3 kt4
    rw [a1, a3]
    by_cases q : j < T.2
    · refine wp_brt (by rw [n2_lt (by omega) (by omega)]; exact q) ?_
      have hv := hT.2 j q
      rw [gN_t (by decide), gK_t (k_2 hy), byteAt_c hy hT h8 q, cp_s, isLt_c hv, cp_s]
      by_cases ql : isLt (T.1 j) = true
      · refine wp_brf (by rw [b01_0]; exact fun z => z ql) (wp_lt ?_)
        obtain ⟨k1, k2⟩ := kt1 q ql
        rw [wI_sr]
        refine wp_fixn (fun i z => j ≤ i ∧ (G28 M z ∧ z.1 28 3 = n2 j ∧ z.1 28 4 = n2 i ∧ z.1 28 2 = -2) ∧ ∀ k, j ≤ k → k < i → inT T isLt k = true) T.2 (by omega) j2 ⟨Nat.le_refl j, ⟨g8.up (by decide) (by decide) (by decide), by rw [sr_ap, up_ne (by decide), a3], by rw [sr_ap, up_ne (by decide), a4], by rw [sr_ap, up_eq]⟩, fun k a b => by omega⟩ ?_
        intro f2 i z i2 hJ hk2
        obtain ⟨i1, ⟨i3, i4, i5, i6⟩, i7⟩ := hJ
        have hz : TXC T z := h.g28 i3
        have fin : ¬ inT T isLt i = true → wp (some ((0 : Int32), z)) (fun o => TC T o.2 p ∧ G28 M o.2) := fun hb2 => by
          have ei : rn (inT T isLt) j = i := rn_at hb2 i1 (by omega) i7
          refine wp_some ⟨⟨hz, hp, ⟨by rw [ejs]; exact i4, by rw [k2, ei]; exact i5⟩, ?_, fun w => ?_⟩, i3⟩
          · unfold kCl; rw [k1, if_neg (by decide), if_pos rfl]; exact i6
          · rw [k1] at w; exact absurd w (by decide)
        rw [hz.2.2.1, i5]
        by_cases qi : i < T.2
        · refine wp_brf (by rw [n2_le (by omega) (by omega)]; omega) ?_
          rw [byteAt_c hy hT hz qi, cp_s, isLt_c (hT.2 i qi), cp_s]
          by_cases ql2 : isLt (T.1 i) = true
          · refine wp_brf (by rw [b01_0]; exact fun w => w ql2) (wp_lt ?_)
            rw [wI_sr, n2_s]
            refine hk2 _ qi ⟨by omega, ⟨i3.up (by decide) (by decide) (by decide), ?_, ?_, ?_⟩, fun k a b => ?_⟩
            · rw [sr_ap, up_ne (by decide), i4]
            · rw [sr_ap, up_eq]
            · rw [sr_ap, up_ne (by decide), i6]
            · have b : k < i + 1 := b
              by_cases ek : k = i
              · rw [ek, inT_iff]; exact ⟨qi, ql2⟩
              · exact i7 k a (by omega)
          · exact wp_brt (by rw [b01_0]; exact ql2) (fin (fun w => ql2 (inT_iff.mp w).2))
        · exact wp_brt (by rw [n2_le (by omega) (by omega)]; omega) (fin (inT_no (by omega)))
      · refine wp_brt (by rw [b01_0]; exact ql) ?_
        rw [cp_s, isDg_c hv, cp_s]
        by_cases qd : isDg (T.1 j) = true
        · refine wp_brf (by rw [b01_0]; exact fun z => z qd) (wp_lt ?_)
          obtain ⟨k1, k2⟩ := kt2 q ql qd
          rw [wI_sr]
          refine wp_fixn (fun i z => j ≤ i ∧ (G28 M z ∧ z.1 28 3 = n2 j ∧ z.1 28 4 = n2 i ∧ z.1 28 2 = -3 ∧ z.1 28 5 = n2 (vlD T j (min (i - j) 4))) ∧ ∀ k, j ≤ k → k < i → inT T isDg k = true) T.2 (by omega) j2 ⟨Nat.le_refl j, ⟨g8.up (by decide) (by decide) (by decide), by rw [sr_ap, up_ne (by decide), a3], by rw [sr_ap, up_ne (by decide), a4], by rw [sr_ap, up_eq], by rw [sr_ap, up_ne (by decide), a5, Nat.sub_self, Nat.zero_min]; rfl⟩, fun k a b => by omega⟩ ?_
          intro f2 i z i2 hJ hk2
          obtain ⟨i1, ⟨i3, i4, i5, i6, i8⟩, i7⟩ := hJ
          have hz : TXC T z := h.g28 i3
          have fin : ¬ inT T isDg i = true → wp (some ((0 : Int32), z)) (fun o => TC T o.2 p ∧ G28 M o.2) := fun hb2 => by
            have ei : rn (inT T isDg) j = i := rn_at hb2 i1 (by omega) i7
            refine wp_some ⟨⟨hz, hp, ⟨by rw [ejs]; exact i4, by rw [k2, ei]; exact i5⟩, ?_, fun w w4 => ?_⟩, i3⟩
            · unfold kCl; rw [k1, if_neg (by decide), if_neg (by decide), if_pos rfl]; exact i6
            · rw [k2, ei, ejs] at w4
              unfold tV
              rw [k2, ei, ejs]
              rw [show min (i - j) 4 = i - j by omega] at i8
              exact i8
          rw [hz.2.2.1, i5]
          by_cases qi : i < T.2
          · refine wp_brf (by rw [n2_le (by omega) (by omega)]; omega) ?_
            rw [byteAt_c hy hT hz qi, cp_s, isDg_c (hT.2 i qi), cp_s]
            by_cases qd2 : isDg (T.1 i) = true
            · refine wp_brf (by rw [b01_0]; exact fun w => w qd2) (wp_jn ?_)
              have nxt : ∀ x, x = n2 (vlD T j (min (i + 1 - j) 4)) → ∀ z2, G28 M z2 → z2.1 28 3 = n2 j → z2.1 28 4 = n2 i → z2.1 28 2 = -3 → z2.1 28 5 = x → wp (lt (wI z2 28 4 ((z2.1 28 4) + (1 : Int32))) fun (M38 : Mem) => f2 M38) (fun o => TC T o.2 p ∧ G28 M o.2) := fun x hx z2 z1' z3 z4 z5 z6 => by
                refine wp_lt ?_
                rw [wI_sr, z4, n2_s]
                refine hk2 _ qi ⟨by omega, ⟨z1'.up (by decide) (by decide) (by decide), ?_, ?_, ?_, ?_⟩, fun k a b => ?_⟩
                · rw [sr_ap, up_ne (by decide), z3]
                · rw [sr_ap, up_eq]
                · rw [sr_ap, up_ne (by decide), z5]
                · rw [sr_ap, up_ne (by decide), z6, hx]
                · have b : k < i + 1 := b
                  by_cases ek : k = i
                  · rw [ek, inT_iff]; exact ⟨qi, qd2⟩
                  · exact i7 k a (by omega)
              rw [i4, show n2 i - n2 j = n2 (i - j) from n2_sub i1]
              refine wp_br (fun w => ?_) (fun w => ?_)
              · rw [show (4 : Int32) = n2 4 from rfl, n2_le (by decide) (by omega)] at w
                refine nxt _ ?_ z i3 i4 i5 i6 i8
                rw [show min (i + 1 - j) 4 = 4 by omega, show min (i - j) 4 = 4 by omega]
              · rw [show (4 : Int32) = n2 4 from rfl, n2_le (by decide) (by omega)] at w
                rw [cp_s, i8, dgstep (isDg_48 qd2).1]
                refine wp_lt ?_
                rw [wI_sr]
                refine nxt _ rfl _ (i3.up (by decide) (by decide) (by decide)) (by rw [sr_ap, up_ne (by decide), i4]) (by rw [sr_ap, up_ne (by decide), i5]) (by rw [sr_ap, up_ne (by decide), i6]) ?_
                rw [sr_ap, up_eq, show min (i + 1 - j) 4 = (i - j) + 1 by omega, show min (i - j) 4 = i - j by omega, vlD_s, show j + (i - j) = i by omega]
            · exact wp_brt (by rw [b01_0]; exact qd2) (fin (fun w => qd2 (inT_iff.mp w).2))
          · exact wp_brt (by rw [n2_le (by omega) (by omega)]; omega) (fin (inT_no (by omega)))
        · refine wp_brt (by rw [b01_0]; exact qd) ?_
          obtain ⟨k1, k2⟩ := kt3 q ql qd
          rw [cp_s]
          refine wp_lt (wp_lt ?_)
          rw [wI_sr, wI_sr, sr_ap, up_ne (show ¬ 4 = 2 by decide), a4, n2_s]
          have g9 := (g8.up (k := 2) (x := n2 (T.1 j)) (by decide) (by decide) (by decide)).up (k := 4) (x := n2 (j + 1)) (by decide) (by decide) (by decide)
          rw [sr_ap] at g9
          refine wp_some ⟨⟨h.g28 g9, hp, ⟨?_, ?_⟩, ?_, fun w => ?_⟩, g9⟩
          · rw [ejs, sr_ap, up_ne (by decide), up_ne (by decide), a3]
          · rw [k2, sr_ap, up_eq]
          · unfold kCl
            rw [k1, if_neg (by decide), if_neg (by decide), if_neg (by decide), ejs, sr_ap, up_ne (by decide), up_eq]
          · rw [k1] at w; exact absurd w (by decide)
    · refine wp_brf (by rw [n2_lt (by omega) (by omega)]; exact q) (wp_lt ?_)
      obtain ⟨k1, k2⟩ := kt4 q
      rw [wI_sr]
      have g9 := g8.up (k := 2) (x := -1) (by decide) (by decide) (by decide)
      refine wp_some ⟨⟨h.g28 g9, hp, ⟨?_, ?_⟩, ?_, fun w => ?_⟩, g9⟩
      · rw [ejs, sr_ap, up_ne (by decide), a3]
      · rw [k2, sr_ap, up_ne (by decide), a4]
      · unfold kCl
        rw [k1, if_pos rfl, sr_ap, up_eq]
      · rw [k1] at w; exact absurd w (by decide)
  rw [hs.2.2.1, j4]
  by_cases q : j < T.2
  · refine wp_brf (by rw [n2_le (by omega) (by omega)]; omega) ?_
    rw [r_28_0 hy, gN_t (by decide), gK_t (k_2 hy), byteAt_c hy hT hs q, cp_s, isBk_c (hT.2 j q), cp_s]
    by_cases qb : isBk (T.1 j) = true
    · refine wp_brf (by rw [b01_0]; exact fun w => w qb) (wp_lt ?_)
      rw [wI_sr, n2_s]
      refine hk _ q ⟨by omega, ⟨j3.up (by decide) (by decide) (by decide), by rw [sr_ap, up_eq]⟩, fun k a b => ?_⟩
      have b : k < j + 1 := b
      by_cases ek : k = j
      · rw [ek, inT_iff]; exact ⟨q, qb⟩
      · exact j5 k a (by omega)
    · refine wp_brt (by rw [b01_0]; exact qb) ?_
      rw [j4] at rest
      exact rest (fun w => qb (inT_iff.mp w).2)
  · refine wp_brt (by rw [n2_le (by omega) (by omega)]; omega) ?_
    rw [j4] at rest
    rw [r_28_0 hy]
    exact rest (inT_no (by omega))
