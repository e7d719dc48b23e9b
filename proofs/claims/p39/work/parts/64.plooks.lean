/-! ===== calls that look ahead ===== -/
/-- the class's trial sky, a day on -/
theorem tday_c {y : Lay} (hy : LY y) {A : St} {s : Mem} (h : CR A s) (v : VAL A) (hS : SOK (aK A) (skV s 58 59 62 63)) : wp (f_X8_passDay y 58 s) (fun o => CR A o.2 ∧ kM s o.2 ∧ skV o.2 58 59 62 63 = pDay (aK A) (skV s 58 59 62 63) ∧ o.2.1 60 = va_cpy (s.1 59) (s.1 60) 0 0 30) := by
  refine wp_mono (passDay_58 hy v.1 h.1 hS) (fun o q => ?_)
  obtain ⟨-, q2, q3, q4, -⟩ := q
  have hS' : SOK (aK A) (skV o.2 58 59 62 63) := by rw [q3]; exact pDay_ok v.1 hS
  exact ⟨h.trial (q2.mono (by decide)) (SOK.zr (s := 58) v.1 hS'), q2.kM (by decide), q3, q4⟩
theorem la_c {y : Lay} (hy : LY y) {A : St} {M : Mem} (h : CR A M) (v : VAL A) {d : Nat} (hd : d ≤ 40) : wp (f_X11_lookAhead y 1 (n2 d) M) (fun o => CR A o.2 ∧ kM M o.2 ∧ ∃ T, vo T = vo (aS A) ∧ SOK (aK A) T ∧ skV o.2 58 59 62 63 = pDays (aK A) T d) := by
  refine wp_mono (lookAhead_v hy h v hd) (fun o q => ?_)
  obtain ⟨-, ⟨q2, q3⟩, q4⟩ := q
  exact ⟨h.trial q2 q3, q2.kM (by decide), _, h.2.1.1, h.sok v, q4⟩
/-- the model looks ahead -/
def LK (M0 s : Mem) : Prop := Eqx [73, 87, 88, 90, 91, 92, 93, 94] M0 s ∧ F73 M0 s ∧ PKD (s.1 93) 0 (moV M0)
theorem LK.step {M0 s t : Mem} (h : LK M0 s) (e : Eqx [73, 87, 88, 90, 91, 92, 94] s t) (f : F73 s t) : LK M0 t := ⟨h.1.trans (e.mono (by decide)), h.2.1.trans f, by rw [e.2 93 (by decide)]; exact h.2.2⟩
theorem look_in {y : Lay} (hy : LY y) {M0 : Mem} {β : Type} {k : Int32 → Mem → Option β} {Q : β → Prop} (hk : ∀ r M1, LK M0 M1 → moV M1 = moV M0 → wp (k r M1) Q) : wp (c0 (f_X12_pack y 73 93 0 M0) k) Q := by
  refine wp_c0 _ (pack_93 hy (f := 0) (by decide)) (fun r M1 q => ?_)
  obtain ⟨-, q2, q3, -⟩ := q
  dsimp only at q2 q3
  refine hk r M1 ⟨q2.mono (by decide), F73.row (q2.2 73 (by decide)), q3⟩ ?_
  unfold moV
  rw [q2.2 73 (by decide), q2.2 87 (by decide), q2.2 88 (by decide), q2.2 85 (by decide)]
theorem look_out {y : Lay} (hy : LY y) {A : St} {M M0 s : Mem} (h0 : MR A M0) (v : VAL A) (g0 : kC M M0) (hc : M0.1 73 4 = 0) (hL : LK M0 s) (hS : SOK (aK A) (moV s)) {k : Int32 → Mem → Option (Int32 × Mem)} {Q : Int32 × Mem → Prop} (hk : ∀ r N, MR A N → kC M N → N.1 73 4 = 0 → N.1 73 41 = s.1 73 41 → wp (k r N) Q) : wp (c0 (f_X12_unpack y 73 93 0 s) k) Q := by
  have hS0 := h0.sok v
  refine wp_c0 _ (unpack_93 hy (f := 0) (by decide) (S := moV M0) hL.2.2 ?_ ?_) (fun r N q => ?_)
  · intro k hk
    exact (hS.b v.1 k hk).trans (hS0.b v.1 k hk).symm
  · intro k hk
    exact (hS.sp k hk).trans (hS0.sp k hk).symm
  · obtain ⟨-, q2, q3, q4⟩ := q
    dsimp only at q2 q3 q4
    have hE : Eqx [73, 87, 88, 90, 91, 92, 93, 94] M0 N := hL.1.trans (q2.mono (by decide))
    have hF : F73 M0 N := hL.2.1.trans (F73.un q4)
    refine hk r N (MR.look h0 (hE.mono (by decide)) ?_ hF) (g0.trans (hE.kC (by decide))) ?_ (q4 41 (by decide))
    · rw [q3, hL.1.2 85 (by decide)]; rfl
    · have : N.1 73 4 = M0.1 73 4 := hF 4 (by decide)
      rw [this, hc]
theorem LK.com {K : KG} {M0 s : Mem} (h : LK M0 s) (hC : COM K M0) : COM K s := hC.eqx h.1 (by decide)
theorem lday_m {y : Lay} (hy : LY y) {A : St} {M0 s : Mem} (h0 : MR A M0) (v : VAL A) (hL : LK M0 s) (hS : SOK (aK A) (moV s)) : wp (f_X12_aDay y 73 s) (fun o => LK M0 o.2 ∧ moV o.2 = pDay (aK A) (moV s) ∧ Eqx [73, 87, 90, 91, 92] s o.2) := by
  refine wp_mono (aDay_v hy v.1 (hL.com h0.1) hS) (fun o q => ?_)
  obtain ⟨-, q2, q3, q4⟩ := q
  exact ⟨hL.step (q2.mono (by decide)) (F73.day q4), q3, q2⟩
theorem lgo_m {y : Lay} (hy : LY y) {A : St} {M0 s : Mem} (h0 : MR A M0) (v : VAL A) (hL : LK M0 s) (hS : SOK (aK A) (moV s)) {d : Nat} (hd : d ≤ 40) : wp (f_X12_goOn y 73 (n2 d) s) (fun o => LK M0 o.2 ∧ moV o.2 = pDays (aK A) (moV s) d) := by
  refine wp_mono (goOn_v hy v.1 (hL.com h0.1) hS (d := d) (by omega)) (fun o q => ?_)
  obtain ⟨-, q2, q3, q4⟩ := q
  exact ⟨hL.step (q2.mono (by decide)) (F73.day q4), q3⟩
/-! then -/
def thenP (A : St) (c n : Int32) : Nat × Int32 := if inN (kn (aK A)) c then (if inR 0 40 n then (0, sB (pDays (aK A) (aS A) n.toInt.toNat) c.toInt.toNat) else (2, 0)) else (1, 0)
theorem then_c {y : Lay} (hy : LY y) {A : St} {M : Mem} (h : CR A M) (v : VAL A) (c n : Int32) : wp (f_X11_then y 1 c n M) (OC A (thenP A c n) M) := by
  unfold f_X11_then thenP
  have h30 := v.1.n30
  rw [gK_t (k_1 hy)]
  rcases needCell_s hy (h.1.geo v.1) c with ⟨q, e⟩ | ⟨q, e⟩
  · have qq : inN (kn (aK A)) c := q
    rw [e, cx_s, if_pos qq]
    clear qq
    obtain ⟨e1, e2⟩ := inN_n q
    generalize c.toInt.toNat = cc at e1 e2 ⊢
    subst e1
    have hc : cc < 30 := Nat.lt_of_lt_of_le e2 h30
    rcases needWithin_s (y := y) (M := M) (a := 0) (b := 40) (by decide) (by decide) n with ⟨w, e⟩ | ⟨w, e⟩
    · have e : f_X11_needWithin y 1 n 0 40 M = some (0, 0, M) := e
      rw [e, cx_s, if_pos w]
      obtain ⟨w1, -, w3⟩ := inR_n w
      generalize n.toInt.toNat = nn at w1 w3 ⊢
      subst w1
      refine wp_c0 _ (la_c hy h v w3) (fun r M1 q => ?_)
      obtain ⟨q1, q2, T, q3, -, q4⟩ := q
      dsimp only at q1 q2 q4
      simp only [lT_s, jn_s, c0_s, cp_s, cx_s, cx_t, gK_t (k_1 hy), gN_t (r := 1) (by decide), r_1_0 hy, r_1_1 hy, r_1_2 hy, r_1_3 hy, r_1_4 hy, r_1_5 hy, r_1_6 hy, r_1_7 hy, r_1_8 hy, r_1_9 hy, r_1_10 hy, gK_t (k_58 hy), gN_t (r := 58) (by decide), r_58_0 hy, r_58_1 hy, r_58_2 hy, r_58_3 hy, r_58_4 hy, r_58_5 hy, r_58_6 hy, blueOf_58 hy hc]
      refine OC.ret' ?_ q1 q2
      have e5 : M1.1 59 = sB (skV M1 58 59 62 63) := rfl
      rw [e5, q4, b_eqo (pDays_eqo q3 nn)]
    · have e : f_X11_needWithin y 1 n 0 40 M = some (2, 0, M) := e
      rw [e, if_neg w]
      exact OC.thr h (by decide)
  · have qq : ¬ inN (kn (aK A)) c := q
    rw [e, if_neg qq]
    exact OC.thr h (by decide)
theorem then_m {y : Lay} (hy : LY y) {A : St} {M : Mem} (h : MR A M) (v : VAL A) (c n : Int32) : wp (f_X12_then y 73 c n M) (OM A (thenP A c n) M) := by
  unfold f_X12_then thenP
  have h30 := v.1.n30
  rw [gK_t (k_73 hy)]
  refine OM.start hy h (fun M0 h0 g0 hc0 => ?_)
  have hS0 := h0.sok v
  rcases isCell_s hy (h0.1.geo v.1) c with ⟨q, e⟩ | ⟨q, e⟩
  · have qq : inN (kn (aK A)) c := q
    rw [e, cp_s, if_pos qq]
    clear qq
    refine wp_brf (by decide) ?_
    obtain ⟨e1, e2⟩ := inN_n q
    generalize c.toInt.toNat = cc at e1 e2 ⊢
    subst e1
    have hc : cc < 30 := Nat.lt_of_lt_of_le e2 h30
    rcases isIn_r (y := y) (M := M0) (a := 0) (b := 40) (la := 0) (lb := 40) (by decide) (by decide) n with ⟨w, e⟩ | ⟨w, e⟩
    · rw [e, cp_s, if_pos w]
      refine wp_brf (by decide) ?_
      obtain ⟨w1, -, w3⟩ := inR_n w
      generalize n.toInt.toNat = nn at w1 w3 ⊢
      subst w1
      simp only [gN_t (r := 93) (by decide), r_73_42 hy]
      refine look_in hy (fun r M1 hL hV => ?_)
      refine wp_c0 _ (lgo_m hy h0 v hL (by rw [hV]; exact hS0) w3) (fun r M2 q => ?_)
      obtain ⟨q1, q2⟩ := q
      dsimp only at q1 q2
      simp only [lT_s, jn_s, c0_s, cp_s, cx_s, cx_t, gN_t (r := 87) (by decide), r_73_28 hy, gA_n (k_87 hy) hc (by omega), n2_nat (show cc < 2147483648 by omega)]
      refine look_out hy h0 v g0 hc0 q1 (by rw [q2, hV]; exact pDays_ok v.1 hS0 nn) (fun r N n1 n2 n3 _ => ?_)
      refine OM.ret' ?_ n1 n2 n3
      have e5 : M2.1 87 = sB (moV M2) := rfl
      rw [e5, q2, hV, b_eqo (pDays_eqo h0.2.1.1 nn)]
    · rw [e, cp_s, if_neg w]
      exact wp_brt rfl (OM.fail hy rfl (by decide) h0 g0)
  · have qq : ¬ inN (kn (aK A)) c := q
    rw [e, cp_s, if_neg qq]
    exact wp_brt rfl (OM.fail hy rfl (by decide) h0 g0)
/-! sky -/
def skyN (K : KG) (S : Sk) : Nat → Int32
  | 0 => sKn S
  | 1 => sMa S
  | 2 => unP (sPg S) (sB S) (kn K)
  | 3 => enc (deP (sPg S) (sB S) (kn K))
  | _ => enc (paP (sPg S) (sB S) (kn K))
theorem skyN_eqo {K : KG} {S T : Sk} (h : vo S = vo T) : ∀ m, skyN K S m = skyN K T m
  | 0 => kn_eqo h
  | 1 => ma_eqo h
  | 2 => by show unP _ _ _ = unP _ _ _; rw [pg_eqo h, b_eqo h]
  | 3 => by show enc (deP _ _ _) = enc (deP _ _ _); rw [pg_eqo h, b_eqo h]
  | m + 4 => by show enc (paP _ _ _) = enc (paP _ _ _); rw [pg_eqo h, b_eqo h]
def skyP (A : St) (n w : Int32) : Nat × Int32 := if inR 0 4 w then (if inR 0 40 n then (0, skyN (aK A) (pDays (aK A) (aS A) n.toInt.toNat) w.toInt.toNat) else (2, 0)) else (1, 0)
theorem m5 {m : Nat} (h : m ≤ 4) : m = 0 ∨ m = 1 ∨ m = 2 ∨ m = 3 ∨ m = 4 := by omega
theorem sky_c {y : Lay} (hy : LY y) {A : St} {M : Mem} (h : CR A M) (v : VAL A) (n w : Int32) : wp (f_X11_sky y 1 n w M) (OC A (skyP A n w) M) := by
  unfold f_X11_sky skyP
  rw [gK_t (k_1 hy)]
  rcases needWhat_s (y := y) (M := M) (m := 4) (by decide) w with ⟨q, e⟩ | ⟨q, e⟩
  · have e : f_X11_needWhat y 1 w 4 M = some (0, 0, M) := e
    have qq : inR 0 4 w := ⟨q.1, by have := q.2; omega⟩
    rw [e, cx_s, if_pos qq]
    rcases needWithin_s (y := y) (M := M) (a := 0) (b := 40) (by decide) (by decide) n with ⟨u, e⟩ | ⟨u, e⟩
    · have e : f_X11_needWithin y 1 n 0 40 M = some (0, 0, M) := e
      rw [e, cx_s, if_pos u]
      obtain ⟨u1, -, u3⟩ := inR_n u
      generalize n.toInt.toNat = nn at u1 u3 ⊢
      subst u1
      refine wp_c0 _ (la_c hy h v u3) (fun r M1 q => ?_)
      obtain ⟨q1, q2, T, q3, -, q4⟩ := q
      dsimp only at q1 q2 q4
      have g := q1.1.geo v.1
      simp only [lT_s, jn_s, c0_s, cp_s, cx_s, cx_t, gK_t (k_1 hy), gN_t (r := 1) (by decide), r_1_0 hy, r_1_1 hy, r_1_2 hy, r_1_3 hy, r_1_4 hy, r_1_5 hy, r_1_6 hy, r_1_7 hy, r_1_8 hy, r_1_9 hy, r_1_10 hy, gK_t (k_58 hy), gN_t (r := 58) (by decide), r_58_0 hy, r_58_1 hy, r_58_2 hy, r_58_3 hy, r_58_4 hy, r_58_5 hy, r_58_6 hy, palest_58 hy g, deepest_58 hy g, uneven_58 hy g]
      obtain ⟨z1, -, z3⟩ := inR_n qq
      generalize w.toInt.toNat = m at z1 z3 ⊢
      subst z1
      have key : skyN (aK A) (skV M1 58 59 62 63) m = skyN (aK A) (pDays (aK A) (aS A) nn) m := by rw [q4, skyN_eqo (pDays_eqo q3 nn)]
      have fin : ∀ r, r = skyN (aK A) (skV M1 58 59 62 63) m → wp (some (0, r, M1)) (OC A (0, skyN (aK A) (pDays (aK A) (aS A) nn) m) M) := fun r hr => OC.ret' (hr.trans key) q1 q2
      rcases m5 z3 with rfl | rfl | rfl | rfl | rfl
      · refine wp_brf (by decide) (wp_brt (by decide) (fin _ rfl))
      · refine wp_brf (by decide) (wp_brf (by decide) (wp_brt (by decide) (fin _ rfl)))
      · refine wp_brf (by decide) (wp_brf (by decide) (wp_brf (by decide) (wp_brt (by decide) (fin _ rfl))))
      · refine wp_brf (by decide) (wp_brf (by decide) (wp_brf (by decide) (wp_brf (by decide) (fin _ rfl))))
      · refine wp_brt (by decide) (fin _ rfl)
    · have e : f_X11_needWithin y 1 n 0 40 M = some (2, 0, M) := e
      rw [e, if_neg u]
      exact OC.thr h (by decide)
  · have e : f_X11_needWhat y 1 w 4 M = some (1, 0, M) := e
    have qq : ¬ inR 0 4 w := fun z => q ⟨z.1, by have := z.2; omega⟩
    rw [e, if_neg qq]
    exact OC.thr h (by decide)
theorem sky_m {y : Lay} (hy : LY y) {A : St} {M : Mem} (h : MR A M) (v : VAL A) (n w : Int32) : wp (f_X12_sky y 73 n w M) (OM A (skyP A n w) M) := by
  unfold f_X12_sky skyP
  rw [gK_t (k_73 hy)]
  refine OM.start hy h (fun M0 h0 g0 hc0 => ?_)
  have hS0 := h0.sok v
  rcases isIn_r (y := y) (M := M0) (a := 0) (b := 4) (la := 0) (lb := 4) (by decide) (by decide) w with ⟨q, e⟩ | ⟨q, e⟩
  · rw [e, cp_s, if_pos q]
    refine wp_brf (by decide) ?_
    rcases isIn_r (y := y) (M := M0) (a := 0) (b := 40) (la := 0) (lb := 40) (by decide) (by decide) n with ⟨u, e⟩ | ⟨u, e⟩
    · rw [e, cp_s, if_pos u]
      refine wp_brf (by decide) ?_
      obtain ⟨u1, -, u3⟩ := inR_n u
      generalize n.toInt.toNat = nn at u1 u3 ⊢
      subst u1
      simp only [gN_t (r := 93) (by decide), r_73_42 hy]
      refine look_in hy (fun r M1 hL hV => ?_)
      refine wp_c0 _ (lgo_m hy h0 v hL (by rw [hV]; exact hS0) u3) (fun r M2 p => ?_)
      obtain ⟨q1, q2⟩ := p
      dsimp only at q1 q2
      have g := (q1.com h0.1).geo v.1
      simp only [lT_s, jn_s, c0_s, cp_s, cx_s, cx_t, unevenM hy g, extreme_1 hy g, extreme_0 hy g]
      obtain ⟨z1, -, z3⟩ := inR_n q
      generalize w.toInt.toNat = m at z1 z3 ⊢
      subst z1
      have key : skyN (aK A) (moV M2) m = skyN (aK A) (pDays (aK A) (aS A) nn) m := by rw [q2, hV, skyN_eqo (pDays_eqo h0.2.1.1 nn)]
      have fin : ∀ r, r = skyN (aK A) (moV M2) m → wp (c0 (f_X12_unpack y 73 93 0 M2) fun (r16 : Int32) (M17 : Mem) => some (r, M17)) (OM A (0, skyN (aK A) (pDays (aK A) (aS A) nn) m) M) := fun r hr =>
        look_out hy h0 v g0 hc0 q1 (by rw [q2, hV]; exact pDays_ok v.1 hS0 nn) (fun _ N n1 n2 n3 _ => OM.ret' (hr.trans key) n1 n2 n3)
      rcases m5 z3 with rfl | rfl | rfl | rfl | rfl
      · exact wp_brt (by decide) (fin _ rfl)
      · exact wp_brf (by decide) (wp_brt (by decide) (fin _ rfl))
      · exact wp_brf (by decide) (wp_brf (by decide) (wp_brt (by decide) (fin _ rfl)))
      · exact wp_brf (by decide) (wp_brf (by decide) (wp_brf (by decide) (wp_brt (by decide) (fin _ rfl))))
      · exact wp_brf (by decide) (wp_brf (by decide) (wp_brf (by decide) (wp_brf (by decide) (fin _ rfl))))
    · rw [e, cp_s, if_neg u]
      exact wp_brt rfl (OM.fail hy rfl (by decide) h0 g0)
  · rw [e, cp_s, if_neg q]
    exact wp_brt rfl (OM.fail hy rfl (by decide) h0 g0)
/-! overdone -/
def ovdP (A : St) (n : Int32) : Nat × Int32 := if inR 1 40 n then (0, sOv (pDays (aK A) (aS A) n.toInt.toNat)) else (2, 0)
def ovdPm (A : St) (n : Int32) : Nat × Int32 := if inR 1 40 n then (0, sOv (pDays (aK A) (aS A) n.toInt.toNat)) else (1, 0)
theorem overdone_c {y : Lay} (hy : LY y) {A : St} {M : Mem} (h : CR A M) (v : VAL A) (n : Int32) : wp (f_X11_overdone y 1 n M) (OC A (ovdP A n) M) := by
  unfold f_X11_overdone ovdP
  rw [gK_t (k_1 hy)]
  rcases needWithin_s (y := y) (M := M) (a := 1) (b := 40) (by decide) (by decide) n with ⟨u, e⟩ | ⟨u, e⟩
  · have e : f_X11_needWithin y 1 n 1 40 M = some (0, 0, M) := e
    rw [e, cx_s, if_pos u]
    obtain ⟨u1, u2, u3⟩ := inR_n u
    generalize n.toInt.toNat = nn at u1 u2 u3 ⊢
    subst u1
    refine wp_c0 _ (la_c hy h v u3) (fun r M1 q => ?_)
    obtain ⟨q1, q2, T, q3, -, q4⟩ := q
    dsimp only at q1 q2 q4
    simp only [gK_t (k_1 hy), gN_t (r := 1) (by decide), r_1_0 hy, r_1_1 hy, r_1_2 hy, r_1_3 hy, r_1_4 hy, r_1_5 hy, r_1_6 hy, r_1_7 hy, r_1_8 hy, r_1_9 hy, r_1_10 hy, gK_t (k_58 hy), gN_t (r := 58) (by decide), r_58_0 hy, r_58_1 hy, r_58_2 hy, r_58_3 hy, r_58_4 hy, r_58_5 hy, r_58_6 hy]
    refine OC.ret' ?_ q1 q2
    have e5 : M1.1 58 12 = sOv (skV M1 58 59 62 63) := rfl
    rw [e5, q4, vo_pDays q3 nn (by omega)]
  · have e : f_X11_needWithin y 1 n 1 40 M = some (2, 0, M) := e
    rw [e, if_neg u]
    exact OC.thr h (by decide)
theorem overdone_m {y : Lay} (hy : LY y) {A : St} {M : Mem} (h : MR A M) (v : VAL A) (n : Int32) : wp (f_X12_overdone y 73 n M) (OM A (ovdPm A n) M) := by
  unfold f_X12_overdone ovdPm
  rw [gK_t (k_73 hy)]
  refine OM.start hy h (fun M0 h0 g0 hc0 => ?_)
  have hS0 := h0.sok v
  rcases isIn_r (y := y) (M := M0) (a := 1) (b := 40) (la := 1) (lb := 40) (by decide) (by decide) n with ⟨u, e⟩ | ⟨u, e⟩
  · rw [e, cp_s, if_pos u]
    refine wp_brf (by decide) ?_
    obtain ⟨u1, u2, u3⟩ := inR_n u
    generalize n.toInt.toNat = nn at u1 u2 u3 ⊢
    subst u1
    simp only [gN_t (r := 93) (by decide), r_73_42 hy]
    refine look_in hy (fun r M1 hL hV => ?_)
    refine wp_c0 _ (lgo_m hy h0 v hL (by rw [hV]; exact hS0) u3) (fun r M2 p => ?_)
    obtain ⟨q1, q2⟩ := p
    dsimp only at q1 q2
    refine look_out hy h0 v g0 hc0 q1 (by rw [q2, hV]; exact pDays_ok v.1 hS0 nn) (fun _ N n1 n2 n3 n4 => OM.ret' ?_ n1 n2 n3)
    have e5 : M2.1 73 41 = sOv (moV M2) := rfl
    rw [n4, e5, q2, hV, vo_pDays h0.2.1.1 nn (by omega)]
  · rw [e, cp_s, if_neg u]
    exact wp_brt rfl (OM.fail hy rfl (by decide) h0 g0)
/-! first -/
def enc1 : Option Nat → Int32
  | none => -1
  | some j => n2 (j + 1)
def firQ (A : St) (c : Nat) : Nat → Bool := fun k => decide (bt (sOv (pDays (aK A) (aS A) (k + 1))) c = 1)
def firP (A : St) (c : Int32) : Nat × Int32 := if inN (kn (aK A)) c then (0, enc1 (fst (firQ A c.toInt.toNat) 40)) else (1, 0)
theorem pDays_1 {K : KG} {S T : Sk} (h : vo S = vo T) (k : Nat) : pDays K S (k + 1) = pDays K T (k + 1) := vo_pDays h (k + 1) (Nat.succ_pos k)
theorem first_c {y : Lay} (hy : LY y) {A : St} {M : Mem} (h : CR A M) (v : VAL A) (c : Int32) : wp (f_X11_first y 1 c M) (OC A (firP A c) M) := by
  unfold f_X11_first firP
  rw [gK_t (k_1 hy)]
  have h30 := v.1.n30
  rcases needCell_s hy (h.1.geo v.1) c with ⟨q, e⟩ | ⟨q, e⟩
  · have qq : inN (kn (aK A)) c := q
    rw [e, cx_s, if_pos qq]
    clear qq
    obtain ⟨e1, e2⟩ := inN_n q
    generalize c.toInt.toNat = cc at e1 e2 ⊢
    subst e1
    refine wp_c0 _ (la_c hy h v (d := 0) (by decide)) (fun r M1 q => ?_)
    obtain ⟨q1, q2, T, q3, q5, q4⟩ := q
    dsimp only at q1 q2 q4
    simp only [gK_t (k_1 hy), gN_t (r := 1) (by decide), r_1_0 hy, r_1_1 hy, r_1_2 hy, r_1_3 hy, r_1_4 hy, r_1_5 hy, r_1_6 hy, r_1_7 hy, r_1_8 hy, r_1_9 hy, r_1_10 hy, gK_t (k_58 hy), gN_t (r := 58) (by decide), r_58_0 hy, r_58_1 hy, r_58_2 hy, r_58_3 hy, r_58_4 hy, r_58_5 hy, r_58_6 hy]
    refine wp_fork (κ := Int32 → Mem → Option (Nat × Int32 × Mem)) (fun f j s => f (n2 (j + 1)) s) (fun j s => CR A s ∧ kM M s ∧ skV s 58 59 62 63 = pDays (aK A) T j ∧ fst (firQ A cc) j = none) 40 (by decide) (i0 := 0) (by decide) ⟨q1, q2, q4, rfl⟩ ?_ ?_
    · intro f j s hj hI hk
      obtain ⟨i1, i2, i3, i4⟩ := hI
      refine wp_brf (by rw [show (40 : Int32) = n2 40 from rfl, n2_lt (by decide) (by omega)]; omega) ?_
      refine wp_c0 _ (tday_c hy i1 v (by rw [i3]; exact pDays_ok v.1 q5 j)) (fun r M2 q => ?_)
      obtain ⟨w1, w2, w3, -⟩ := q
      dsimp only at w1 w2 w3
      have w3' : skV M2 58 59 62 63 = pDays (aK A) T (j + 1) := by rw [w3, i3]; rfl
      have e5 : M2.1 58 12 = sOv (skV M2 58 59 62 63) := rfl
      rw [e5, w3', pDays_1 q3]
      have e6 : (sOv (pDays (aK A) (aS A) (j + 1)) >>> (n2 cc &&& 31)) &&& 1 = bt (sOv (pDays (aK A) (aS A) (j + 1))) cc := rfl
      rw [e6]
      refine wp_br (fun u => ?_) (fun u => ?_)
      · rw [n2_s]
        refine hk _ ⟨w1, i2.trans w2, w3', fst_no i4 (fun z => ?_)⟩
        have z' := of_decide_eq_true z
        rw [u] at z'
        exact absurd z' (by decide)
      · refine OC.ret' ?_ w1 (i2.trans w2)
        rw [fst_yes i4 (decide_eq_true (bt_ne.mp u)) 40 hj]
        rfl
    · intro f s hI
      obtain ⟨i1, i2, i3, i4⟩ := hI
      refine wp_brt (by decide) (OC.ret' ?_ i1 i2)
      rw [i4]; rfl
  · have qq : ¬ inN (kn (aK A)) c := q
    rw [e, if_neg qq]
    exact OC.thr h (by decide)
theorem enc1_ne (j : Nat) (hj : j < 100) : ¬ n2 (j + 1) = -1 := fun e => by
  have : (n2 (j + 1)).toInt = -1 := by rw [e]; decide
  rw [n2_int (by omega)] at this
  omega
theorem enc_ne (j : Nat) (hj : j < 100) : ¬ n2 j = -1 := fun e => by
  have : (n2 j).toInt = -1 := by rw [e]; decide
  rw [n2_int (by omega)] at this
  omega
theorem first_m {y : Lay} (hy : LY y) {A : St} {M : Mem} (h : MR A M) (v : VAL A) (c : Int32) : wp (f_X12_first y 73 c M) (OM A (firP A c) M) := by
  unfold f_X12_first firP
  rw [gK_t (k_73 hy)]
  refine OM.start hy h (fun M0 h0 g0 hc0 => ?_)
  have hS0 := h0.sok v
  rcases isCell_s hy (h0.1.geo v.1) c with ⟨q, e⟩ | ⟨q, e⟩
  · have qq : inN (kn (aK A)) c := q
    rw [e, cp_s, if_pos qq]
    clear qq
    refine wp_brf (by decide) ?_
    obtain ⟨e1, e2⟩ := inN_n q
    generalize c.toInt.toNat = cc at e1 e2 ⊢
    subst e1
    simp only [gN_t (r := 93) (by decide), r_73_42 hy]
    refine look_in hy (fun r M1 hL hV => ?_)
    simp only [lT_s, jn_s, c0_s, cp_s, cx_s, cx_t]
    refine wp_fork (κ := Int32 → Int32 → Mem → Option (Int32 × Mem)) (S := Int32 × Mem) (fun f j s => f s.1 (n2 (j + 1)) s.2) (fun j s => LK M0 s.2 ∧ SOK (aK A) (moV s.2) ∧ ((s.1 = -1 ∧ fst (firQ A cc) j = none ∧ moV s.2 = pDays (aK A) (moV M0) j) ∨ (¬ s.1 = -1 ∧ s.1 = enc1 (fst (firQ A cc) 40)))) 40 (by decide) (i0 := 0) (s0 := (-1, M1)) (by decide) ⟨hL, by rw [hV]; exact hS0, Or.inl ⟨rfl, rfl, hV⟩⟩ ?_ ?_
    · intro f j s hj hI hk
      obtain ⟨b, s⟩ := s
      obtain ⟨i1, i2, i3⟩ := hI
      dsimp only at i1 i2 i3 hk ⊢
      refine wp_brf (by rw [show (40 : Int32) = n2 40 from rfl, n2_lt (by decide) (by omega)]; omega) ?_
      rcases i3 with ⟨rfl, i4, i5⟩ | ⟨i4, i5⟩
      · refine wp_brt rfl ?_
        refine wp_c0 _ (lday_m hy h0 v i1 i2) (fun r M2 q => ?_)
        obtain ⟨w1, w2, -⟩ := q
        dsimp only at w1 w2
        have w3 : moV M2 = pDays (aK A) (moV M0) (j + 1) := by rw [w2, i5]; rfl
        have hS2 : SOK (aK A) (moV M2) := by rw [w2]; exact pDay_ok v.1 i2
        have e5 : M2.1 73 41 = sOv (moV M2) := rfl
        rw [e5, w3, pDays_1 h0.2.1.1, isOf_f, cp_s]
        rcases bt01 (sOv (pDays (aK A) (aS A) (j + 1))) cc with u | u
        · rw [fl01_0 u]
          refine wp_brt rfl ?_
          rw [n2_s]
          refine hk (-1, M2) ⟨w1, hS2, Or.inl ⟨rfl, fst_no i4 (fun z => ?_), w3⟩⟩
          have z' := of_decide_eq_true z
          rw [u] at z'
          exact absurd z' (by decide)
        · rw [fl01_1 u]
          refine wp_brf (by decide) ?_
          rw [n2_s]
          refine hk (n2 (j + 1), M2) ⟨w1, hS2, Or.inr ⟨enc1_ne j (by omega), ?_⟩⟩
          rw [fst_yes i4 (decide_eq_true u) 40 hj]
          rfl
      · refine wp_brf i4 ?_
        exact look_out hy h0 v g0 hc0 i1 i2 (fun _ N n1 n2 n3 _ => OM.ret' i5 n1 n2 n3)
    · intro f s hI
      obtain ⟨b, s⟩ := s
      obtain ⟨i1, i2, i3⟩ := hI
      dsimp only at i1 i2 i3 ⊢
      refine wp_brt (by decide) ?_
      refine look_out hy h0 v g0 hc0 i1 i2 (fun _ N n1 n2 n3 _ => OM.ret' ?_ n1 n2 n3)
      rcases i3 with ⟨rfl, i4, i5⟩ | ⟨i4, i5⟩
      · rw [i4]; rfl
      · exact i5
  · have qq : ¬ inN (kn (aK A)) c := q
    rw [e, cp_s, if_neg qq]
    exact wp_brt rfl (OM.fail hy rfl (by decide) h0 g0)
/-! spent -/
def spQ (A : St) : Nat → Bool := fun k => decide (sKn (pDays (aK A) (aS A) k) = 0)
def spR (A : St) : Int32 := enc (fst (spQ A) 41)
theorem spent_c {y : Lay} (hy : LY y) {A : St} {M : Mem} (h : CR A M) (v : VAL A) : wp (f_X11_spent y 1 M) (OD A (spR A) M) := by
  unfold f_X11_spent
  rw [gK_t (k_1 hy)]
  refine wp_c0 _ (la_c hy h v (d := 0) (by decide)) (fun r M1 q => ?_)
  obtain ⟨q1, q2, T, q3, q5, q4⟩ := q
  dsimp only at q1 q2 q4
  simp only [gK_t (k_1 hy), gN_t (r := 1) (by decide), r_1_0 hy, r_1_1 hy, r_1_2 hy, r_1_3 hy, r_1_4 hy, r_1_5 hy, r_1_6 hy, r_1_7 hy, r_1_8 hy, r_1_9 hy, r_1_10 hy, gK_t (k_58 hy), gN_t (r := 58) (by decide), r_58_0 hy, r_58_1 hy, r_58_2 hy, r_58_3 hy, r_58_4 hy, r_58_5 hy, r_58_6 hy]
  refine wp_for (i0 := 0) 41 (fun j s => CR A s ∧ kM M s ∧ skV s 58 59 62 63 = pDays (aK A) T j ∧ fst (spQ A) j = none) (by decide) rfl (by decide) ⟨q1, q2, q4, rfl⟩ ?_ ?_
  · intro f j s hj hI hk
    obtain ⟨i1, i2, i3, i4⟩ := hI
    refine wp_brf (by rw [show (40 : Int32) = n2 40 from rfl, n2_lt (by decide) (by omega)]; omega) ?_
    have e5 : s.1 58 9 = sKn (skV s 58 59 62 63) := rfl
    rw [e5, i3, kn_eqo (pDays_eqo q3 j)]
    refine wp_br (fun u => wp_some ⟨?_, i1, i2⟩) (fun u => ?_)
    · unfold spR
      rw [fst_yes i4 (decide_eq_true u) 41 hj]
      rfl
    · refine wp_c0 _ (tday_c hy i1 v (by rw [i3]; exact pDays_ok v.1 q5 j)) (fun r M2 q => ?_)
      obtain ⟨w1, w2, w3, -⟩ := q
      dsimp only at w1 w2 w3
      rw [n2_s]
      exact hk _ ⟨w1, i2.trans w2, by rw [w3, i3]; rfl, fst_no i4 (fun z => u (of_decide_eq_true z))⟩
  · intro f s hI
    obtain ⟨i1, i2, i3, i4⟩ := hI
    refine wp_brt (by decide) (wp_some ⟨?_, i1, i2⟩)
    unfold spR
    rw [i4]; rfl
theorem spent_m {y : Lay} (hy : LY y) {A : St} {M : Mem} (h : MR A M) (v : VAL A) : wp (f_X12_spent y 73 M) (OM A (0, spR A) M) := by
  unfold f_X12_spent
  rw [gK_t (k_73 hy)]
  refine OM.start hy h (fun M0 h0 g0 hc0 => ?_)
  have hS0 := h0.sok v
  simp only [gN_t (r := 93) (by decide), r_73_42 hy]
  refine look_in hy (fun r M1 hL hV => ?_)
  simp only [lT_s, jn_s, c0_s, cp_s, cx_s, cx_t]
  refine wp_fork (κ := Int32 → Int32 → Mem → Option (Int32 × Mem)) (S := Int32 × Mem) (fun f j s => f s.1 (n2 j) s.2) (fun j s => LK M0 s.2 ∧ SOK (aK A) (moV s.2) ∧ ((s.1 = -1 ∧ fst (spQ A) j = none ∧ moV s.2 = pDays (aK A) (moV M0) j) ∨ (¬ s.1 = -1 ∧ s.1 = enc (fst (spQ A) 41)))) 41 (by decide) (i0 := 0) (s0 := (-1, M1)) (by decide) ⟨hL, by rw [hV]; exact hS0, Or.inl ⟨rfl, rfl, hV⟩⟩ ?_ ?_
  · intro f j s hj hI hk
    obtain ⟨b, s⟩ := s
    obtain ⟨i1, i2, i3⟩ := hI
    dsimp only at i1 i2 i3 hk ⊢
    refine wp_brf (by rw [show (40 : Int32) = n2 40 from rfl, n2_lt (by decide) (by omega)]; omega) ?_
    rcases i3 with ⟨rfl, i4, i5⟩ | ⟨i4, i5⟩
    · refine wp_brt rfl ?_
      have e5 : s.1 73 32 = sKn (moV s) := rfl
      rw [e5, i5, kn_eqo (pDays_eqo h0.2.1.1 j)]
      have day : ∀ b : Int32, (∀ M2, LK M0 M2 → SOK (aK A) (moV M2) → moV M2 = pDays (aK A) (moV M0) (j + 1) → wp (f b (n2 (j + 1)) M2) (OM A (0, spR A) M)) → wp (c0 (f_X12_aDay y 73 s) fun (r21 : Int32) (M22 : Mem) => f b (n2 j + 1) M22) (OM A (0, spR A) M) := fun b hb => by
        refine wp_c0 _ (lday_m hy h0 v i1 i2) (fun r M2 q => ?_)
        obtain ⟨w1, w2, -⟩ := q
        dsimp only at w1 w2
        rw [n2_s]
        exact hb M2 w1 (by rw [w2]; exact pDay_ok v.1 i2) (by rw [w2, i5]; rfl)
      refine wp_br (fun u => day _ (fun M2 w1 w2 w3 => ?_)) (fun u => day _ (fun M2 w1 w2 w3 => ?_))
      · refine hk (n2 j, M2) ⟨w1, w2, Or.inr ⟨enc_ne j (by omega), ?_⟩⟩
        rw [fst_yes i4 (decide_eq_true u) 41 hj]
        rfl
      · exact hk (-1, M2) ⟨w1, w2, Or.inl ⟨rfl, fst_no i4 (fun z => u (of_decide_eq_true z)), w3⟩⟩
    · refine wp_brf i4 ?_
      exact look_out hy h0 v g0 hc0 i1 i2 (fun _ N n1 n2 n3 _ => OM.ret' i5 n1 n2 n3)
  · intro f s hI
    obtain ⟨b, s⟩ := s
    obtain ⟨i1, i2, i3⟩ := hI
    dsimp only at i1 i2 i3 ⊢
    refine wp_brt (by decide) ?_
    refine look_out hy h0 v g0 hc0 i1 i2 (fun _ N n1 n2 n3 _ => OM.ret' ?_ n1 n2 n3)
    rcases i3 with ⟨rfl, i4, i5⟩ | ⟨i4, i5⟩
    · unfold spR; rw [i4]; rfl
    · exact i5
