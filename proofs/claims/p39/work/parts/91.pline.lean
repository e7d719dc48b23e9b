/-! ===== lines: the draft on both sides ===== -/
abbrev Dr : Type := KG × Sk × Int32 × Int32 × Bool
abbrev dK (D : Dr) : KG := D.1
abbrev dS (D : Dr) : Sk := D.2.1
abbrev dT (D : Dr) : Int32 := D.2.2.1
abbrev dB (D : Dr) : Int32 := D.2.2.2.1
abbrev dA (D : Dr) : Bool := D.2.2.2.2
def zr (n : Nat) (f : Row) : Row := fun k => if k < n then f k else 0
theorem zr_up {n : Nat} {f : Row} {c : Nat} {x : Int32} (hc : c < n) : zr n (up f c x) = up (zr n f) c x := by
  funext k
  unfold zr up
  by_cases e : k = c
  · subst e; rw [if_pos hc, if_pos rfl, if_pos rfl]
  · rw [if_neg e, if_neg e]
theorem zr_at {n : Nat} {f : Row} {c : Nat} (hc : c < n) : zr n f c = f c := if_pos hc
/-- the draft's sky, its rows as far as they go -/
def skZ (M : Mem) : Sk := (zr 30 (M.1 22), zr 6 (M.1 25), zr 6 (M.1 26), M.1 21 7, M.1 21 8, M.1 21 9, M.1 21 10, M.1 21 11, M.1 21 12)
def DC (D : Dr) (M : Mem) : Prop := (M.1 13 0 = n2 (kw (dK D)) ∧ M.1 13 1 = n2 (kh (dK D)) ∧ M.1 13 2 = n2 (kr (dK D)) ∧ M.1 13 3 = n2 (kb (dK D)) ∧ M.1 13 4 = n2 (kg (dK D)) ∧ M.1 13 5 = ko (dK D)) ∧ ((M.1 15 2 = n2 (dl (dK D)) ∧ M.1 16 = dc (dK D)) ∧ M.1 18 2 = n2 (fl (dK D)) ∧ M.1 19 = fc (dK D)) ∧ skZ M = dS D ∧ M.1 12 4 = dT D ∧ M.1 12 5 = dB D ∧ M.1 12 6 = b01 (dA D)
def DM (D : Dr) (N : Mem) : Prop := (N.1 77 9 = n2 (kw (dK D)) ∧ N.1 77 10 = n2 (kh (dK D)) ∧ N.1 77 13 = n2 (kr (dK D)) ∧ N.1 77 14 = n2 (kb (dK D)) ∧ N.1 77 11 = n2 (kg (dK D)) ∧ N.1 77 12 = sKn (dS D) ∧ N.1 77 17 = sPg (dS D)) ∧ (∀ g, g < kg (dK D) → N.1 79 (6 + g) = (if bt (ko (dK D)) g = 1 then 1 else 0) ∧ N.1 80 (6 + g) = sSk (dS D) g ∧ N.1 81 (6 + g) = sSp (dS D) g) ∧ (∀ c, c < 30 → sB (dS D) c = (if bt (sPg (dS D)) c = 1 then 0 else N.1 78 (30 + c)) ∧ (bt (dB D) c = 0 → N.1 78 (30 + c) = 0)) ∧ ((N.1 77 15 = n2 (dl (dK D)) ∧ ∀ i, i < dl (dK D) → N.1 82 (700 + i) = mc (dc (dK D) i)) ∧ N.1 77 16 = n2 (fl (dK D)) ∧ ∀ i, i < fl (dK D) → N.1 83 (700 + i) = mc (fc (dK D) i)) ∧ N.1 73 25 = dB D ∧ N.1 73 26 = b01 (dA D)
def DV (D : Dr) : Prop := (KOK (dK D) ∧ SOK (dK D) (dS D)) ∧ (sRs (dS D) = 0 ∧ sMa (dS D) = 0 ∧ sDy (dS D) = 0) ∧ (∀ g, kg (dK D) ≤ g → sSp (dS D) g = 0 ∧ sSk (dS D) g = 0) ∧ (∀ g, kg (dK D) ≤ g → g < 32 → ¬ bt (ko (dK D)) g = 1) ∧ ((dT D &&& 16 = 0 → dl (dK D) = 0) ∧ (dT D &&& 32 = 0 → fl (dK D) = 0)) ∧ (dA D = false → kg (dK D) = 0 ∧ sPg (dS D) = 0 ∧ dB D = 0 ∧ ∀ c, sB (dS D) c = 0)
def FCl (M0 M : Mem) : Prop := ∀ p, p < 12 ∨ 30 ≤ p → M.1 p = M0.1 p
def FMl (N0 N : Mem) : Prop := (∀ p, p < 73 ∨ (73 < p ∧ p < 77) ∨ 83 < p → N.1 p = N0.1 p) ∧ (∀ f, f < 16 ∨ f = 24 ∨ 28 ≤ f → N.1 73 f = N0.1 73 f) ∧ (∀ f, f < 9 → N.1 77 f = N0.1 77 f) ∧ (∀ f, f < 30 → N.1 78 f = N0.1 78 f) ∧ (∀ f, f < 6 → N.1 79 f = N0.1 79 f ∧ N.1 80 f = N0.1 80 f ∧ N.1 81 f = N0.1 81 f) ∧ ∀ f, f < 700 → N.1 82 f = N0.1 82 f ∧ N.1 83 f = N0.1 83 f
def CS (T : Tx) (p : Nat) (D : Dr) (M0 M : Mem) : Prop := TC T M p ∧ M.1 28 6 = 0 ∧ DC D M ∧ FCl M0 M
def MS (T : Tx) (p : Nat) (D : Dr) (N0 N : Mem) : Prop := TM T N p ∧ N.1 73 22 = 0 ∧ DM D N ∧ FMl N0 N
def LF (M0 N0 M N : Mem) : Prop := FL M N ∧ FCl M0 M ∧ FMl N0 N
def LO (T : Tx) (M0 N0 : Mem) (p : Nat) (a b : Int32 × Mem) : Prop := (a.1 = 1 ∧ ∃ p' D, (p < p' ∧ p' ≤ T.2) ∧ DV D ∧ CS T p' D M0 a.2 ∧ MS T p' D N0 b.2 ∧ b.1 = dT D) ∨ (a.1 = 0 ∧ LF M0 N0 a.2 b.2)
theorem FCl.refl (M : Mem) : FCl M M := fun _ _ => rfl
theorem FMl.refl (M : Mem) : FMl M M := ⟨fun _ _ => rfl, fun _ _ => rfl, fun _ _ => rfl, fun _ _ => rfl, fun _ _ => ⟨rfl, rfl, rfl⟩, fun _ _ => ⟨rfl, rfl⟩⟩
theorem FCl.wr {M0 M : Mem} (h : FCl M0 M) {q : Nat} {f : Row} (hq : 12 ≤ q ∧ q < 30) : FCl M0 (sr M q f) := fun p hp => by rw [sr_ne (by omega)]; exact h p hp
theorem FMl.wr {N0 N : Mem} (h : FMl N0 N) {q k : Nat} {x : Int32} (hq : (q = 73 ∧ 16 ≤ k ∧ k < 28 ∧ ¬ k = 24) ∨ (q = 77 ∧ 9 ≤ k) ∨ (q = 78 ∧ 30 ≤ k) ∨ ((q = 79 ∨ q = 80 ∨ q = 81) ∧ 6 ≤ k) ∨ ((q = 82 ∨ q = 83) ∧ 700 ≤ k)) : FMl N0 (sr N q (up (N.1 q) k x)) := by
  have key : ∀ p f, (p = q → ¬ f = k) → (sr N q (up (N.1 q) k x)).1 p f = N.1 p f := by
    intro p f hf
    rw [sr_1]
    by_cases e : p = q
    · rw [if_pos e, up_ne (hf e), e]
    · rw [if_neg e]
  obtain ⟨h1, h2, h3, h4, h5, h6⟩ := h
  refine ⟨fun p hp => ?_, fun f hf => ?_, fun f hf => ?_, fun f hf => ?_, fun f hf => ?_, fun f hf => ?_⟩
  · rw [sr_ne (by omega)]; exact h1 p hp
  · rw [key _ _ (by omega)]; exact h2 f hf
  · rw [key _ _ (by omega)]; exact h3 f hf
  · rw [key _ _ (by omega)]; exact h4 f hf
  · rw [key _ _ (by omega), key _ _ (by omega), key _ _ (by omega)]; exact h5 f hf
  · rw [key _ _ (by omega), key _ _ (by omega)]; exact h6 f hf
theorem FCl.g28 {M0 M N : Mem} (h : FCl M0 M) (g : G28 M N) : FCl M0 N := fun p hp => by rw [g.1.2 p (by simp; omega)]; exact h p hp
theorem FMl.g73 {N0 N N' : Mem} (h : FMl N0 N) (g : G73 N N') : FMl N0 N' := by
  obtain ⟨h1, h2, h3, h4, h5, h6⟩ := h
  refine ⟨fun p hp => ?_, fun f hf => ?_, fun f hf => ?_, fun f hf => ?_, fun f hf => ?_, fun f hf => ?_⟩
  · rw [g.1.2 p (by simp; omega)]; exact h1 p hp
  · rw [g.2 f (by omega)]; exact h2 f hf
  · rw [g.1.2 77 (by decide)]; exact h3 f hf
  · rw [g.1.2 78 (by decide)]; exact h4 f hf
  · rw [g.1.2 79 (by decide), g.1.2 80 (by decide), g.1.2 81 (by decide)]; exact h5 f hf
  · rw [g.1.2 82 (by decide), g.1.2 83 (by decide)]; exact h6 f hf
theorem DC.frame {D : Dr} {M N : Mem} (h : DC D M) (e : ∀ p, p ∈ [12, 13, 15, 16, 18, 19, 21, 22, 25, 26] → N.1 p = M.1 p) : DC D N := by
  unfold DC skZ at h ⊢
  rw [e 12 (by decide), e 13 (by decide), e 15 (by decide), e 16 (by decide), e 18 (by decide), e 19 (by decide), e 21 (by decide), e 22 (by decide), e 25 (by decide), e 26 (by decide)]
  exact h
theorem DM.frame {D : Dr} {N N' : Mem} (h : DM D N) (a : N'.1 73 25 = N.1 73 25) (b : N'.1 73 26 = N.1 73 26) (e : ∀ p, 77 ≤ p → p ≤ 83 → N'.1 p = N.1 p) : DM D N' := by
  unfold DM at h ⊢
  rw [a, b, e 77 (by decide) (by decide), e 78 (by decide) (by decide), e 79 (by decide) (by decide), e 80 (by decide) (by decide), e 81 (by decide) (by decide), e 82 (by decide) (by decide), e 83 (by decide) (by decide)]
  exact h
theorem CS.g28 {T : Tx} {p q : Nat} {D : Dr} {M0 M N : Mem} (h : CS T p D M0 M) (t : TC T N q) (g : G28 M N) : CS T q D M0 N := ⟨t, by rw [g.2.2.1]; exact h.2.1, h.2.2.1.frame (fun p hp => g.1.2 p (by simp at hp ⊢; omega)), h.2.2.2.g28 g⟩
theorem MS.g73 {T : Tx} {p q : Nat} {D : Dr} {M0 M N : Mem} (h : MS T p D M0 M) (t : TM T N q) (g : G73 M N) : MS T q D M0 N := ⟨t, by rw [g.2 22 (by omega)]; exact h.2.1, h.2.2.1.frame (g.2 25 (by omega)) (g.2 26 (by omega)) (fun p h1 h2 => g.1.2 p (by simp; omega)), h.2.2.2.g73 g⟩
theorem CS.adv {y : Lay} (hy : LY y) {T : Tx} (hT : TOK T) {p : Nat} {D : Dr} {M0 M : Mem} (h : CS T p D M0 M) : wp (f_X10_advance y 28 M) (fun o => CS T (tE T p) D M0 o.2) := wp_mono (adv_c hy hT h.1) (fun _ q => h.g28 q.1 q.2)
theorem MS.stp {y : Lay} (hy : LY y) {T : Tx} (hT : TOK T) {p : Nat} {D : Dr} {M0 M : Mem} (h : MS T p D M0 M) : wp (f_X12_stepOn y 73 M) (fun o => MS T (tE T p) D M0 o.2) := wp_mono (stp_m hy hT h.1) (fun _ q => h.g73 q.1 q.2)
theorem LF.mk {T : Tx} {p : Nat} {D D' : Dr} {M0 N0 M N : Mem} (h : CS T p D M0 M) (g : MS T p D' N0 N) {f : Int32} (hf : ¬ f = 0) : LF M0 N0 (rfC M f (M.1 28 3)) (rfM N f (N.1 73 20)) := by
  refine ⟨FL.mk h.1 g.1 hf, h.2.2.2.wr (by decide), ?_⟩
  unfold rfM
  have h2 := (g.2.2.2.wr (q := 73) (k := 22) (x := f) (by omega)).wr (q := 73) (k := 23) (x := N.1 73 20) (by omega)
  rw [sr_ap, sr_sr] at h2
  exact h2
/-- from a place on, the class's state: a line's first word -/
theorem CS.upd {T : Tx} {p : Nat} {D D' : Dr} {M0 M : Mem} {q : Nat} {f : Row} (h : CS T p D M0 M) (hq : 12 ≤ q ∧ q < 28) (hD : DC D' (sr M q f)) : CS T p D' M0 (sr M q f) := by
  refine ⟨h.1.frame ?_ ?_ ?_, ?_, hD, h.2.2.2.wr (by omega)⟩
  · rw [sr_ne (by omega)]
  · rw [sr_ne (by omega)]
  · rw [sr_ne (by omega)]
  · rw [sr_ne (by omega)]; exact h.2.1
theorem MS.upd {T : Tx} {p : Nat} {D D' : Dr} {N0 N : Mem} {q k : Nat} {x : Int32} (h : MS T p D N0 N) (hq : (q = 73 ∧ (k = 25 ∨ k = 26 ∨ k = 27)) ∨ (q = 77 ∧ 9 ≤ k) ∨ (q = 78 ∧ 30 ≤ k) ∨ ((q = 79 ∨ q = 80 ∨ q = 81) ∧ 6 ≤ k)) (hD : DM D' (sr N q (up (N.1 q) k x))) : MS T p D' N0 (sr N q (up (N.1 q) k x)) := by
  have key : ∀ p f, (p = q → ¬ f = k) → (sr N q (up (N.1 q) k x)).1 p f = N.1 p f := by
    intro p f hf
    rw [sr_1]
    by_cases e : p = q
    · rw [if_pos e, up_ne (hf e), e]
    · rw [if_neg e]
  obtain ⟨⟨⟨t1, t2⟩, t3, ⟨t4, t5, t6⟩, t7, t8⟩, h2, h3, h4⟩ := h
  refine ⟨⟨⟨fun i hi => ?_, ?_⟩, t3, ⟨?_, ?_, ?_⟩, ?_, fun a b => ?_⟩, ?_, hD, h4.wr (by omega)⟩
  · rw [key _ _ (by omega)]; exact t1 i hi
  · rw [key _ _ (by omega)]; exact t2
  · rw [key _ _ (by omega)]; exact t4
  · rw [key _ _ (by omega)]; exact t5
  · rw [key _ _ (by omega)]; exact t6
  · rw [key _ _ (by omega)]; exact t7
  · rw [key _ _ (by omega)]; exact t8 a b
  · rw [key _ _ (by omega)]; exact h2
/-- the same, where only the frame matters -/
theorem LF.upd {M0 N0 M N : Mem} {q k : Nat} {x : Int32} (h : LF M0 N0 M N) (hq : (q = 73 ∧ (k = 25 ∨ k = 26 ∨ k = 27)) ∨ (q = 77 ∧ 9 ≤ k) ∨ (q = 78 ∧ 30 ≤ k) ∨ ((q = 79 ∨ q = 80 ∨ q = 81) ∧ 6 ≤ k)) : LF M0 N0 M (sr N q (up (N.1 q) k x)) := by
  have key : ∀ p f, (p = q → ¬ f = k) → (sr N q (up (N.1 q) k x)).1 p f = N.1 p f := by
    intro p f hf
    rw [sr_1]
    by_cases e : p = q
    · rw [if_pos e, up_ne (hf e), e]
    · rw [if_neg e]
  obtain ⟨⟨f, s, h1, h2, h3, h3'⟩, h4, h5⟩ := h
  refine ⟨⟨f, s, h1, h2, ?_, ?_⟩, h4, h5.wr (by omega)⟩
  · rw [key _ _ (by omega)]; exact h3
  · rw [key _ _ (by omega)]; exact h3'
/-- numbers on both sides -/
theorem num_J {y : Lay} (hy : LY y) {T : Tx} (hT : TOK T) {p : Nat} {D D' : Dr} {M0 N0 M N : Mem} (h : CS T p D M0 M) (g : MS T p D' N0 N) {a b : Nat} (ha : a ≤ 9999) (hb : b ≤ 9999) : J (f_X2_readNumber y 12 (n2 a) (n2 b) M) (f_X12_readNumber y 73 (n2 a) (n2 b) N) (fun u v => (∃ n, (a ≤ n ∧ n ≤ b) ∧ (u.1 = n2 n ∧ v.1 = n2 n) ∧ (p < tE T p ∧ tE T p ≤ T.2) ∧ CS T (tE T p) D M0 u.2 ∧ MS T (tE T p) D' N0 v.2) ∨ (u.1 = -1 ∧ v.1 = 0 ∧ LF M0 N0 u.2 v.2)) := by
  have hc := readNumber_c hy hT h.1 h.2.1 ha hb
  by_cases q : nmR T p a b = 0
  · obtain ⟨o, e1, e2⟩ := hc
    rw [if_pos q] at e2
    obtain ⟨o', e1', e2'⟩ := readNumber_m hy hT g.1 g.2.1 ha hb q
    obtain ⟨k, -, q1, q2⟩ := nmR_0 q
    exact ⟨o, o', e1, e1', Or.inl ⟨tV T p, ⟨q1, q2⟩, ⟨e2.1, e2'.1⟩, ⟨tE_gt hT h.1.2.1 (by rw [k]; decide), (tE_sp hT h.1.2.1).2⟩, h.g28 e2.2.1 e2.2.2, g.g73 e2'.2.1 e2'.2.2⟩⟩
  · obtain ⟨o, e1, e2⟩ := hc
    rw [if_neg q] at e2
    refine ⟨o, _, e1, readNumber_w hy hT g.1 g.2.1 ha hb q, Or.inr ?_⟩
    rw [e2]
    refine ⟨rfl, rfl, LF.mk h g ?_⟩
    rcases nmR_le T p a b with z | z | z
    · exact absurd z q
    · rw [z]; decide
    · rw [z]; decide
/-- a line's end -/
theorem end_J {y : Lay} (hy : LY y) {T : Tx} (hT : TOK T) {p p0 : Nat} {D : Dr} {M0 N0 M N : Mem} (h : CS T p D M0 M) (g : MS T p D N0 N) (hD : DV D) (hp : p0 ≤ p) {x : Int32} (hx : x = dT D) : J (c0 (c0 (f_X10_passes y 28 (59 : Int32) M) fun (r : Int32) (M : Mem) => gd (r = 0 ∨ r = 1) (some (r, M))) fun (r50 : Int32) (M51 : Mem) => gd (r50 = 0 ∨ r50 = 1) (some (r50, M51))) (c0 (f_X12_mark y 73 (59 : Int32) N) fun (r13 : Int32) (M14 : Mem) => some (x, M14)) (LO T M0 N0 p0) := by
  rw [c0_c0]
  refine J_cc (pass_J hy hT h.1 g.1 h.2.1 g.2.1 (c := 59) (by decide) (by decide)) (fun r M1 s N1 q => ?_)
  rcases q with ⟨q8, q9, ⟨m3, g3⟩, n3, g4⟩ | ⟨q8, q9, m3, n3⟩
  · have q8 : r = 1 := q8
    rw [q8]
    have hlt := tE_gt hT h.1.2.1 (by rw [(isS_iff.mp q9).1]; decide)
    rw [gd_t (Or.inr rfl)]
    exact J_lg (Or.inr rfl) (J_s (Or.inl ⟨rfl, tE T p, D, ⟨by omega, (tE_sp hT h.1.2.1).2⟩, hD, h.g28 m3 g3, g.g73 n3 g4, hx⟩))
  · have q8 : r = 0 := q8
    have m3 : M1 = _ := m3
    have n3 : N1 = _ := n3
    rw [q8, m3, n3]
    rw [gd_t (Or.inl rfl)]
    exact J_lg (Or.inl rfl) (J_s (Or.inr ⟨rfl, LF.mk h g (by decide)⟩))
/-- where it has failed -/
theorem bad_J {y : Lay} (hy : LY y) {T : Tx} {p0 : Nat} {M0 N0 M N : Mem} (h : LF M0 N0 M N) {x : Int32} : J (some ((0 : Int32), M)) (c0 (f_X12_mark y 73 (59 : Int32) N) fun (r13 : Int32) (M14 : Mem) => some (x, M14)) (LO T M0 N0 p0) := J_rq (mark_b hy h.1.bad) (J_s (Or.inr ⟨rfl, h⟩))
