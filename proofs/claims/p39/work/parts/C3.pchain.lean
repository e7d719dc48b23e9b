/-! ===== the law's two calls, from a state that both hold ===== -/
def HR (A : St) (M : Mem) : Prop := VAL A ∧ CR A M ∧ MR A M
def HX (M : Mem) : Prop := ∃ A, HR A M
theorem hx_Z {M : Mem} (h : BZ M) : HX M := ⟨_, val_Z _ _, cr_Z h, mr_Z h _ _⟩
theorem MR.wL {A : St} {M : Mem} {p k : Nat} {v : Int64} (h : MR A M) : MR A (wL M p k v) := h.kM (fun _ _ => rfl)
theorem CR.wL {A : St} {M : Mem} {p k : Nat} {v : Int64} (h : CR A M) : CR A (wL M p k v) := h.kC1 (fun _ _ => rfl)
theorem kM.wL {M N : Mem} {p k : Nat} {v : Int64} (h : kM M N) : kM M (wL N p k v) := fun q hq => h q hq
theorem wL_at (M : Mem) (p k : Nat) (v : Int64) : (wL M p k v).2.1 p k = v := by
  show (if p = p ∧ k = k then v else _) = v
  exact if_pos ⟨rfl, rfl⟩
/-- the law's own method, behind the class's call: its code; the answer in out; what the class then holds -/
def OL (A : St) (c : Nat) (R : Int32) (M : Mem) (o : Int32 × Mem) : Prop := o.1 = n2 c ∧ (c = 0 → o.2.2.1 110 0 = R.toInt64) ∧ CR A o.2 ∧ kM M o.2
theorem OL.out {A : St} {R r : Int32} {M N : Mem} {v : Int64} (hv : v = R.toInt64) (h : CR A N) (k : kM M N) : wp (some ((0 : Int32), wL N 110 0 v)) (OL A 0 R M) := wp_some ⟨rfl, fun _ => by rw [hv]; exact wL_at _ _ _ _, h.wL, k.wL⟩
theorem zcn : (0 : Int32).toNatClampNeg = 0 := rfl
theorem lop12 {y : Lay} (hy : LY y) {A : St} {P : Nat × Int32} {M : Mem} {x : Option (Nat × Int32 × Mem)} (hx : wp x (OC A P M)) (hP : P.1 ≤ 2) :
    wp (gK y 1 (0, 11) (ct x (fun (M4 : Mem) => some ((1 : Int32), M4)) (fun (M5 : Mem) => some ((2 : Int32), M5)) fun (r2 : Int32) (M3 : Mem) => gA y 110 3 (0 : Int32) (lt (wL M3 110 (0 : Int32).toNatClampNeg (r2.toInt64)) fun (M7 : Mem) => some ((0 : Int32), M7)))) (OL A P.1 P.2 M) := by
  obtain ⟨⟨e, r, M1⟩, rfl, h1, h2, h3, h4⟩ := hx
  obtain ⟨c, R⟩ := P
  dsimp only at h1 h2 h3 h4 hP ⊢
  subst h1
  rw [gK_t (k_1 hy)]
  match e, hP with
  | 0, _ =>
    show wp (gA y 110 3 (0 : Int32) (lt (wL M1 110 (0 : Int32).toNatClampNeg (r.toInt64)) fun (M7 : Mem) => some ((0 : Int32), M7))) _
    rw [gA_t (k_110 hy) (by decide), lT_s, zcn]
    exact OL.out (r := r) (by rw [h2 rfl]) h3 h4
  | 1, _ => exact wp_some ⟨rfl, fun q => absurd q (by decide), h3, h4⟩
  | 2, _ => exact wp_some ⟨rfl, fun q => absurd q (by decide), h3, h4⟩
  | k + 3, h => omega
theorem lop1 {y : Lay} (hy : LY y) {A : St} {P : Nat × Int32} {M : Mem} {x : Option (Nat × Int32 × Mem)} (hx : wp x (OC A P M)) (hP : P.1 ≤ 1) :
    wp (gK y 1 (0, 11) (ct x (fun (M4 : Mem) => some ((1 : Int32), M4)) (fun (_ : Mem) => none) fun (r2 : Int32) (M3 : Mem) => gA y 110 3 (0 : Int32) (lt (wL M3 110 (0 : Int32).toNatClampNeg (r2.toInt64)) fun (M7 : Mem) => some ((0 : Int32), M7)))) (OL A P.1 P.2 M) := by
  obtain ⟨⟨e, r, M1⟩, rfl, h1, h2, h3, h4⟩ := hx
  obtain ⟨c, R⟩ := P
  dsimp only at h1 h2 h3 h4 hP ⊢
  subst h1
  rw [gK_t (k_1 hy)]
  match e, hP with
  | 0, _ =>
    show wp (gA y 110 3 (0 : Int32) (lt (wL M1 110 (0 : Int32).toNatClampNeg (r.toInt64)) fun (M7 : Mem) => some ((0 : Int32), M7))) _
    rw [gA_t (k_110 hy) (by decide), lT_s, zcn]
    exact OL.out (r := r) (by rw [h2 rfl]) h3 h4
  | 1, _ => exact wp_some ⟨rfl, fun q => absurd q (by decide), h3, h4⟩
  | k + 2, h => omega
/-- where the law catches the second kind alone -/
theorem lop2 {y : Lay} (hy : LY y) {A : St} {P : Nat × Int32} {c : Nat} {M : Mem} {x : Option (Nat × Int32 × Mem)} (hx : wp x (OC A P M)) (hP : (P.1 = 0 ∧ c = 0) ∨ (P.1 = 2 ∧ c = 1)) :
    wp (gK y 1 (0, 11) (ct x (fun (_ : Mem) => none) (fun (M5 : Mem) => some ((1 : Int32), M5)) fun (r2 : Int32) (M3 : Mem) => gA y 110 3 (0 : Int32) (lt (wL M3 110 (0 : Int32).toNatClampNeg (r2.toInt64)) fun (M7 : Mem) => some ((0 : Int32), M7)))) (OL A c P.2 M) := by
  obtain ⟨⟨e, r, M1⟩, rfl, h1, h2, h3, h4⟩ := hx
  obtain ⟨p, R⟩ := P
  dsimp only at h1 h2 h3 h4 hP ⊢
  subst h1
  rw [gK_t (k_1 hy)]
  rcases hP with ⟨rfl, rfl⟩ | ⟨rfl, rfl⟩
  · show wp (gA y 110 3 (0 : Int32) (lt (wL M1 110 (0 : Int32).toNatClampNeg (r.toInt64)) fun (M7 : Mem) => some ((0 : Int32), M7))) _
    rw [gA_t (k_110 hy) (by decide), lT_s, zcn]
    exact OL.out (r := r) (by rw [h2 rfl]) h3 h4
  · exact wp_some ⟨rfl, fun q => absurd q (by decide), h3, h4⟩
/-- with a truth value for an answer -/
theorem lopB {y : Lay} (hy : LY y) {A : St} {P : Nat × Int32} {M : Mem} {x : Option (Nat × Int32 × Mem)} (hx : wp x (OC A P M)) (hP : P.1 ≤ 1) (hB : P.1 = 0 → P.2 = 0 ∨ P.2 = 1) :
    wp (gK y 1 (0, 11) (ct x (fun (M4 : Mem) => some ((1 : Int32), M4)) (fun (_ : Mem) => none) fun (r2 : Int32) (M3 : Mem) => jn (fun (v6 : Int64) => gA y 110 3 (0 : Int32) (lt (wL M3 110 (0 : Int32).toNatClampNeg v6) fun (M9 : Mem) => some ((0 : Int32), M9))) fun j7 => br (r2 = 0) (j7 (0 : Int64)) (j7 (1 : Int64)))) (OL A P.1 P.2 M) := by
  obtain ⟨⟨e, r, M1⟩, rfl, h1, h2, h3, h4⟩ := hx
  obtain ⟨c, R⟩ := P
  dsimp only at h1 h2 h3 h4 hP hB ⊢
  subst h1
  rw [gK_t (k_1 hy)]
  match e, hP with
  | 0, _ =>
    have e := h2 rfl
    subst e
    show wp (jn (fun (v6 : Int64) => gA y 110 3 (0 : Int32) (lt (wL M1 110 (0 : Int32).toNatClampNeg v6) fun (M9 : Mem) => some ((0 : Int32), M9))) fun j7 => br (r = 0) (j7 (0 : Int64)) (j7 (1 : Int64))) _
    rw [jn_s]
    refine wp_br (fun q => ?_) (fun q => ?_)
    · show wp (gA y 110 3 (0 : Int32) (lt (wL M1 110 (0 : Int32).toNatClampNeg (0 : Int64)) fun (M9 : Mem) => some ((0 : Int32), M9))) _
      rw [gA_t (k_110 hy) (by decide), lT_s, zcn]
      exact OL.out (r := r) (by rw [q]; decide) h3 h4
    · show wp (gA y 110 3 (0 : Int32) (lt (wL M1 110 (0 : Int32).toNatClampNeg (1 : Int64)) fun (M9 : Mem) => some ((0 : Int32), M9))) _
      rw [gA_t (k_110 hy) (by decide), lT_s, zcn]
      refine OL.out (r := r) ?_ h3 h4
      rcases hB rfl with e | e
      · exact absurd e q
      · rw [e]; decide
  | 1, _ => exact wp_some ⟨rfl, fun q => absurd q (by decide), h3, h4⟩
  | k + 2, h => omega
/-! the chains -/
section CHN
variable {Q : Int32 → Prop} {J : Mem → Option Int32}
/-- both called, nothing compared -/
theorem chU {y : Lay} (hy : LY y) {A A' : St} {M : Mem} {x : Option (Int32 × Mem)} {m : Mem → Option (Int32 × Mem)} (h : MR A M) (v : VAL A') (hl : wp x (fun o => CR A' o.2 ∧ kM M o.2)) (hm : ∀ N, MR A N → wp (m N) (fun o => MR A' o.2 ∧ kC1 N o.2)) (hJ : ∀ N, HX N → wp (J N) Q) :
    wp (c0 x (fun (r : Int32) (M1 : Mem) => gK y 73 (0, 12) (c0 (m M1) fun (b : Int32) (M2 : Mem) => J M2))) Q := by
  refine wp_c0 _ hl (fun r M1 q => ?_)
  obtain ⟨q1, q2⟩ := q
  rw [gK_t (k_73 hy)]
  refine wp_c0 _ (hm M1 (h.kM q2)) (fun b M2 p => ?_)
  exact hJ M2 ⟨A', v, q1.kC1 p.2, p.1⟩
/-- calls that throw nothing -/
theorem ch1U {y : Lay} (hy : LY y) {A A' : St} {M : Mem} {x : Option (Int32 × Mem)} {m : Mem → Option (Int32 × Mem)} {R : Int32} {P : Nat × Int32} (h : MR A M) (v : VAL A') (hl : wp x (OD A' R M)) (hm : ∀ N, MR A N → wp (m N) (OM A' P N)) (hJ : ∀ N, HX N → wp (J N) Q) :
    wp (gK y 1 (0, 11) (c0 x (fun (r : Int32) (M1 : Mem) => gK y 73 (0, 12) (c0 (m M1) fun (b : Int32) (M2 : Mem) => J M2)))) Q := by
  rw [gK_t (k_1 hy)]
  exact chU hy h v (wp_mono hl (fun o p => p.2)) (fun N hN => wp_mono (hm N hN) (fun o p => ⟨p.2.2.1, p.2.2.2.2⟩)) hJ
theorem ch1C {y : Lay} (hy : LY y) {A A' : St} {M : Mem} {x : Option (Int32 × Mem)} {m : Mem → Option (Int32 × Mem)} {R : Int32} (h : MR A M) (v : VAL A') (hl : wp x (OD A' R M)) (hm : ∀ N, MR A N → wp (m N) (OM A' (0, R) N)) (hJ : ∀ N, HX N → wp (J N) Q) :
    wp (gK y 1 (0, 11) (c0 x (fun (r : Int32) (M1 : Mem) => gK y 73 (0, 12) (c0 (m M1) fun (b : Int32) (M2 : Mem) => br (r = b) (J M2) (some (0 : Int32)))))) Q := by
  rw [gK_t (k_1 hy)]
  refine wp_c0 _ hl (fun r M1 q => ?_)
  obtain ⟨q1, q3, q4⟩ := q
  rw [gK_t (k_73 hy)]
  refine wp_c0 _ (hm M1 (h.kM q4)) (fun b M2 p => ?_)
  obtain ⟨p1, p2, p3, p4⟩ := p
  dsimp only at q1 q3 q4 p1 p2 p3 p4
  exact wp_brt (q1.trans (p2 rfl).symm) (hJ M2 ⟨A', v, q3.kC p4, p3⟩)
/-- fault -/
theorem chFU {y : Lay} (hy : LY y) {A : St} {M : Mem} (h : HR A M) (hJ : ∀ N, HX N → wp (J N) Q) :
    wp (gK y 1 (0, 11) (cp (f_X11_fault y 1 M) fun (r : Int32) => gK y 73 (0, 12) (c0 (f_X12_fault y 73 M) fun (b : Int32) (M2 : Mem) => J M2))) Q := by
  obtain ⟨v, hc, hm⟩ := h
  rw [gK_t (k_1 hy), fault_c hy hc, cp_s, gK_t (k_73 hy)]
  refine wp_c0 _ (fault_m hy hm) (fun b M2 p => ?_)
  exact hJ M2 ⟨A, v, hc.kC p.2.2.2, p.2.2.1⟩
theorem chFC {y : Lay} (hy : LY y) {A : St} {M : Mem} (h : HR A M) (hJ : ∀ N, HX N → wp (J N) Q) :
    wp (gK y 1 (0, 11) (cp (f_X11_fault y 1 M) fun (r : Int32) => gK y 73 (0, 12) (c0 (f_X12_fault y 73 M) fun (b : Int32) (M2 : Mem) => br (r = b) (J M2) (some (0 : Int32))))) Q := by
  obtain ⟨v, hc, hm⟩ := h
  rw [gK_t (k_1 hy), fault_c hy hc, cp_s, gK_t (k_73 hy)]
  refine wp_c0 _ (fault_m hy hm) (fun b M2 p => ?_)
  exact wp_brt (p.2.1 rfl).symm (hJ M2 ⟨A, v, hc.kC p.2.2.2, p.2.2.1⟩)
end CHN
theorem OL.u {A : St} {c : Nat} {R : Int32} {M : Mem} {x : Option (Int32 × Mem)} (h : wp x (OL A c R M)) : wp x (fun o => CR A o.2 ∧ kM M o.2) := wp_mono h (fun _ p => p.2.2)
theorem OM.u {A : St} {P : Nat × Int32} {M : Mem} {x : Option (Int32 × Mem)} (h : wp x (OM A P M)) : wp x (fun o => MR A o.2 ∧ kC1 M o.2) := wp_mono h (fun _ p => ⟨p.2.2.1, p.2.2.2.2⟩)
