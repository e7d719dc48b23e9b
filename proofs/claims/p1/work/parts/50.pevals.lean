/-! ===== calls on a new object by evaluation ===== -/
def chkL (x : Option (Int32 × Mem)) (m : Mem → Option (Int32 × Mem)) : Bool := match x with
  | none => false
  | some (r, M1) => match m M1 with
    | none => false
    | some (b, M2) => decide (M2.1 73 4 = r) && (decide (r ≠ 0) || decide (lg_cmp (M2.2.1 110 0) b.toInt64 = 0))
def chk1 (x : Option (Int32 × Mem)) (m : Mem → Option (Int32 × Mem)) : Bool := match x with
  | none => false
  | some (r, M1) => match m M1 with
    | none => false
    | some (b, _) => decide (r = b)
theorem chainL {y : Lay} (hy : LY y) {x : Option (Int32 × Mem)} {m : Mem → Option (Int32 × Mem)} {Q : Int32 → Prop} {J : Mem → Option Int32} (h : chkL x m = true) (hJ : ∀ N, wp (J N) Q) :
    wp (c0 x (fun (r : Int32) (M1 : Mem) => gK y 73 (0, 12) (c0 (m M1) fun (b : Int32) (M2 : Mem) => cp (f_X12_thrown y 73 M2) fun (t : Int32) => br (t = r) (jn (fun (_u : Unit) => J M2) fun j => br (r = 0) (gA y 110 3 (0 : Int32) (br ((lg_cmp (M2.2.1 110 (0 : Int32).toNatClampNeg) (b.toInt64)) = 0) (j ()) (some (0 : Int32)))) (j ())) (some (0 : Int32))))) Q := by
  unfold chkL at h
  cases x with
  | none => cases h
  | some o =>
    obtain ⟨r, M1⟩ := o
    dsimp only at h
    show wp (gK y 73 (0, 12) (c0 (m M1) _)) Q
    rw [gK_t (k_73 hy)]
    cases hm : m M1 with
    | none => rw [hm] at h; cases h
    | some o2 =>
      obtain ⟨b, M2⟩ := o2
      rw [hm] at h
      simp only [Bool.and_eq_true, Bool.or_eq_true, decide_eq_true_eq] at h
      obtain ⟨h1, h2⟩ := h
      show wp (cp (f_X12_thrown y 73 M2) _) Q
      rw [thrown_s hy, h1]
      simp only [cp_s, jn_s]
      refine wp_brt trivial ?_
      by_cases hr : r = 0
      · refine wp_brt hr ?_
        rw [gA_t (k_110 hy) (by decide)]
        rcases h2 with h2 | h2
        · exact absurd hr h2
        · exact wp_brt h2 (hJ _)
      · exact wp_brf hr (hJ _)
theorem chain1 {y : Lay} (hy : LY y) {x : Option (Int32 × Mem)} {m : Mem → Option (Int32 × Mem)} {Q : Int32 → Prop} {J : Mem → Option Int32} (h : chk1 x m = true) (hJ : ∀ N, wp (J N) Q) :
    wp (gK y 1 (0, 11) (c0 x (fun (r : Int32) (M1 : Mem) => gK y 73 (0, 12) (c0 (m M1) fun (b : Int32) (M2 : Mem) => br (r = b) (J M2) (some (0 : Int32)))))) Q := by
  rw [gK_t (k_1 hy)]
  unfold chk1 at h
  cases x with
  | none => cases h
  | some o =>
    obtain ⟨r, M1⟩ := o
    dsimp only at h
    show wp (gK y 73 (0, 12) (c0 (m M1) _)) Q
    rw [gK_t (k_73 hy)]
    cases hm : m M1 with
    | none => rw [hm] at h; cases h
    | some o2 =>
      obtain ⟨b, M2⟩ := o2
      rw [hm] at h
      exact wp_brt (of_decide_eq_true h) (hJ _)
/-- the same, by what both say -/
theorem chk1_of {x : Option (Int32 × Mem)} {m : Mem → Option (Int32 × Mem)} {R : Int32} {FR : Mem → Prop} (hx : wp x (fun o => o.1 = R ∧ FR o.2)) (hm : ∀ N, FR N → wp (m N) (fun o => o.1 = R)) : chk1 x m = true := by
  obtain ⟨⟨r, M1⟩, rfl, h1, h2⟩ := hx
  obtain ⟨⟨b, M2⟩, e, h3⟩ := hm M1 h2
  unfold chk1
  dsimp only
  rw [e]
  have h1 : r = R := h1
  have h3 : b = R := h3
  exact decide_eq_true (h1.trans h3.symm)
theorem ev_count : ∀ k : Fin 17, chkL (f_L_count yS 1 (n2 k.val) 110 MS) (f_X12_count yS 73 (n2 k.val)) = true := by decide +kernel
theorem ev_streak : ∀ k : Fin 2, chkL (f_L_streak yS 1 (n2 k.val) 110 MS) (f_X12_streak yS 73 (n2 k.val)) = true := by decide +kernel
theorem ev_nearest : ∀ k : Fin 9, chkL (f_L_nearest yS 1 (n2 k.val) 110 MS) (f_X12_nearest yS 73 (n2 k.val)) = true := by decide +kernel
theorem ev_undo : chk1 (f_X11_undo yS 1 MS) (f_X12_undo yS 73) = true := by decide +kernel
theorem ev_restore : chk1 (f_X11_restore yS 1 MS) (f_X12_restore yS 73) = true := by decide +kernel
theorem ev_toRest : chk1 (f_X11_toRest yS 1 MS) (f_X12_toRest yS 73) = true := by decide +kernel
theorem ev_steady : chk1 (f_X11_steady yS 1 MS) (f_X12_steady yS 73) = true := by decide +kernel
theorem ev_skilled : ∀ k : Fin 3, chkL (f_L_skilled yS 1 (n2 k.val) 110 MS) (f_X12_skilled yS 73 (n2 k.val)) = true := by decide +kernel
theorem ev_look : ∀ k : Fin 2, chkL (f_L_look yS 1 (n2 k.val) 110 MS) (f_X12_look yS 73 (n2 k.val)) = true := by decide +kernel
theorem ev_way : ∀ a : Fin 9, ∀ b : Fin 9, chkL (f_L_way yS 1 (n2 a.val) (n2 b.val) 110 MS) (f_X12_way yS 73 (n2 a.val) (n2 b.val)) = true := by decide +kernel
theorem ev_peg : ∀ a : Fin 9, ∀ b : Fin 2, chkL (f_L_peg yS 1 (n2 a.val) (n2 b.val) 110 MS) (f_X12_peg yS 73 (n2 a.val) (n2 b.val)) = true := by decide +kernel
theorem ev_bag : ∀ a : Fin 51, chk1 (f_X11_bag yS 1 (n2 a.val) MS) (f_X12_bag yS 73 (n2 a.val)) = true := by decide +kernel
theorem ev_cell : ∀ a : Fin 9, ∀ b : Fin 4, chkL (f_L_cell yS 1 (n2 a.val) (n2 b.val) 110 MS) (f_X12_cell yS 73 (n2 a.val) (n2 b.val)) = true := by decide +kernel
theorem ev_coast : chkL (f_L_coast yS 1 (n2 0) 110 MS) (f_X12_coast yS 73 (n2 0)) = true := by decide +kernel
theorem ev_patch : ∀ a : Fin 9, chkL (f_L_patch yS 1 (n2 a.val) 0 110 MS) (f_X12_patch yS 73 (n2 a.val) 0) = true := by decide +kernel
theorem ev_patches : chkL (f_L_patches yS 1 0 110 MS) (f_X12_patches yS 73 0) = true := by decide +kernel
def ev_fi : Bool := ((f_X11_forget yS 1 MS).isSome && (match f_X11_forget yS 1 MS with | some (_, N) => (f_X12_forget yS 73 N).isSome | none => false)) && (match f_X11_image yS 1 MS with | some (_, N) => (f_X12_image yS 73 N).isSome | none => false)
theorem ev_fi_ok : ev_fi = true := by decide +kernel
theorem ev_fault : (f_X11_fault yS 1 MS = some (-1)) ∧ (MS.1 73 24 = -1) := by decide +kernel
