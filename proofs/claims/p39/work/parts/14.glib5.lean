/-! ===== methods that may throw; the machine's own helpers ===== -/
def jmin (a b : Int32) : Int32 := if b < a then b else a
def jmax (a b : Int32) : Int32 := if a < b then b else a
def jabs (a : Int32) : Int32 := if 0 ≤ a then a else 0 - a
def gC {β : Type} (y : Lay) (a b : Nat) (sp dp n : Int32) (k : Option β) : Option β := if ((kd y a).1 = 1 ∧ (kd y b).1 = 1) ∧ (¬ sp < 0 ∧ ¬ dp < 0 ∧ ¬ n < 0) ∧ sp.toNatClampNeg + n.toNatClampNeg ≤ (kd y a).2 ∧ dp.toNatClampNeg + n.toNatClampNeg ≤ (kd y b).2 then k else none
theorem gC_e {β : Type} {y : Lay} {a b : Nat} {sp dp n : Int32} {k : Option β} {o : β} (h : gC y a b sp dp n k = some o) : (((kd y a).1 = 1 ∧ (kd y b).1 = 1) ∧ (¬ sp < 0 ∧ ¬ dp < 0 ∧ ¬ n < 0) ∧ sp.toNatClampNeg + n.toNatClampNeg ≤ (kd y a).2 ∧ dp.toNatClampNeg + n.toNatClampNeg ≤ (kd y b).2) ∧ k = some o := by
  unfold gC at h; split at h
  · exact ⟨by assumption, h⟩
  · cases h
def cx (x : Option (Nat × Int32 × Mem)) (k : Int32 → Mem → Option (Nat × Int32 × Mem)) : Option (Nat × Int32 × Mem) := match x with
  | some (0, r, M) => k r M
  | some (e + 1, r, M) => some (e + 1, r, M)
  | none => none
theorem cx_e {x : Option (Nat × Int32 × Mem)} {k : Int32 → Mem → Option (Nat × Int32 × Mem)} {o : Nat × Int32 × Mem} (h : cx x k = some o) : (∃ r M, x = some (0, r, M) ∧ k r M = some o) ∨ (x = some o ∧ o.1 ≠ 0) := by
  unfold cx at h; split at h
  · exact Or.inl ⟨_, _, rfl, h⟩
  · cases h; exact Or.inr ⟨rfl, Nat.succ_ne_zero _⟩
  · cases h
def exNm (k : Nat) : String := if k = 1 then "java/util/NoSuchElementException" else "java/lang/IllegalArgumentException"
theorem ent_cp {g : GX} {y : Lay} {M : Mem} {a b sp dp n : Nat} : ∀ p, p ≠ b → ∀ c', entK g y (cpI M a b sp dp n) p c' = entK g y M p c' := by
  intro p hp c'
  have e : (cpI M a b sp dp n).1 p = M.1 p := if_neg hp
  have e2 : slot g y (cpI M a b sp dp n) p c'.2 = slot g y M p c'.2 := by funext j; unfold slot; rw [e]; rfl
  unfold entK
  rw [e, e2]; rfl
theorem RelH.mono {g : GX} {y : Lay} {M : Mem} {H H' : Heap} (h : RelH g y M H) (hk : ∀ q : Nat, q < H.size → H'[q]? = H[q]?) : RelH g y M H' :=
  ⟨fun k q hq => (h.1 k q hq).kept (hk _ (h.1 k q hq).lt), h.2⟩
def Q1 (g : GX) (rv : Bool) (y : Lay) (out : Nat × Int32 × Mem) : Array Value → State → Outcome → State → Prop := fun a st o t => out.1 = 0 ∧ QK g rv y out.2 a st o t
def X1 (g : GX) (y : Lay) (out : Nat × Int32 × Mem) : String → State → State → Prop := fun E st t => out.1 ≠ 0 ∧ E = exNm out.1 ∧ RelH g y out.2.2 t.heap ∧ va_F (Ag g) st t
def C1 (g : GX) (l : Launch) (yn : MethodName) (cc : ByteArray) (maxL : Nat) (ret : Option FieldType) (d mc ms : Nat) (y : Lay) (av : List Value) (M : Mem) (f : Option (Nat × Int32 × Mem)) : Prop :=
  ∀ out, f = some out → vx_Met l yn [Cond.code yn cc maxL ret] (rmD d mc ms) (PK g y av M) (Q1 g ret.isSome y out) (X1 g y out) mc ms (Ag g)
def RT1 (g : GX) (x : KX) (Q : State → Prop) (ret : Option FieldType) (mc ms : Nat) (y : Lay) (out : Nat × Int32 × Mem) : Prop :=
  Q = vx_MQ x.2.2.2.2.2.2.2.1 (Q1 g ret.isSome y out) (X1 g y out) x.2.2.2.2.2.2.1 x.2.2.2.2.1 mc ms (Ag g) ∧ x.2.2.2.2.2.2.2.2.1.sig.returnType = ret ∧ ∀ e ∈ x.2.2.2.2.2.2.2.2.2.exceptionTable.toList, False
theorem C1_of {g : GX} {l : Launch} {yn : MethodName} {cc : ByteArray} {maxL : Nat} {ret : Option FieldType} {d mc ms : Nat} {y : Lay} {av : List Value} {M : Mem} {f : Option (Nat × Int32 × Mem)} (hG : GF g l) (hy : plainName yn.cls = true) (L0 : List (Option Value)) (hL : argL av ++ List.replicate (maxL - (argL av).length) none = L0) (hn : Nat.ble (argL av).length maxL = true)
    (body : ∀ out, f = some out → ∀ (x : KX) (Q : State → Prop), CX g x yn.cls cc maxL d mc ms → RT1 g x Q ret mc ms y out → GG g x maxL Q 0 0 y M 0 L0 []) : C1 g l yn cc maxL ret d mc ms y av M f := by
  intro out hf
  refine vx_ofW (cc := cc) (maxL := maxL) (ret := ret) hy rfl ?_
  intro p e s m args below meth c s₁ B hml ht hP
  obtain ⟨rfl, hR, hW, hb, hlow⟩ := hP
  have C : CX g (p, l, e, rmD d mc ms, s, m, (av.map (va g)).toArray, below, meth, c) yn.cls cc maxL d mc ms := ⟨B.exec, B.bytes, hml, findClass_of_methodNamed B.named, B.notSynchronized, ⟨Nat.le_refl _, Nat.le_refl _, rfl, rfl⟩, hG, hW, hb, hlow⟩
  rw [lg_entry_eq]
  exact body out hf _ _ C ⟨rfl, B.returns, ht⟩ s.heap [] _ hR va_S.rf (start_LV hL (Nat.le_of_ble_eq_true hn))
section GR5
variable {g : GX} {x : KX} {own : String} {cc : ByteArray} {nL d mc ms : Nat} {Q : State → Prop} {kc ks : Nat} {y : Lay} {M : Mem} {pc i : Nat} {L : List (Option Value)} {S : List Value} {tb : Tb}
theorem g_widen {k2 s2 : Nat} (h1 : Nat.ble kc k2 = true) (h2 : Nat.ble ks s2 = true) (k : GG g x nL Q k2 s2 y M pc L S) : GG g x nL Q kc ks y M pc L S :=
  fun H locs ls a b c => W.widen (Nat.le_of_ble_eq_true h1) (Nat.le_of_ble_eq_true h2) (k H locs ls a b c)
theorem g_iret1 (C : CX g x own cc nL d mc ms) {e : Int32} (R : RT1 g x Q (some .int) mc ms y (0, e, M)) (h1 : Nat.ble kc mc = true) (h2 : Nat.ble ks ms = true) (T : dck cc tb = true) (hi : tb[i]? = some (pc, .ireturn, 1)) : GG g x nL Q kc ks y M pc L [.int e] := by
  refine g_widen h1 h2 ?_
  intro H locs ls h1 h2 h4
  obtain ⟨rfl, hr, -⟩ := R
  exact vx_ret (W.iret C.1 C.2.1 hr (fun t ht hw => ⟨rfl, rfl, by rw [ht]; exact h1, h2.F ht⟩) (fun q hq => h2.2.2 q hq) (dcg T hi) C.2.2.2.2.1)
theorem g_zret1 (C : CX g x own cc nL d mc ms) {e : Int32} (R : RT1 g x Q (some .boolean) mc ms y (0, e, M)) (he : e = 0 ∨ e = 1) (h1 : Nat.ble kc mc = true) (h2 : Nat.ble ks ms = true) (T : dck cc tb = true) (hi : tb[i]? = some (pc, .ireturn, 1)) : GG g x nL Q kc ks y M pc L [.int e] := by
  refine g_widen h1 h2 ?_
  intro H locs ls h1 h2 h4
  obtain ⟨rfl, hr, -⟩ := R
  exact vx_ret (W.zret C.1 C.2.1 hr (by rcases he with rfl | rfl <;> rfl) (fun t ht hw => ⟨rfl, rfl, by rw [ht]; exact h1, h2.F ht⟩) (fun q hq => h2.2.2 q hq) (dcg T hi) C.2.2.2.2.1)
theorem g_vret1 (C : CX g x own cc nL d mc ms) {e : Int32} (R : RT1 g x Q none mc ms y (0, e, M)) (h1 : Nat.ble kc mc = true) (h2 : Nat.ble ks ms = true) (T : dck cc tb = true) (hi : tb[i]? = some (pc, .return_, 1)) : GG g x nL Q kc ks y M pc L [] := by
  refine g_widen h1 h2 ?_
  intro H locs ls h1 h2 h4
  obtain ⟨rfl, hr, -⟩ := R
  exact vx_ret (W.vret C.1 C.2.1 hr (fun t ht hw => ⟨rfl, rfl, by rw [ht]; exact h1, h2.F ht⟩) (fun q hq => h2.2.2 q hq) (dcg T hi) C.2.2.2.2.1)
/-- behind a call that may throw -/
theorem after1 (C : CX g x own cc nL d mc ms) {H : Heap} {locs : List Loc} {ls : Array Slot} {ret ret2 : Option FieldType} {m2 s2 : Nat} {out : Nat × Int32 × Mem} {f : Option (Nat × Int32 × Mem)} {K : Int32 → Mem → Option (Nat × Int32 × Mem)} {a : Array Value} {st0 : List Value} (R : RT1 g x Q ret mc ms y out) (hkc : Nat.ble (kc + m2) mc = true) (hks : Nat.ble (ks + s2) ms = true) (h2 : va_S (Ag g) x.2.2.2.2.1.heap H locs) (h4 : LV g nL ls L)
    (hr : ∀ o2, f = some o2 → vx_Run x.1 x.2.1 x.2.2.1 x.2.2.2.1 x.2.2.2.2.1 x.2.2.2.2.2.1 x.2.2.2.2.2.2.1 x.2.2.2.2.2.2.2.1 x.2.2.2.2.2.2.2.2.1 x.2.2.2.2.2.2.2.2.2 H locs kc ks m2 s2 (F0 x.2.2.2.2.2.1 pc ls st0) (S.map (va g)) (Q1 g ret2.isSome y o2 a) (X1 g y o2) (Ag g))
    (h : cx f K = some out) (k : ∀ r M1, K r M1 = some out → GG g x nL Q (kc + m2) (ks + s2) y M1 (pc + 3) L (resv ret2.isSome r ++ S)) : WX x H locs kc ks Q (F0 x.2.2.2.2.2.1 pc ls st0) := by
  have keep : ∀ {st₀ t T' : State} {L' : List Loc}, st₀.heap = H → T'.heap = t.heap → va_F (Ag g) st₀ t → (∀ q ∈ L', Ag g q.base) → va_S (Ag g) x.2.2.2.2.1.heap T'.heap (locs ++ L') := by
    intro st₀ t T' L' h0 e1 hF hL
    obtain ⟨hz, hk⟩ := hF
    rw [h0] at hz hk
    refine ⟨Nat.le_trans h2.1 (by rw [e1]; exact hz), fun q h5 h6 => ?_, fun q hq => ?_⟩
    · rw [e1, hk q (Nat.lt_of_lt_of_le h5 h2.1) h6]; exact h2.2.1 q h5 h6
    · rcases List.mem_append.mp hq with h | h
      · exact h2.2.2 q h
      · exact hL q h
  intro T hT X
  rcases cx_e h with ⟨r, M1, hf, hK⟩ | ⟨hf, hne⟩
  · rcases hr _ hf T hT X with ⟨v, st₀, t, T', L', h0, X', hL, e1, e2, ⟨-, hv, hR, hF⟩, st⟩ | ⟨q, st₀, t, T', L', E, ce, h0, X', hL, e1, e2, ⟨hn, -⟩, -⟩
    · obtain ⟨t2, a1, b1⟩ := k r M1 hK T'.heap (locs ++ L') ls (by rw [e1]; exact hR) (keep h0 e1 hF hL) h4 T' rfl X'
      refine ⟨t2, st t2 ?_, b1⟩
      have ev : (if ret2.isSome = true then some (Value.int r) else none).toList ++ S.map (va g) = (resv ret2.isSome r ++ S).map (va g) := by
        cases ret2.isSome <;> rfl
      cases hv
      show Steps _ _ _ (T'.setTop { F0 x.2.2.2.2.2.1 pc ls st0 with pc := pc + 3, stack := _ }) _
      rw [ev]
      exact a1
    · exact absurd rfl hn
  · rcases hr _ hf T hT X with ⟨v, st₀, t, T', L', h0, X', hL, e1, e2, ⟨hn, -⟩, st⟩ | ⟨q, st₀, t, T', L', E, ce, h0, X', hL, e1, e2, ⟨-, hE, hR, hF⟩, hce, hcv, hcl, st⟩
    · exact absurd hn hne
    · obtain ⟨rfl, -, hx⟩ := R
      have hS := keep h0 e1 hF hL
      obtain ⟨t2, a1, b1⟩ := vx_out (p := x.1) (l := x.2.1) (e := x.2.2.1) (R := x.2.2.2.1) (s := x.2.2.2.2.1) (m := x.2.2.2.2.2.1) (args := x.2.2.2.2.2.2.1) (below := x.2.2.2.2.2.2.2.1) (meth := x.2.2.2.2.2.2.2.2.1) (c := x.2.2.2.2.2.2.2.2.2) (H := T'.heap) (locs := locs ++ L') (cells := kc + m2) (slots := ks + s2) (free := Ag g) (ls := ls) (rest := S.map (va g)) (Qc := Q1 g ret.isSome y out) (XC := X1 g y out) (pc := pc) (E := E) (ce := ce) (q := q) (mc := mc) (ms := ms)
        (fun z hz => (hx z hz).elim) C.2.2.2.2.1 (by rw [e1]; exact hce) hcv hcl (fun t9 ht9 _ => ⟨hne, hE, by rw [ht9, e1]; exact hR, hS.F ht9⟩) (fun z hz => hS.2.2 z hz) (Nat.le_of_ble_eq_true hkc) (Nat.le_of_ble_eq_true hks) T' rfl X'
      exact ⟨t2, st.trans a1, b1⟩
theorem g_callV1 (C : CX g x own cc nL d mc ms) (T : dck cc tb = true) {idx ci b n maxL d2 m2 s2 : Nat} {yn : MethodName} {c2 : ByteArray} {ret ret2 : Option FieldType} {out : Nat × Int32 × Mem} {f : Option (Nat × Int32 × Mem)} {K : Int32 → Mem → Option (Nat × Int32 × Mem)} (R : RT1 g x Q ret mc ms y out) (av : List Value) (hi : tb[i]? = some (pc, .invokevirtual idx, 3)) (hW : MW yn c2 maxL ret2 n) (hV : MV ci yn) (hl : Cond.methodLink own idx yn ∈ lw_tbl) (hk : kd y b = (0, ci)) (hd : Nat.ble (d2 + 1) d = true) (hm : Nat.ble maxL 80 = true) (hn : av.length = n) (hS8 : Nat.ble ((S.map fun v => v.category).sum) 8 = true)
    (hc : C1 g x.2.1 yn c2 maxL ret2 d2 m2 s2 y (.ref b :: av) M f) (h : cx f K = some out) (hkc : Nat.ble (kc + m2) mc = true) (hks : Nat.ble (ks + s2) ms = true) {S' : List Value} (hst : av.reverse ++ .ref b :: S = S') (k : ∀ r M1, K r M1 = some out → GG g x nL Q (kc + m2) (ks + s2) y M1 (pc + 3) L (resv ret2.isSome r ++ S)) : GG g x nL Q kc ks y M pc L S' := by
  intro H locs ls h1 h2 h4
  subst hst
  have hcw : CallW x.2.2.2.1 x.2.2.2.2.1 x.2.2.2.2.2.2.1 own yn.cls idx yn c2 maxL ret2 [Cond.code yn c2 maxL ret2] (rmD d2 m2 s2) m2 s2 n := ⟨callB0 C hW hl hd hm, C.word hV.1 rfl, C.word hV.2.1 rfl⟩
  have hR : RLE x.2.2.2.1 d mc ms := C.2.2.2.2.2.1
  have hR1 := hR.1
  have hR2 := hR.2.1
  refine after1 C R hkc hks h2 h4 (fun o2 hf => vx_runV ⟨C.1, C.2.1, C.2.2.1, C.2.2.2.1, fun w (hw : w ∈ ([] : List Cond)) => absurd hw List.not_mem_nil⟩ (hc o2 hf) hcw (preV0 C h1 h2 hk hV) rfl ?_ h4.1.1 ?_ ?_ (dcg T hi) ?_) h k
  · rw [List.length_map]; exact hn
  · show List.map (va g) (av.reverse ++ .ref b :: S) = (av.map (va g)).reverse ++ .ref (ad g b) :: S.map (va g)
    rw [List.map_append, List.map_reverse]; rfl
  · show 2 * 0 + _ ≤ 8
    have := Nat.le_of_ble_eq_true hS8
    rw [List.map_map]
    have e : (fun v => Value.category v) ∘ va g = fun v => v.category := by funext v; exact va_cat v
    rw [e]; omega
  · exact ⟨by rw [hR.2.2.1]; exact Nat.le_of_ble_eq_true hkc, by rw [hR.2.2.2]; exact Nat.le_of_ble_eq_true hks⟩
/-- a word of a throw: good, or castable -/
def gw2 (w : Cond) : Bool := goodWord w || (match w with | .castable _ _ => true | .declares _ => true | _ => false)
theorem CX.word2 (C : CX g x own cc nL d mc ms) {w : Cond} (hw : w ∈ lw_tbl) (hg : gw2 w = true) : w.before x.2.2.2.2.2.2.1 x.2.2.2.2.1 = true := by
  unfold gw2 at hg
  rw [Bool.or_eq_true] at hg
  rcases hg with hg | hg
  · exact C.word hw hg
  · cases w <;> first | (simp at hg; done) | skip
    · rename_i m0
      have h0 := C.2.2.2.2.2.2.1.1 _ hw
      have h1 : (Cond.declares m0).before #[Value.ref g.2.2.2.2.1] (g.1.setVm x.2.2.2.2.1.vm) = true := Cond.before_shiftedFace (State.Shifted.of_warmed C.2.2.2.2.2.2.2.1) _ rfl h0
      exact va_tabs (A := #[Value.ref g.2.2.2.2.1]) rfl rfl h1
    · rename_i a b
      have h0 := C.2.2.2.2.2.2.1.1 _ hw
      have h1 : (Cond.castable a b).before #[Value.ref g.2.2.2.2.1] (g.1.setVm x.2.2.2.2.1.vm) = true := by
        rw [Cond.castable_setVm (C.2.2.2.2.2.2.2.1).alike]; exact h0
      exact va_tabs (A := #[Value.ref g.2.2.2.2.1]) rfl rfl h1
/-- the words of 'throw new E()' -/
def TW (own : String) (ik ic : Nat) (cls : String) (names : List String) : Prop := (∀ w ∈ Cond.classLink own ik cls :: Cond.initialized cls :: vx_at0 own ic cls names, w ∈ lw_tbl) ∧ (∀ w ∈ Cond.classLink own ik cls :: Cond.initialized cls :: vx_at0 own ic cls names, gw2 w = true ∧ vx_ot w = true) ∧ Bundle.fit cls = true ∧ (∀ n ∈ names, Bundle.fit n = true) ∧ Nat.ble names.length 4 = true
theorem g_throw (C : CX g x own cc nL d mc ms) (T : dck cc tb = true) {T2 : Tb} {i0 i1 i2 i3 ik ic e : Nat} {r : Int32} {names : List String} {ret : Option FieldType} (R : RT1 g x Q ret mc ms y (e + 1, r, M)) (hw : TW own ik ic (exNm (e + 1)) names)
    (d0 : tb[i0]? = some (pc, .new ik, 3)) (d3 : tb[i1]? = some (pc + 3, .dup, 1)) (d4 : tb[i2]? = some (pc + 4, .invokespecial ic, 3)) (d7 : tb[i3]? = some (pc + 7, .athrow, 1)) (hS8 : Nat.ble ((S.map fun v => v.category).sum) 8 = true) (hkc : Nat.ble (kc + 1) mc = true) (hks : Nat.ble (ks + 6) ms = true) : GG g x nL Q kc ks y M pc L S := by
  intro H locs ls h1 h2 h4
  obtain ⟨rfl, hr, hx⟩ := R
  have hR : RLE x.2.2.2.1 d mc ms := C.2.2.2.2.2.1
  have hR1 := hR.1
  have hR2 := hR.2.1
  have G := C.2.2.2.2.2.2.1
  have hl : x.2.1.stackTraces = false := by
    have h := G.2.2.1
    simp only [Launch.stackTraces, h]
    decide
  have bw : ∀ w ∈ Cond.classLink own ik (exNm (e + 1)) :: Cond.initialized (exNm (e + 1)) :: vx_at0 own ic (exNm (e + 1)) names, w.before x.2.2.2.2.2.2.1 x.2.2.2.2.1 = true := fun w h => C.word2 (hw.1 w h) (hw.2.1 w h).1
  have low : ∀ q : Nat, q < g.1.heap.size → ¬ Ag g q → x.2.2.2.2.1.heap[q]? = g.1.heap[q]? := fun q h1 h2 => C.2.2.2.2.2.2.2.2.2 q h1
  have hcat : (List.map (fun v => Value.category v) (S.map (va g))).sum ≤ 8 := by
    have := Nat.le_of_ble_eq_true hS8
    rw [List.map_map]
    have e : (fun v => Value.category v) ∘ va g = fun v => v.category := by funext v; exact va_cat v
    rw [e]; exact this
  have hnl := Nat.le_of_ble_eq_true hw.2.2.2.2
  have hkc' := Nat.le_of_ble_eq_true hkc
  have hks' := Nat.le_of_ble_eq_true hks
  exact vx_throw0 C.1 C.2.1 hl C.2.2.2.1 hw.2.2.1 hw.2.2.2.1 (bw _ List.mem_cons_self) (bw _ (List.mem_cons_of_mem _ List.mem_cons_self)) (fun w h => bw w (List.mem_cons_of_mem _ (List.mem_cons_of_mem _ h))) (fun w h => (hw.2.1 w h).2)
    ((G.2.2.2.2.1.1.moved (C.2.2.2.2.2.2.2.1).alike).kept low) ((G.2.2.2.2.1.2.moved (C.2.2.2.2.2.2.2.1).alike).kept low) h2 (h4.1.1.trans C.2.2.1.symm) (dcg T d0) (dcg T d3) (dcg T d4) (dcg T d7) (fun z hz => (hx z hz).elim)
    (by omega) (by omega) (by rw [hR.2.2.1]; exact hkc') (by rw [hR.2.2.2]; exact hks') C.2.2.2.2.1
    (fun t ha hz hk => ⟨Nat.succ_ne_zero _, rfl, h1.mono hk, Nat.le_trans h2.1 hz, fun q h5 h6 => by rw [hk q (Nat.lt_of_lt_of_le h5 h2.1)]; exact h2.2.1 q h5 h6⟩) (fun z hz => h2.2.2 z hz) hkc' hks'
-- Math
theorem cat_le (hS8 : Nat.ble ((S.map fun v => v.category).sum) 8 = true) : (List.map (fun v => Value.category v) (S.map (va g))).sum ≤ 8 := by
  have := Nat.le_of_ble_eq_true hS8
  rw [List.map_map]
  have e : (fun v => Value.category v) ∘ va g = fun v => v.category := by funext v; exact va_cat v
  rw [e]; exact this
theorem g_min (C : CX g x own cc nL d mc ms) (T : dck cc tb = true) {idx : Nat} {a b : Int32} (hi : tb[i]? = some (pc, .invokestatic idx, 3)) (hw : ∀ w ∈ [Cond.methodLink own idx Lib.Math.min.name, Cond.static Lib.Math.min.name, Cond.initialized "java/lang/Math", Cond.code Lib.Math.min.name Lib.Math.min.code 2 (some .int)], w ∈ lw_tbl) (hS8 : Nat.ble ((S.map fun v => v.category).sum) 8 = true) (hkc : Nat.ble kc mc = true) (hks : Nat.ble ks ms = true) (k : GG g x nL Q kc ks y M (pc + 3) L (.int (jmin a b) :: S)) : GG g x nL Q kc ks y M pc L (.int b :: .int a :: S) := by
  intro H locs ls h1 h2 h4
  have hR : RLE x.2.2.2.1 d mc ms := C.2.2.2.2.2.1
  have hR1 := hR.1
  have hR2 := hR.2.1
  have hcat := cat_le (g := g) hS8
  have k1 := Nat.le_of_ble_eq_true hkc
  have k2 := Nat.le_of_ble_eq_true hks
  exact va_mmin C.1 C.2.1 (by rw [h4.1.1]; exact C.2.2.1) C.2.2.2.1 (C.word (hw _ (by simp)) rfl) (C.word (hw _ (by simp)) rfl) (C.word (hw _ (by simp)) rfl) (C.word (hw _ (by simp)) rfl) (by omega) (by omega) (by rw [hR.2.2.1]; exact k1) (by rw [hR.2.2.2]; exact k2) (dcg T hi) (k H locs ls h1 h2 h4)
theorem g_max (C : CX g x own cc nL d mc ms) (T : dck cc tb = true) {idx : Nat} {a b : Int32} (hi : tb[i]? = some (pc, .invokestatic idx, 3)) (hw : ∀ w ∈ [Cond.methodLink own idx Lib.Math.max.name, Cond.static Lib.Math.max.name, Cond.initialized "java/lang/Math", Cond.code Lib.Math.max.name Lib.Math.max.code 2 (some .int)], w ∈ lw_tbl) (hS8 : Nat.ble ((S.map fun v => v.category).sum) 8 = true) (hkc : Nat.ble kc mc = true) (hks : Nat.ble ks ms = true) (k : GG g x nL Q kc ks y M (pc + 3) L (.int (jmax a b) :: S)) : GG g x nL Q kc ks y M pc L (.int b :: .int a :: S) := by
  intro H locs ls h1 h2 h4
  have hR : RLE x.2.2.2.1 d mc ms := C.2.2.2.2.2.1
  have hR1 := hR.1
  have hR2 := hR.2.1
  have hcat := cat_le (g := g) hS8
  have k1 := Nat.le_of_ble_eq_true hkc
  have k2 := Nat.le_of_ble_eq_true hks
  exact va_mmax C.1 C.2.1 (by rw [h4.1.1]; exact C.2.2.1) C.2.2.2.1 (C.word (hw _ (by simp)) rfl) (C.word (hw _ (by simp)) rfl) (C.word (hw _ (by simp)) rfl) (C.word (hw _ (by simp)) rfl) (by omega) (by omega) (by rw [hR.2.2.1]; exact k1) (by rw [hR.2.2.2]; exact k2) (dcg T hi) (k H locs ls h1 h2 h4)
theorem g_abs (C : CX g x own cc nL d mc ms) (T : dck cc tb = true) {idx : Nat} {a : Int32} (hi : tb[i]? = some (pc, .invokestatic idx, 3)) (hw : ∀ w ∈ [Cond.methodLink own idx Lib.Math.abs.name, Cond.static Lib.Math.abs.name, Cond.initialized "java/lang/Math", Cond.code Lib.Math.abs.name Lib.Math.abs.code 1 (some .int)], w ∈ lw_tbl) (hS8 : Nat.ble ((S.map fun v => v.category).sum) 8 = true) (hkc : Nat.ble kc mc = true) (hks : Nat.ble ks ms = true) (k : GG g x nL Q kc ks y M (pc + 3) L (.int (jabs a) :: S)) : GG g x nL Q kc ks y M pc L (.int a :: S) := by
  intro H locs ls h1 h2 h4
  have hR : RLE x.2.2.2.1 d mc ms := C.2.2.2.2.2.1
  have hR1 := hR.1
  have hR2 := hR.2.1
  have hcat := cat_le (g := g) hS8
  have k1 := Nat.le_of_ble_eq_true hkc
  have k2 := Nat.le_of_ble_eq_true hks
  exact va_mabs C.1 C.2.1 (by rw [h4.1.1]; exact C.2.2.1) C.2.2.2.1 (C.word (hw _ (by simp)) rfl) (C.word (hw _ (by simp)) rfl) (C.word (hw _ (by simp)) rfl) (C.word (hw _ (by simp)) rfl) (by omega) (by omega) (by rw [hR.2.2.1]; exact k1) (by rw [hR.2.2.2]; exact k2) (dcg T hi) (k H locs ls h1 h2 h4)
theorem g_copy (C : CX g x own cc nL d mc ms) (T : dck cc tb = true) {idx a b : Nat} {sp dp n : Int32} (hi : tb[i]? = some (pc, .invokestatic idx, 3)) (hw : ∀ w ∈ [Cond.methodLink own idx arraycopyName, Cond.native arraycopyName, Cond.static arraycopyName, Cond.initialized "java/lang/System"], w ∈ lw_tbl) (hS8 : Nat.ble ((S.map fun v => v.category).sum) 8 = true)
    (hk : ((kd y a).1 = 1 ∧ (kd y b).1 = 1) ∧ (¬ sp < 0 ∧ ¬ dp < 0 ∧ ¬ n < 0) ∧ sp.toNatClampNeg + n.toNatClampNeg ≤ (kd y a).2 ∧ dp.toNatClampNeg + n.toNatClampNeg ≤ (kd y b).2) (k : GG g x nL Q kc ks y (cpI M a b sp.toNatClampNeg dp.toNatClampNeg n.toNatClampNeg) (pc + 3) L S) : GG g x nL Q kc ks y M pc L (.int n :: .int dp :: .ref b :: .int sp :: .ref a :: S) := by
  intro H locs ls h1 h2 h4
  have hR : RLE x.2.2.2.1 d mc ms := C.2.2.2.2.2.1
  have hR1 := hR.1
  have hR2 := hR.2.1
  have hcat := cat_le (g := g) hS8
  obtain ⟨⟨ka, kb⟩, ⟨n1, n2, n3⟩, l1, l2⟩ := hk
  have ha := wld_get (g := g) (M := M) (r := a) (c := kd y a) rfl (by rw [ka]; decide) h1.2
  have hb := wld_get (g := g) (M := M) (r := b) (c := kd y b) rfl (by rw [kb]; decide) h1.2
  have hws : (wld g y M).set (b - 1) (ad g b, .inl (g.2.2.1 0, (kd y b).2, .inl (va_cpy (M.1 a) (M.1 b) sp.toNatClampNeg dp.toNatClampNeg n.toNatClampNeg))) = wld g y (cpI M a b sp.toNatClampNeg dp.toNatClampNeg n.toNatClampNeg) :=
    wld_set (c := kd y b) rfl (by rw [kb]; decide) h1.2 (by unfold entK; rw [if_neg (by rw [kb]; decide), if_pos kb]; show Sum.inl (_, _, Sum.inl ((cpI M a b _ _ _).1 b)) = _; unfold cpI; simp only [if_true]) ent_cp
  unfold entK at ha hb
  rw [if_neg (by rw [ka]; decide), if_pos ka] at ha
  rw [if_neg (by rw [kb]; decide), if_pos kb] at hb
  have e9 : nativeFrameWords "java/lang/System" "arraycopy" 5 ≤ 200 := by decide
  have hnl : (List.map (fun v => Value.category v) (S.map (va g))).sum + (nativeFrameWords "java/lang/System" "arraycopy" 5 + 11) ≤ x.2.2.2.1.locals := by omega
  refine va_copyi C.1 C.2.1 (by rw [h4.1.1]; exact C.2.2.1) C.2.2.2.1 (C.word (hw _ (by simp)) rfl) (C.word (hw _ (by simp)) rfl) (C.word (hw _ (by simp)) rfl) (C.word (hw _ (by simp)) rfl) C.K h1.1 wld_D h2 (a - 1) (b - 1) 0 0 ha hb rfl rfl rfl n1 n2 n3 l1 l2 (fun _ _ => rfl) (by omega) hnl (dcg T hi) (fun H1 locs1 p1 p2 p3 => k H1 locs1 ls ⟨by rw [← hws]; exact p1, h1.2⟩ p3 h4)
end GR5
