/-! ===== contracts of methods that throw nothing and make nothing; their start, end and call ===== -/
def pm (M : Mem) (f : Option Int32) : Option (Int32 × Mem) := f.map (fun r => (r, M))
theorem pm_e {M : Mem} {f : Option Int32} {o : Int32 × Mem} (h : pm M f = some o) : ∃ r, f = some r ∧ o = (r, M) := by
  unfold pm at h
  cases f with
  | none => cases h
  | some r => cases h; exact ⟨r, rfl, rfl⟩
theorem pm_s {M : Mem} {f : Option Int32} {r : Int32} (h : f = some r) : pm M f = some (r, M) := by rw [h]; rfl
/-- a pure call -/
def cp {β : Type} (x : Option Int32) (k : Int32 → Option β) : Option β := match x with
  | some r => k r
  | none => none
theorem cp_e {β : Type} {x : Option Int32} {k : Int32 → Option β} {o : β} (h : cp x k = some o) : ∃ r, x = some r ∧ k r = some o := by
  unfold cp at h; split at h
  · exact ⟨_, rfl, h⟩
  · cases h
def resv (rv : Bool) (r : Int32) : List Value := if rv then [.int r] else []
def QK (g : GX) (rv : Bool) (y : Lay) (out : Int32 × Mem) : Array Value → State → Outcome → State → Prop := fun _ st o t => o = .returned (if rv then some (.int out.1) else none) ∧ RelH g y out.2 t.heap ∧ va_F (Ag g) st t
def PK (g : GX) (y : Lay) (av : List Value) (M : Mem) : Array Value → State → Prop := fun v U => v = (av.map (va g)).toArray ∧ RelH g y M U.heap ∧ g.1.WarmedH U.vm ∧ bs g ≤ U.heap.size ∧ ∀ q, q < bs g → U.heap[q]? = g.1.heap[q]?
theorem PK_blind {g : GX} {y : Lay} {av : List Value} {M : Mem} : FrameBlind (PK g y av M) := fun _ _ _ _ h => h
def C0 (g : GX) (l : Launch) (yn : MethodName) (cc : ByteArray) (maxL : Nat) (ret : Option FieldType) (d : Nat) (y : Lay) (av : List Value) (M : Mem) (f : Option (Int32 × Mem)) : Prop :=
  ∀ out, f = some out → Met l yn [Cond.code yn cc maxL ret] (rmD d 0 0) (PK g y av M) (QK g ret.isSome y out) 0 0 (Ag g)
/-- what a body owes at its end -/
def RT0 (g : GX) (x : KX) (Q : State → Prop) (ret : Option FieldType) (y : Lay) (out : Int32 × Mem) : Prop :=
  Q = MQ x.2.2.2.2.2.2.2.1 (QK g ret.isSome y out) x.2.2.2.2.2.2.1 x.2.2.2.2.1 0 0 (Ag g) ∧ x.2.2.2.2.2.2.2.2.1.sig.returnType = ret
def argL (av : List Value) : List (Option Value) := av.flatMap (fun v => if v.category = 2 then [some v, none] else [some v])
theorem lvl_none {g : GX} (n : Nat) : ∀ k, lvl g k (List.replicate n none) = [] := by
  induction n with
  | zero => intro k; rfl
  | succ n ih => intro k; exact ih (k + 1)
theorem lvl_args {g : GX} {n : Nat} : ∀ (av : List Value) (k : Nat), lvl g k (argL av ++ List.replicate n none) = lv_args k (av.map (va g)) := by
  intro av
  induction av with
  | nil => intro k; exact lvl_none n k
  | cons v av ih =>
    intro k
    have hc := va_cat (g := g) v
    show lvl g k (argL (v :: av) ++ _) = _
    have e : argL (v :: av) = (if v.category = 2 then [some v, none] else [some v]) ++ argL av := rfl
    rw [e]
    by_cases h : v.category = 2
    · rw [if_pos h]
      show (k, va g v) :: lvl g (k + 1 + 1) (argL av ++ _) = lv_args k (va g v :: av.map (va g))
      rw [ih]
      simp [lv_args, hc, h]
    · rw [if_neg h]
      show (k, va g v) :: lvl g (k + 1) (argL av ++ _) = lv_args k (va g v :: av.map (va g))
      rw [ih]
      simp [lv_args, hc, h]
theorem sl_len {g : GX} : ∀ av : List Value, (lg_sl (av.map (va g))).length = (argL av).length := by
  intro av
  induction av with
  | nil => rfl
  | cons v av ih =>
    have e1 : lg_sl ((v :: av).map (va g)) = (if (va g v).category = 2 then [.val (va g v), .second] else [.val (va g v)]) ++ lg_sl (av.map (va g)) := rfl
    have e2 : argL (v :: av) = (if v.category = 2 then [some v, none] else [some v]) ++ argL av := rfl
    rw [e1, e2, List.length_append, List.length_append, ih, va_cat]
    congr 1
    split <;> rfl
/-- the start of a walk -/
theorem start_LV {g : GX} {av : List Value} {maxL : Nat} {L0 : List (Option Value)} (hL : argL av ++ List.replicate (maxL - (argL av).length) none = L0) (hn : (argL av).length ≤ maxL) : LV g maxL ((lg_sl (av.map (va g)) ++ List.replicate (maxL - (lg_sl (av.map (va g))).length) Slot.unset).toArray) L0 := by
  subst hL
  refine ⟨?_, ?_⟩
  · rw [lvl_args]
    exact lv_entry _ (by rw [sl_len]; exact hn)
  · rw [List.length_append, List.length_replicate]; omega
theorem C0_of {g : GX} {l : Launch} {yn : MethodName} {cc : ByteArray} {maxL : Nat} {ret : Option FieldType} {d : Nat} {y : Lay} {av : List Value} {M : Mem} {f : Option (Int32 × Mem)} (hG : GF g l) (hy : plainName yn.cls = true) (L0 : List (Option Value)) (hL : argL av ++ List.replicate (maxL - (argL av).length) none = L0) (hn : Nat.ble (argL av).length maxL = true)
    (body : ∀ out, f = some out → ∀ (x : KX) (Q : State → Prop), CX g x yn.cls cc maxL d 0 0 → RT0 g x Q ret y out → GG g x maxL Q 0 0 y M 0 L0 []) : C0 g l yn cc maxL ret d y av M f := by
  intro out hf
  refine Met.ofW (cc := cc) (maxL := maxL) (ret := ret) hy rfl ?_
  intro p e s m args below meth c s₁ B hml hP
  obtain ⟨rfl, hR, hW, hb, hlow⟩ := hP
  have C : CX g (p, l, e, rmD d 0 0, s, m, (av.map (va g)).toArray, below, meth, c) yn.cls cc maxL d 0 0 := ⟨B.exec, B.bytes, hml, findClass_of_methodNamed B.named, B.notSynchronized, ⟨Nat.le_refl _, Nat.le_refl _, rfl, rfl⟩, hG, hW, hb, hlow⟩
  rw [lg_entry_eq]
  exact body out hf _ _ C ⟨rfl, B.returns⟩ s.heap [] _ hR va_S.rf (start_LV hL (Nat.le_of_ble_eq_true hn))
section GR4
variable {g : GX} {x : KX} {own : String} {cc : ByteArray} {nL d mc ms : Nat} {Q : State → Prop} {kc ks : Nat} {y : Lay} {M : Mem} {pc i : Nat} {L : List (Option Value)} {S : List Value} {tb : Tb}
theorem g_iret0 (C : CX g x own cc nL d mc ms) {e : Int32} (R : RT0 g x Q (some .int) y (e, M)) (T : dck cc tb = true) (hi : tb[i]? = some (pc, .ireturn, 1)) : GG g x nL Q 0 0 y M pc L [.int e] := by
  intro H locs ls h1 h2 h4
  obtain ⟨rfl, hr⟩ := R
  exact W.iret C.1 C.2.1 hr (fun t ht hw => ⟨rfl, by rw [ht]; exact h1, h2.F ht⟩) (fun q hq => h2.2.2 q hq) (dcg T hi) C.2.2.2.2.1
theorem g_zret0 (C : CX g x own cc nL d mc ms) {e : Int32} (R : RT0 g x Q (some .boolean) y (e, M)) (he : e = 0 ∨ e = 1) (T : dck cc tb = true) (hi : tb[i]? = some (pc, .ireturn, 1)) : GG g x nL Q 0 0 y M pc L [.int e] := by
  intro H locs ls h1 h2 h4
  obtain ⟨rfl, hr⟩ := R
  exact W.zret C.1 C.2.1 hr (by rcases he with rfl | rfl <;> rfl) (fun t ht hw => ⟨rfl, by rw [ht]; exact h1, h2.F ht⟩) (fun q hq => h2.2.2 q hq) (dcg T hi) C.2.2.2.2.1
theorem g_vret0 (C : CX g x own cc nL d mc ms) {e : Int32} (R : RT0 g x Q none y (e, M)) (T : dck cc tb = true) (hi : tb[i]? = some (pc, .return_, 1)) : GG g x nL Q 0 0 y M pc L [] := by
  intro H locs ls h1 h2 h4
  obtain ⟨rfl, hr⟩ := R
  exact W.vret C.1 C.2.1 hr (fun t ht hw => ⟨rfl, by rw [ht]; exact h1, h2.F ht⟩) (fun q hq => h2.2.2 q hq) (dcg T hi) C.2.2.2.2.1
/-- a callee's own words -/
def MW (yn : MethodName) (cc : ByteArray) (maxL : Nat) (ret : Option FieldType) (n : Nat) : Prop :=
  Cond.code yn cc maxL ret ∈ lw_tbl ∧ Cond.initialized yn.cls ∈ lw_tbl ∧ (yn.cls ≠ "java/lang/invoke/MethodHandle" ∧ yn.cls ≠ "java/lang/invoke/VarHandle") ∧ (parseMethodDescriptor yn.desc).map (fun d => d.parameters.length) = some n
/-- its words as an instance method, picked by its class's number -/
def MV (ci : Nat) (yn : MethodName) : Prop := Cond.instanceMethod yn ∈ lw_tbl ∧ Cond.selects yn.cls yn yn ∈ lw_tbl ∧ (vwCl[ci]?).map (fun q => q.1) = some yn.cls
theorem callB0 (C : CX g x own cc nL d mc ms) {idx : Nat} {yn : MethodName} {c2 : ByteArray} {maxL n d2 m2 s2 : Nat} {ret : Option FieldType} (hW : MW yn c2 maxL ret n) (hl : Cond.methodLink own idx yn ∈ lw_tbl) (hd : Nat.ble (d2 + 1) d = true) (hm : Nat.ble maxL 80 = true) :
    CallB x.2.2.2.1 x.2.2.2.2.1 x.2.2.2.2.2.2.1 own idx yn c2 maxL ret [Cond.code yn c2 maxL ret] (rmD d2 m2 s2) m2 s2 n := by
  have h1 : d2 + 1 ≤ d := Nat.le_of_ble_eq_true hd
  have h2 : maxL ≤ 80 := Nat.le_of_ble_eq_true hm
  have h3 : 8 + (maxL + 11) + (100 * d2 + 300) ≤ 100 * d + 300 := by omega
  have h4 : d2 + 10 + 1 ≤ d + 10 := by omega
  obtain ⟨r1, r2, -, -⟩ : RLE x.2.2.2.1 d mc ms := C.2.2.2.2.2.1
  refine ⟨rfl, rfl, ?_, ?_, ?_, List.mem_singleton_self _, C.word hW.1 rfl, C.word hW.2.1 rfl, hW.2.2.1, ?_, C.word hl rfl⟩
  · exact Nat.le_trans h4 r1
  · exact Nat.le_trans h3 r2
  · intro w hw a' U hWm
    rw [List.mem_singleton.mp hw]
    exact word_at hWm (good_of_word rfl) (C.word hW.1 rfl)
  · intro sig h
    have h3 := hW.2.2.2
    rw [h] at h3
    exact (Option.some.inj h3).symm
theorem preV0 (C : CX g x own cc nL d mc ms) {H : Heap} {locs : List Loc} {ci b : Nat} {yn : MethodName} {av : List Value} (h1 : RelH g y M H) (h2 : va_S (Ag g) x.2.2.2.2.1.heap H locs) (hk : kd y b = (0, ci)) (hv : MV ci yn) : PreV x.2.2.2.2.1 H yn.cls (ad g b) (PK g y (.ref b :: av) M) (av.map (va g)) := by
  have he : (wld g y M)[b - 1]? = some (ad g b, .inr (ci, (List.range (nfl ci)).map (slot g y M b ci))) := wld_get (g := g) (M := M) hk (show (0 : Nat) ≠ 9 by decide) h1.2
  obtain ⟨r, hr, cell, c1, c2, c3, -⟩ := h1.1 (b - 1) _ he
  have hcl : r.1 = yn.cls := by
    have h3 := hv.2.2
    rw [hr] at h3
    exact Option.some.inj h3
  refine ⟨PK_blind, ⟨cell, c1, by rw [c3]; rfl, ?_⟩, fun U hU hW => ⟨rfl, by rw [hU]; exact h1, State.WarmedH.trans C.2.2.2.2.2.2.2.1 hW, ?_, ?_⟩⟩
  · rw [c2, ← hcl]
    have := (C.K.1 ci r hr).2
    exact this.1
  · rw [hU]; exact Nat.le_trans C.2.2.2.2.2.2.2.2.1 h2.1
  · intro q hq
    rw [hU, h2.2.1 q (Nat.lt_of_lt_of_le hq C.2.2.2.2.2.2.2.2.1) (Nat.not_le.mpr hq)]
    exact C.2.2.2.2.2.2.2.2.2 q hq
theorem preS0 (C : CX g x own cc nL d mc ms) {H : Heap} {locs : List Loc} {av : List Value} (h1 : RelH g y M H) (h2 : va_S (Ag g) x.2.2.2.2.1.heap H locs) : PreS x.2.2.2.2.1 H (PK g y av M) (av.map (va g)) := by
  refine ⟨PK_blind, fun U hU hW => ⟨rfl, by rw [hU]; exact h1, State.WarmedH.trans C.2.2.2.2.2.2.2.1 hW, ?_, ?_⟩⟩
  · rw [hU]; exact Nat.le_trans C.2.2.2.2.2.2.2.2.1 h2.1
  · intro q hq
    rw [hU, h2.2.1 q (Nat.lt_of_lt_of_le hq C.2.2.2.2.2.2.2.2.1) (Nat.not_le.mpr hq)]
    exact C.2.2.2.2.2.2.2.2.2 q hq
/-- behind a call -/
theorem after0 {H : Heap} {locs : List Loc} {ls : Array Slot} {rv : Bool} {M1 : Mem} {r : Int32} {a : Array Value} {st0 : List Value} (h2 : va_S (Ag g) x.2.2.2.2.1.heap H locs) (h4 : LV g nL ls L)
    (hr : va_Run x.1 x.2.1 x.2.2.1 x.2.2.2.1 x.2.2.2.2.1 x.2.2.2.2.2.1 x.2.2.2.2.2.2.1 x.2.2.2.2.2.2.2.1 x.2.2.2.2.2.2.2.2.1 x.2.2.2.2.2.2.2.2.2 H locs kc ks mc ms (F0 x.2.2.2.2.2.1 pc ls st0) (S.map (va g)) (QK g rv y (r, M1) a) (Ag g))
    (k : GG g x nL Q (kc + mc) (ks + ms) y M1 (pc + 3) L (resv rv r ++ S)) : WX x H locs kc ks Q (F0 x.2.2.2.2.2.1 pc ls st0) := by
  intro T hT X
  obtain ⟨v, st₀, t, T', L', h0, X', hL, e1, e2, ⟨hv, hR, hF⟩, st⟩ := hr T hT X
  have hS : va_S (Ag g) x.2.2.2.2.1.heap T'.heap (locs ++ L') := by
    obtain ⟨hz, hk⟩ := hF
    rw [h0] at hz hk
    refine ⟨Nat.le_trans h2.1 (by rw [e1]; exact hz), fun q h5 h6 => ?_, fun q hq => ?_⟩
    · rw [e1, hk q (Nat.lt_of_lt_of_le h5 h2.1) h6]; exact h2.2.1 q h5 h6
    · rcases List.mem_append.mp hq with h | h
      · exact h2.2.2 q h
      · exact hL q h
  obtain ⟨t2, a1, b1⟩ := k T'.heap (locs ++ L') ls (by rw [e1]; exact hR) hS h4 T' rfl X'
  refine ⟨t2, st t2 ?_, b1⟩
  have ev : (if rv = true then some (Value.int r) else none).toList ++ S.map (va g) = (resv rv r ++ S).map (va g) := by
    cases rv <;> rfl
  cases hv
  show Steps _ _ _ (T'.setTop { F0 x.2.2.2.2.2.1 pc ls st0 with pc := pc + 3, stack := _ }) _
  rw [ev]
  exact a1
theorem g_callV0 (C : CX g x own cc nL d mc ms) (T : dck cc tb = true) {idx ci b n maxL d2 : Nat} {yn : MethodName} {c2 : ByteArray} {ret : Option FieldType} {f : Option (Int32 × Mem)} {r : Int32} {M1 : Mem} (av : List Value) (hi : tb[i]? = some (pc, .invokevirtual idx, 3)) (hW : MW yn c2 maxL ret n) (hV : MV ci yn) (hl : Cond.methodLink own idx yn ∈ lw_tbl) (hk : kd y b = (0, ci)) (hd : Nat.ble (d2 + 1) d = true) (hm : Nat.ble maxL 80 = true) (hn : av.length = n) (hS8 : Nat.ble ((S.map fun v => v.category).sum) 8 = true)
    (hc : C0 g x.2.1 yn c2 maxL ret d2 y (.ref b :: av) M f) (hf : f = some (r, M1)) (hkc : Nat.ble kc mc = true) (hks : Nat.ble ks ms = true) {S' : List Value} (hst : av.reverse ++ .ref b :: S = S') (k : GG g x nL Q kc ks y M1 (pc + 3) L (resv ret.isSome r ++ S)) : GG g x nL Q kc ks y M pc L S' := by
  intro H locs ls h1 h2 h4
  subst hst
  have hcw : CallW x.2.2.2.1 x.2.2.2.2.1 x.2.2.2.2.2.2.1 own yn.cls idx yn c2 maxL ret [Cond.code yn c2 maxL ret] (rmD d2 0 0) 0 0 n := ⟨callB0 C hW hl hd hm, C.word hV.1 rfl, C.word hV.2.1 rfl⟩
  have hR : RLE x.2.2.2.1 d mc ms := C.2.2.2.2.2.1
  refine after0 (mc := 0) (ms := 0) h2 h4 (va_runV ⟨C.1, C.2.1, C.2.2.1, C.2.2.2.1, fun w (hw : w ∈ ([] : List Cond)) => absurd hw List.not_mem_nil⟩ (hc _ hf) hcw (preV0 C h1 h2 hk hV) rfl ?_ h4.1.1 ?_ ?_ (dcg T hi) ?_) k
  · rw [List.length_map]; exact hn
  · show List.map (va g) (av.reverse ++ .ref b :: S) = (av.map (va g)).reverse ++ .ref (ad g b) :: S.map (va g)
    rw [List.map_append, List.map_reverse]; rfl
  · show 2 * 0 + _ ≤ 8
    have := Nat.le_of_ble_eq_true hS8
    rw [List.map_map]
    have e : (fun v => Value.category v) ∘ va g = fun v => v.category := by funext v; exact va_cat v
    rw [e]; omega
  · exact ⟨by rw [hR.2.2.1]; have := Nat.le_of_ble_eq_true hkc; omega, by rw [hR.2.2.2]; have := Nat.le_of_ble_eq_true hks; omega⟩
theorem g_callS0 (C : CX g x own cc nL d mc ms) (T : dck cc tb = true) {idx n maxL d2 : Nat} {yn : MethodName} {c2 : ByteArray} {ret : Option FieldType} {f : Option (Int32 × Mem)} {r : Int32} {M1 : Mem} (av : List Value) (hi : tb[i]? = some (pc, .invokestatic idx, 3)) (hW : MW yn c2 maxL ret n) (hV : Cond.static yn ∈ lw_tbl) (hl : Cond.methodLink own idx yn ∈ lw_tbl) (hd : Nat.ble (d2 + 1) d = true) (hm : Nat.ble maxL 80 = true) (hn : av.length = n) (hS8 : Nat.ble ((S.map fun v => v.category).sum) 8 = true)
    (hc : C0 g x.2.1 yn c2 maxL ret d2 y av M f) (hf : f = some (r, M1)) (hkc : Nat.ble kc mc = true) (hks : Nat.ble ks ms = true) {S' : List Value} (hst : av.reverse ++ S = S') (k : GG g x nL Q kc ks y M1 (pc + 3) L (resv ret.isSome r ++ S)) : GG g x nL Q kc ks y M pc L S' := by
  intro H locs ls h1 h2 h4
  subst hst
  have hR : RLE x.2.2.2.1 d mc ms := C.2.2.2.2.2.1
  refine after0 (mc := 0) (ms := 0) h2 h4 (va_runS ⟨C.1, C.2.1, C.2.2.1, C.2.2.2.1, fun w (hw : w ∈ ([] : List Cond)) => absurd hw List.not_mem_nil⟩ (hc _ hf) ⟨callB0 C hW hl hd hm, C.word hV rfl⟩ (preS0 C h1 h2) rfl ?_ h4.1.1 ?_ ?_ (dcg T hi) ?_) k
  · rw [List.length_map]; exact hn
  · show List.map (va g) (av.reverse ++ S) = (av.map (va g)).reverse ++ S.map (va g)
    rw [List.map_append, List.map_reverse]
  · show 2 * 0 + _ ≤ 8
    have := Nat.le_of_ble_eq_true hS8
    rw [List.map_map]
    have e : (fun v => Value.category v) ∘ va g = fun v => v.category := by funext v; exact va_cat v
    rw [e]; omega
  · exact ⟨by rw [hR.2.2.1]; have := Nat.le_of_ble_eq_true hkc; omega, by rw [hR.2.2.2]; have := Nat.le_of_ble_eq_true hks; omega⟩
end GR4
