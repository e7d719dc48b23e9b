/-! ===== methods that catch, and the law ===== -/
def ct {β : Type} (x : Option (Nat × Int32 × Mem)) (h1 h2 : Mem → Option β) (k : Int32 → Mem → Option β) : Option β := match x with
  | some (0, r, M) => k r M
  | some (1, _, M) => h1 M
  | some (_ + 2, _, M) => h2 M
  | none => none
theorem ct_e {β : Type} {x : Option (Nat × Int32 × Mem)} {h1 h2 : Mem → Option β} {k : Int32 → Mem → Option β} {o : β} (h : ct x h1 h2 k = some o) : (∃ r M, x = some (0, r, M) ∧ k r M = some o) ∨ (∃ r M, x = some (1, r, M) ∧ h1 M = some o) ∨ ∃ e r M, x = some (e + 2, r, M) ∧ h2 M = some o := by
  unfold ct at h; split at h
  · exact Or.inl ⟨_, _, rfl, h⟩
  · exact Or.inr (Or.inl ⟨_, _, rfl, h⟩)
  · exact Or.inr (Or.inr ⟨_, _, _, rfl, h⟩)
  · cases h
theorem exNm2 (e : Nat) : exNm (e + 2) = exNm 2 := by
  unfold exNm
  rw [if_neg (by omega), if_neg (by omega)]
def XW : String → State → State → Prop := fun _ _ _ => False
def CW (g : GX) (l : Launch) (yn : MethodName) (cc : ByteArray) (maxL : Nat) (hh : List (Nat × Nat × Nat × Nat)) (d mc ms : Nat) (y : Lay) (av : List Value) (M : Mem) (f : Option (Int32 × Mem)) : Prop :=
  ∀ out, f = some out → vx_Met l yn [Cond.codeWith yn cc maxL (some .int) hh] (rmD d mc ms) (PK g y av M) (QK g true y out) XW mc ms (Ag g)
def RTW (g : GX) (x : KX) (Q : State → Prop) (hh : List (Nat × Nat × Nat × Nat)) (mc ms : Nat) (y : Lay) (out : Int32 × Mem) : Prop :=
  Q = vx_MQ x.2.2.2.2.2.2.2.1 (QK g true y out) XW x.2.2.2.2.2.2.1 x.2.2.2.2.1 mc ms (Ag g) ∧ x.2.2.2.2.2.2.2.2.1.sig.returnType = some .int ∧ x.2.2.2.2.2.2.2.2.2.exceptionTable.toList = tableOf hh
theorem CW_of {g : GX} {l : Launch} {yn : MethodName} {cc : ByteArray} {maxL : Nat} {hh : List (Nat × Nat × Nat × Nat)} {d mc ms : Nat} {y : Lay} {av : List Value} {M : Mem} {f : Option (Int32 × Mem)} (hG : GF g l) (hy : plainName yn.cls = true) (L0 : List (Option Value)) (hL : argL av ++ List.replicate (maxL - (argL av).length) none = L0) (hn : Nat.ble (argL av).length maxL = true)
    (body : ∀ out, f = some out → ∀ (x : KX) (Q : State → Prop), CX g x yn.cls cc maxL d mc ms → RTW g x Q hh mc ms y out → GG g x maxL Q 0 0 y M 0 L0 []) : CW g l yn cc maxL hh d mc ms y av M f := by
  intro out hf
  refine vx_ofWH (cc := cc) (maxL := maxL) (ret := some .int) (hh := hh) hy rfl ?_
  intro p e s m args below meth c s₁ B hml hP
  have htab := vx_table (x := yn) B (atoms_spec (ws := [Cond.codeWith yn cc maxL (some .int) hh]) B.pre _ (List.mem_singleton_self _))
  obtain ⟨rfl, hR, hW, hb, hlow⟩ := hP
  have C : CX g (p, l, e, rmD d mc ms, s, m, (av.map (va g)).toArray, below, meth, c) yn.cls cc maxL d mc ms := ⟨B.exec, B.bytes, hml, findClass_of_methodNamed B.named, B.notSynchronized, ⟨Nat.le_refl _, Nat.le_refl _, rfl, rfl⟩, hG, hW, hb, hlow⟩
  rw [lg_entry_eq]
  exact body out hf _ _ C ⟨rfl, B.returns, htab⟩ s.heap [] _ hR va_S.rf (start_LV hL (Nat.le_of_ble_eq_true hn))
/-- a handler: from the exception's address on the stack -/
def GH (g : GX) (x : KX) (nL : Nat) (Q : State → Prop) (kc ks : Nat) (y : Lay) (M : Mem) (pc : Nat) (L : List (Option Value)) : Prop :=
  ∀ (H : Heap) (locs : List Loc) (ls : Array Slot) (q : Nat), RelH g y M H → va_S (Ag g) x.2.2.2.2.1.heap H locs → LV g nL ls L → WX x H locs kc ks Q (F0 x.2.2.2.2.2.1 pc ls [.ref q])
/-- where the table sends the e-th kind of exception -/
def HD (hh : List (Nat × Nat × Nat × Nat)) (own : String) (e pc hpc : Nat) : Prop := ∃ (pre : List ExceptionTableEntry) (z : ExceptionTableEntry) (suf : List ExceptionTableEntry), tableOf hh = pre ++ z :: suf ∧ covers z pc = true ∧ z.catchType ≠ 0 ∧ z.handlerPc = hpc ∧ Cond.classLink own z.catchType (exNm e) ∈ lw_tbl ∧ Cond.castable (exNm e) (exNm e) ∈ lw_tbl ∧ ∀ z' ∈ pre, z'.catchType ≠ 0 ∧ Cond.classLink own z'.catchType (exNm 1) ∈ lw_tbl ∧ e = 2
theorem LV.setx {g : GX} {nL : Nat} {ls ls' : Array Slot} {L : List (Option Value)} {i : Nat} {w : Value} (h : LV g nL ls L) (hno : L[i]? = some none) (hn : nlo L i = true) (h' : lv_has ls' nL ((i, w) :: (lvl g 0 L).filter (fun q => !(q.1 == i) && !(q.1 + 1 == i && q.2.category == 2)))) : LV g nL ls' L := by
  refine ⟨⟨h'.1, h'.2.1, fun q hq => ?_⟩, h.2⟩
  apply h'.2.2
  obtain ⟨j, v, e1, e2⟩ := mem_lvl.mp hq
  have hj : i ≠ j := by
    intro e
    subst e
    rw [hno] at e2
    cases e2
  refine List.mem_cons_of_mem _ (List.mem_filter.mpr ⟨mem_lvl.mpr ⟨j, v, e1, e2⟩, ?_⟩)
  rw [e1]
  simp only [Nat.zero_add, va_cat]
  have hne : (j == i) = false := by simpa using (fun e => hj e.symm)
  rw [hne]
  cases hb : (j + 1 == i && v.category == 2) with
  | false => rfl
  | true =>
    simp only [Bool.and_eq_true, beq_iff_eq] at hb
    obtain ⟨hb1, hb2⟩ := hb
    subst hb1
    unfold nlo at hn
    simp only [e2] at hn
    cases v <;> simp [Value.category] at hb2 hn
section GRA
variable {g : GX} {x : KX} {own : String} {cc : ByteArray} {nL d mc ms : Nat} {Q : State → Prop} {kc ks : Nat} {y : Lay} {M : Mem} {pc i : Nat} {L : List (Option Value)} {S : List Value} {tb : Tb}
theorem g_hst_n (C : CX g x own cc nL d mc ms) (T : dck cc tb = true) {j : Fin 4} (hi : tb[i]? = some (pc, .astore_n j, 1)) (hj : Nat.ble ((j : Nat) + 1) nL = true) (hno : L[(j : Nat)]? = some none) (hn : nlo L (j : Nat) = true) (k : GG g x nL Q kc ks y M (pc + 1) L []) : GH g x nL Q kc ks y M pc L :=
  fun H locs ls q h1 h2 h4 => lv_astore_n C.1 C.2.1 (dcg T hi) rfl h4.1 (Nat.le_of_ble_eq_true hj) rfl (fun ls' h' => k H locs ls' h1 h2 (h4.setx hno hn h'))
theorem g_hst (C : CX g x own cc nL d mc ms) (T : dck cc tb = true) {j : Nat} (hi : tb[i]? = some (pc, .astore j, 2)) (hj : Nat.ble (j + 1) nL = true) (hno : L[j]? = some none) (hn : nlo L j = true) (k : GG g x nL Q kc ks y M (pc + 2) L []) : GH g x nL Q kc ks y M pc L :=
  fun H locs ls q h1 h2 h4 => lv_astore C.1 C.2.1 (dcg T hi) h4.1 (Nat.le_of_ble_eq_true hj) rfl (fun ls' h' => k H locs ls' h1 h2 (h4.setx hno hn h'))
theorem g_iretW (C : CX g x own cc nL d mc ms) {e : Int32} {hh : List (Nat × Nat × Nat × Nat)} (R : RTW g x Q hh mc ms y (e, M)) (h1 : Nat.ble kc mc = true) (h2 : Nat.ble ks ms = true) (T : dck cc tb = true) (hi : tb[i]? = some (pc, .ireturn, 1)) : GG g x nL Q kc ks y M pc L [.int e] := by
  refine g_widen h1 h2 ?_
  intro H locs ls h1 h2 h4
  obtain ⟨rfl, hr, -⟩ := R
  exact vx_ret (W.iret C.1 C.2.1 hr (fun t ht hw => ⟨rfl, by rw [ht]; exact h1, h2.F ht⟩) (fun q hq => h2.2.2 q hq) (dcg T hi) C.2.2.2.2.1)
theorem keepS (C : CX g x own cc nL d mc ms) {H : Heap} {locs : List Loc} (h2 : va_S (Ag g) x.2.2.2.2.1.heap H locs) {st₀ t T' : State} {L' : List Loc} (h0 : st₀.heap = H) (e1 : T'.heap = t.heap) (hF : va_F (Ag g) st₀ t) (hL : ∀ q ∈ L', Ag g q.base) : va_S (Ag g) x.2.2.2.2.1.heap T'.heap (locs ++ L') := by
  obtain ⟨hz, hk⟩ := hF
  rw [h0] at hz hk
  refine ⟨Nat.le_trans h2.1 (by rw [e1]; exact hz), fun q h5 h6 => ?_, fun q hq => ?_⟩
  · rw [e1, hk q (Nat.lt_of_lt_of_le h5 h2.1) h6]; exact h2.2.1 q h5 h6
  · rcases List.mem_append.mp hq with h | h
    · exact h2.2.2 q h
    · exact hL q h
theorem g_catch (C : CX g x own cc nL d mc ms) {hh : List (Nat × Nat × Nat × Nat)} {e hpc : Nat} (ht : x.2.2.2.2.2.2.2.2.2.exceptionTable.toList = tableOf hh) (hd : HD hh own e pc hpc) (he : e = 1 ∨ e = 2) {H : Heap} {locs : List Loc} {ls : Array Slot} {ce : Cell} {q : Nat} {rest : List Value} (hcell : H[q]? = some ce) (hv : ce.vm = .none) (hcl : x.2.2.2.2.1.vm.findClass (exNm e) = some ce.cls)
    (k : WX x H locs kc ks Q (F0 x.2.2.2.2.2.1 hpc ls [.ref q])) : vx_W x.1 x.2.1 x.2.2.1 x.2.2.2.1 x.2.2.2.2.1 x.2.2.2.2.2.1 x.2.2.2.2.2.2.1 x.2.2.2.2.2.2.2.1 x.2.2.2.2.2.2.2.2.1 x.2.2.2.2.2.2.2.2.2 H locs kc ks Q (F0 x.2.2.2.2.2.1 pc ls rest) q := by
  obtain ⟨pre, z, suf, e1, e2, e3, e4, e5, e6, e7⟩ := hd
  subst e4
  have hnc : va_Nc "java/lang/IllegalArgumentException" "java/util/NoSuchElementException" x.2.2.2.2.1 := va_Nc.moved (C.2.2.2.2.2.2.2.1).alike C.G.2.2.2.2.2.2.2
  refine vx_catch (own := own) (name := exNm e) (E := exNm e) C.2.2.2.1 pre z suf (ht.trans e1) ?_ e2 e3 (C.word e5 rfl) (C.word2 e6 rfl) hcell hv hcl k
  intro z' hz'
  obtain ⟨a1, a2, a3⟩ := e7 z' hz'
  subst a3
  exact Or.inr ⟨a1, exNm 1, C.word a2 rfl, hnc⟩
theorem g_callVC (C : CX g x own cc nL d mc ms) (T : dck cc tb = true) {idx ci b n maxL d2 m2 s2 : Nat} {yn : MethodName} {c2 : ByteArray} {ret2 : Option FieldType} {hh : List (Nat × Nat × Nat × Nat)} {out : Int32 × Mem} {f : Option (Nat × Int32 × Mem)} {h1' h2' : Mem → Option (Int32 × Mem)} {K : Int32 → Mem → Option (Int32 × Mem)} (R : RTW g x Q hh mc ms y out) (av : List Value) (hi : tb[i]? = some (pc, .invokevirtual idx, 3)) (hW : MW yn c2 maxL ret2 n) (hV : MV ci yn) (hl : Cond.methodLink own idx yn ∈ lw_tbl) (hk : kd y b = (0, ci)) (hd : Nat.ble (d2 + 1) d = true) (hm : Nat.ble maxL 80 = true) (hn : av.length = n) (hS8 : Nat.ble ((S.map fun v => v.category).sum) 8 = true)
    (hc : C1 g x.2.1 yn c2 maxL ret2 d2 m2 s2 y (.ref b :: av) M f) (h : ct f h1' h2' K = some out) (hkc : Nat.ble (kc + m2) mc = true) (hks : Nat.ble (ks + s2) ms = true) {S' : List Value} (hst : av.reverse ++ .ref b :: S = S')
    (x1 : ∀ M1, h1' M1 = some out → ∃ hpc, HD hh own 1 pc hpc ∧ GH g x nL Q (kc + m2) (ks + s2) y M1 hpc L) (x2 : ∀ M1, h2' M1 = some out → ∃ hpc, HD hh own 2 pc hpc ∧ GH g x nL Q (kc + m2) (ks + s2) y M1 hpc L)
    (k : ∀ r M1, K r M1 = some out → GG g x nL Q (kc + m2) (ks + s2) y M1 (pc + 3) L (resv ret2.isSome r ++ S)) : GG g x nL Q kc ks y M pc L S' := by
  intro H locs ls h1 h2 h4
  subst hst
  have hcw : CallW x.2.2.2.1 x.2.2.2.2.1 x.2.2.2.2.2.2.1 own yn.cls idx yn c2 maxL ret2 [Cond.code yn c2 maxL ret2] (rmD d2 m2 s2) m2 s2 n := ⟨callB0 C hW hl hd hm, C.word hV.1 rfl, C.word hV.2.1 rfl⟩
  have hR : RLE x.2.2.2.1 d mc ms := C.2.2.2.2.2.1
  have run : ∀ o2, f = some o2 → vx_Run x.1 x.2.1 x.2.2.1 x.2.2.2.1 x.2.2.2.2.1 x.2.2.2.2.2.1 x.2.2.2.2.2.2.1 x.2.2.2.2.2.2.2.1 x.2.2.2.2.2.2.2.2.1 x.2.2.2.2.2.2.2.2.2 H locs kc ks m2 s2 (F0 x.2.2.2.2.2.1 pc ls ((av.reverse ++ .ref b :: S).map (va g))) (S.map (va g)) (Q1 g ret2.isSome y o2 (Value.ref (ad g b) :: av.map (va g)).toArray) (X1 g y o2) (Ag g) := by
    intro o2 hf
    refine vx_runV ⟨C.1, C.2.1, C.2.2.1, C.2.2.2.1, fun w (hw : w ∈ ([] : List Cond)) => absurd hw List.not_mem_nil⟩ (hc o2 hf) hcw (preV0 C h1 h2 hk hV) rfl ?_ h4.1.1 ?_ ?_ (dcg T hi) ?_
    · rw [List.length_map]; exact hn
    · show List.map (va g) (av.reverse ++ .ref b :: S) = (av.map (va g)).reverse ++ .ref (ad g b) :: S.map (va g)
      rw [List.map_append, List.map_reverse]; rfl
    · show 2 * 0 + _ ≤ 8
      have := cat_le (g := g) hS8
      omega
    · exact ⟨by rw [hR.2.2.1]; exact Nat.le_of_ble_eq_true hkc, by rw [hR.2.2.2]; exact Nat.le_of_ble_eq_true hks⟩
  intro Tt hT X
  rcases ct_e h with ⟨r, M1, hf, hK⟩ | ⟨r, M1, hf, hK⟩ | ⟨e, r, M1, hf, hK⟩
  · rcases run _ hf Tt hT X with ⟨v, st₀, t, T', L', h0, X', hL, e1, e2, ⟨-, hv, hRl, hF⟩, st⟩ | ⟨q, st₀, t, T', L', E, ce, h0, X', hL, e1, e2, ⟨hne, -⟩, -⟩
    · obtain ⟨t2, a1, b1⟩ := k r M1 hK T'.heap (locs ++ L') ls (by rw [e1]; exact hRl) (keepS C h2 h0 e1 hF hL) h4 T' rfl X'
      refine ⟨t2, st t2 ?_, b1⟩
      have ev : (if ret2.isSome = true then some (Value.int r) else none).toList ++ S.map (va g) = (resv ret2.isSome r ++ S).map (va g) := by
        cases ret2.isSome <;> rfl
      cases hv
      show Steps _ _ _ (T'.setTop { F0 x.2.2.2.2.2.1 pc ls _ with pc := pc + 3, stack := _ }) _
      rw [ev]
      exact a1
    · exact absurd rfl hne
  · rcases run _ hf Tt hT X with ⟨v, st₀, t, T', L', h0, X', hL, e1, e2, ⟨hne, -⟩, st⟩ | ⟨q, st₀, t, T', L', E, ce, h0, X', hL, e1, e2, ⟨-, hE, hRl, hF⟩, hce, hcv, hcl, st⟩
    · cases hne
    · obtain ⟨hpc, hd9, kk⟩ := x1 M1 hK
      have hS := keepS C h2 h0 e1 hF hL
      subst hE
      obtain ⟨t2, a1, b1⟩ := g_catch (kc := kc + m2) (ks := ks + s2) (Q := Q) (locs := locs ++ L') (ls := ls) (rest := S.map (va g)) C R.2.2 hd9 (Or.inl rfl) (by rw [e1]; exact hce) hcv hcl (kk T'.heap (locs ++ L') ls q (by rw [e1]; exact hRl) hS h4) T' rfl X'
      exact ⟨t2, st.trans a1, b1⟩
  · rcases run _ hf Tt hT X with ⟨v, st₀, t, T', L', h0, X', hL, e1, e2, ⟨hne, -⟩, st⟩ | ⟨q, st₀, t, T', L', E, ce, h0, X', hL, e1, e2, ⟨-, hE, hRl, hF⟩, hce, hcv, hcl, st⟩
    · cases hne
    · obtain ⟨hpc, hd9, kk⟩ := x2 M1 hK
      have hS := keepS C h2 h0 e1 hF hL
      have hE2 : E = exNm 2 := hE.trans (exNm2 e)
      subst hE2
      obtain ⟨t2, a1, b1⟩ := g_catch (kc := kc + m2) (ks := ks + s2) (Q := Q) (locs := locs ++ L') (ls := ls) (rest := S.map (va g)) C R.2.2 hd9 (Or.inr rfl) (by rw [e1]; exact hce) hcv hcl (kk T'.heap (locs ++ L') ls q (by rw [e1]; exact hRl) hS h4) T' rfl X'
      exact ⟨t2, st.trans a1, b1⟩
/-- the words of a static method with handlers -/
def MWH (yn : MethodName) (cc : ByteArray) (maxL : Nat) (hh : List (Nat × Nat × Nat × Nat)) (n : Nat) : Prop :=
  Cond.codeWith yn cc maxL (some .int) hh ∈ lw_tbl ∧ Cond.initialized yn.cls ∈ lw_tbl ∧ (yn.cls ≠ "java/lang/invoke/MethodHandle" ∧ yn.cls ≠ "java/lang/invoke/VarHandle") ∧ (parseMethodDescriptor yn.desc).map (fun d => d.parameters.length) = some n ∧ Cond.static yn ∈ lw_tbl
/-- the call of a method that catches -/
theorem g_callSW (C : CX g x own cc nL d mc ms) (T : dck cc tb = true) {idx n maxL d2 m2 s2 : Nat} {yn : MethodName} {c2 : ByteArray} {hh : List (Nat × Nat × Nat × Nat)} {f : Option (Int32 × Mem)} {r : Int32} {M1 : Mem} (av : List Value) (hi : tb[i]? = some (pc, .invokestatic idx, 3)) (hW : MWH yn c2 maxL hh n) (hl : Cond.methodLink own idx yn ∈ lw_tbl) (hd : Nat.ble (d2 + 1) d = true) (hm : Nat.ble maxL 80 = true) (hn : av.length = n) (hS8 : Nat.ble ((S.map fun v => v.category).sum) 8 = true)
    (hc : CW g x.2.1 yn c2 maxL hh d2 m2 s2 y av M f) (hf : f = some (r, M1)) (hkc : Nat.ble (kc + m2) mc = true) (hks : Nat.ble (ks + s2) ms = true) {S' : List Value} (hst : av.reverse ++ S = S') (k : GG g x nL Q (kc + m2) (ks + s2) y M1 (pc + 3) L (.int r :: S)) : GG g x nL Q kc ks y M pc L S' := by
  intro H locs ls h1 h2 h4
  subst hst
  have hR : RLE x.2.2.2.1 d mc ms := C.2.2.2.2.2.1
  have h9 : d2 + 1 ≤ d := Nat.le_of_ble_eq_true hd
  have h8 : maxL ≤ 80 := Nat.le_of_ble_eq_true hm
  have h7 : 8 + (maxL + 11) + (100 * d2 + 300) ≤ 100 * d + 300 := by omega
  have h6 : d2 + 10 + 1 ≤ d + 10 := by omega
  have cw : vx_CSW x.2.2.2.1 x.2.2.2.2.1 x.2.2.2.2.2.2.1 own idx yn c2 maxL (some .int) hh [Cond.codeWith yn c2 maxL (some .int) hh] (rmD d2 m2 s2) m2 s2 n := by
    refine ⟨⟨rfl, rfl, Nat.le_trans h6 hR.1, Nat.le_trans h7 hR.2.1, ?_, List.mem_singleton_self _⟩, C.word hW.1 rfl, C.word hW.2.1 rfl, hW.2.2.1, ?_, C.word hl rfl, C.word hW.2.2.2.2 rfl⟩
    · intro w hw a' U hWm
      rw [List.mem_singleton.mp hw]
      exact word_at hWm (good_of_word rfl) (C.word hW.1 rfl)
    · intro sig h
      have h3 := hW.2.2.2.1
      rw [h] at h3
      exact (Option.some.inj h3).symm
  have run : vx_Run x.1 x.2.1 x.2.2.1 x.2.2.2.1 x.2.2.2.2.1 x.2.2.2.2.2.1 x.2.2.2.2.2.2.1 x.2.2.2.2.2.2.2.1 x.2.2.2.2.2.2.2.2.1 x.2.2.2.2.2.2.2.2.2 H locs kc ks m2 s2 (F0 x.2.2.2.2.2.1 pc ls ((av.reverse ++ S).map (va g))) (S.map (va g)) (QK g true y (r, M1) (av.map (va g)).toArray) XW (Ag g) := by
    refine vx_runSX ⟨C.1, C.2.1, C.2.2.1, C.2.2.2.1, fun w (hw : w ∈ ([] : List Cond)) => absurd hw List.not_mem_nil⟩ (hc _ hf) cw (preS0 C h1 h2) rfl ?_ h4.1.1 ?_ ?_ (dcg T hi) ?_
    · rw [List.length_map]; exact hn
    · show List.map (va g) (av.reverse ++ S) = (av.map (va g)).reverse ++ S.map (va g)
      rw [List.map_append, List.map_reverse]
    · show 2 * 0 + _ ≤ 8
      have := cat_le (g := g) hS8
      omega
    · exact ⟨by rw [hR.2.2.1]; exact Nat.le_of_ble_eq_true hkc, by rw [hR.2.2.2]; exact Nat.le_of_ble_eq_true hks⟩
  intro Tt hT X
  rcases run Tt hT X with ⟨v, st₀, t, T', L', h0, X', hL, e1, e2, ⟨hv, hRl, hF⟩, st⟩ | ⟨q, st₀, t, T', L', E, ce, h0, X', hL, e1, e2, hx, -⟩
  · obtain ⟨t2, a1, b1⟩ := k T'.heap (locs ++ L') ls (by rw [e1]; exact hRl) (keepS C h2 h0 e1 hF hL) h4 T' rfl X'
    refine ⟨t2, st t2 ?_, b1⟩
    cases hv
    exact a1
  · exact hx.elim
end GRA
