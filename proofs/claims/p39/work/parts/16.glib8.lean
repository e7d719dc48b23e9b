/-! ===== constructors ===== -/
/-- a cell more, of kind c, all zero -/
def psh (y : Lay) (c : Nat × Nat) : Lay := (fun q => if q = y.2.2 + 1 then c else y.1 q, fun q k => if q = y.2.2 + 1 then 0 else y.2.1 q k, y.2.2 + 1)
def zM (M : Mem) (p : Nat) : Mem := (fun a k => if a = p then 0 else M.1 a k, fun a k => if a = p then 0 else M.2.1 a k, fun a k => if a = p then 0 else M.2.2 a k)
def wF (y : Lay) (p k v : Nat) : Lay := (y.1, u2 y.2.1 p k v, y.2.2)
theorem slot_z {g : GX} {y : Lay} {M : Mem} {c : Nat × Nat} {p ci : Nat} (hp : p ≠ y.2.2 + 1) : slot g (psh y c) (zM M (y.2.2 + 1)) p ci = slot g y M p ci := by
  funext k
  unfold slot psh zM
  simp only [if_neg hp]
theorem ent_z {g : GX} {y : Lay} {M : Mem} {c c' : Nat × Nat} {p : Nat} (hp : p ≠ y.2.2 + 1) : entK g (psh y c) (zM M (y.2.2 + 1)) p c' = entK g y M p c' := by
  have e1 : (zM M (y.2.2 + 1)).1 p = M.1 p := by funext k; exact if_neg hp
  have e2 : (zM M (y.2.2 + 1)).2.1 p = M.2.1 p := by funext k; exact if_neg hp
  have e3 : (psh y c).2.1 p = y.2.1 p := by funext k; exact if_neg hp
  unfold entK
  rw [slot_z hp, e1, e2]
  simp only [e3]
theorem wld_psh {g : GX} {y : Lay} {M : Mem} {c : Nat × Nat} : wld g (psh y c) (zM M (y.2.2 + 1)) = wld g y M ++ [(bs g + y.2.2, entK g (psh y c) (zM M (y.2.2 + 1)) (y.2.2 + 1) c)] := by
  unfold wld
  show (List.range (y.2.2 + 1)).map _ = _
  rw [List.range_succ, List.map_append]
  congr 1
  · apply List.map_congr_left
    intro i hi
    have hi' : i < y.2.2 := List.mem_range.mp hi
    have hne : i + 1 ≠ y.2.2 + 1 := by omega
    rw [ent_z hne]
    have e : (psh y c).1 (i + 1) = y.1 (i + 1) := if_neg hne
    rw [e]
  · show [(bs g + y.2.2, entK g (psh y c) _ (y.2.2 + 1) ((psh y c).1 (y.2.2 + 1)))] = _
    rw [show (psh y c).1 (y.2.2 + 1) = c from if_pos rfl]
/-- where the next cell goes -/
theorem new_at {g : GX} {y : Lay} {M : Mem} {H1 : Heap} {q : Nat} {e : va_E} (hP : va_P g.2.1 vwCl (wld g y M ++ [(q, e)]) H1) (hD : va_D (Ag g) (wld g y M ++ [(q, e)])) (hz : H1.size ≤ bs g + y.2.2 + 1) : q = bs g + y.2.2 := by
  have hl : (wld g y M ++ [(q, e)])[y.2.2]? = some (q, e) := by
    rw [List.getElem?_append_right (by rw [wld_len]; exact Nat.le_refl _), wld_len, Nat.sub_self]; rfl
  have h1 : q < H1.size := (hP _ _ hl).lt
  have h2 : bs g ≤ q := hD.2 _ _ hl
  by_cases hq : q < bs g + y.2.2
  · exfalso
    have hi : q - bs g < y.2.2 := by omega
    have hg : (wld g y M ++ [(q, e)])[q - bs g]? = some (bs g + (q - bs g), entK g y M (q - bs g + 1) (y.1 (q - bs g + 1))) := by
      rw [List.getElem?_append_left (by rw [wld_len]; exact hi)]
      unfold wld
      rw [List.getElem?_map, List.getElem?_range hi]; rfl
    have := hD.1 _ _ _ _ hg hl (by show bs g + (q - bs g) = q; omega)
    omega
  · omega
def PI (g : GX) (y : Lay) (av : List Value) (M : Mem) : Array Value → State → Prop := fun v U => PK g y av M v U ∧ U.heap.size = bs g + y.2.2
theorem PI_blind {g : GX} {y : Lay} {av : List Value} {M : Mem} : FrameBlind (PI g y av M) := fun _ _ _ _ h => h
def QI (g : GX) (n : Nat) (out : Lay × Mem) : Array Value → State → Outcome → State → Prop := fun _ st o t => o = .returned none ∧ RelH g out.1 out.2 t.heap ∧ va_F (Ag g) st t ∧ t.heap.size = bs g + out.1.2.2 ∧ out.1.2.2 = n
def CIt (g : GX) (l : Launch) (yn : MethodName) (cc : ByteArray) (maxL : Nat) (d mc ms : Nat) (y : Lay) (av : List Value) (M : Mem) (f : Option (Lay × Mem)) : Prop :=
  ∀ out, f = some out → Met l yn [Cond.code yn cc maxL none] (rmD d mc ms) (PI g y av M) (QI g (y.2.2 + mc) out) mc ms (Ag g)
def RTI (g : GX) (x : KX) (Q : State → Prop) (mc ms n : Nat) (out : Lay × Mem) : Prop :=
  Q = MQ x.2.2.2.2.2.2.2.1 (QI g n out) x.2.2.2.2.2.2.1 x.2.2.2.2.1 mc ms (Ag g) ∧ x.2.2.2.2.2.2.2.2.1.sig.returnType = none ∧ x.2.2.2.2.2.2.2.2.1.name = "<init>"
/-- how large the heap was, by the cells made since -/
def HZ (g : GX) (x : KX) (kc : Nat) (y : Lay) : Prop := x.2.2.2.2.1.heap.size + kc = bs g + y.2.2
theorem CI_of {g : GX} {l : Launch} {yn : MethodName} {cc : ByteArray} {maxL : Nat} {d mc ms : Nat} {y : Lay} {av : List Value} {M : Mem} {f : Option (Lay × Mem)} (hG : GF g l) (hy : plainName yn.cls = true) (hn1 : yn.name = "<init>") (L0 : List (Option Value)) (hL : argL av ++ List.replicate (maxL - (argL av).length) none = L0) (hn : Nat.ble (argL av).length maxL = true)
    (body : ∀ out, f = some out → ∀ (x : KX) (Q : State → Prop), CX g x yn.cls cc maxL d mc ms → RTI g x Q mc ms (y.2.2 + mc) out → HZ g x 0 y → GG g x maxL Q 0 0 y M 0 L0 []) : CIt g l yn cc maxL d mc ms y av M f := by
  intro out hf
  refine Met.ofW (cc := cc) (maxL := maxL) (ret := none) hy rfl ?_
  intro p e s m args below meth c s₁ B hml hP
  obtain ⟨⟨rfl, hR, hW, hb, hlow⟩, hz⟩ := hP
  have C : CX g (p, l, e, rmD d mc ms, s, m, (av.map (va g)).toArray, below, meth, c) yn.cls cc maxL d mc ms := ⟨B.exec, B.bytes, hml, findClass_of_methodNamed B.named, B.notSynchronized, ⟨Nat.le_refl _, Nat.le_refl _, rfl, rfl⟩, hG, hW, hb, hlow⟩
  rw [lg_entry_eq]
  exact body out hf _ _ C ⟨rfl, B.returns, (name_of_methodNamed B.named B.method).1.trans hn1⟩ hz s.heap [] _ hR va_S.rf (start_LV hL (Nat.le_of_ble_eq_true hn))
/-- a class that can be made: its slots' defaults -/
def CNW (ci : Nat) (q : vw_C) : Prop := ∃ ty : Nat → FieldType, (∀ k, k < q.2.2 → parseFieldDescriptor (q.2.1 k).2.2.1 = some (ty k)) ∧ ∀ j, j < q.2.2 → defaultValue (ty j) = if ftag ci j = 0 then .int 0 else .null
section GR9
variable {g : GX} {x : KX} {own : String} {cc : ByteArray} {nL d mc ms : Nat} {Q : State → Prop} {kc ks : Nat} {y : Lay} {M : Mem} {pc i : Nat} {L : List (Option Value)} {S : List Value} {tb : Tb}
theorem low_size {H : Heap} (C : CX g x own cc nL d mc ms) {locs : List Loc} (h1 : RelH g y M H) (h2 : va_S (Ag g) x.2.2.2.2.1.heap H locs) : bs g + y.2.2 ≤ H.size := by
  by_cases hn : y.2.2 = 0
  · rw [hn]; exact Nat.le_trans C.2.2.2.2.2.2.2.2.1 h2.1
  · have hg : (wld g y M)[y.2.2 - 1]? = some (bs g + (y.2.2 - 1), entK g y M (y.2.2 - 1 + 1) (y.1 (y.2.2 - 1 + 1))) := by
      unfold wld
      rw [List.getElem?_map, List.getElem?_range (by omega)]; rfl
    have := (h1.1 _ _ hg).lt
    have : bs g + (y.2.2 - 1) < H.size := this
    omega
theorem g_objI (C : CX g x own cc nL d mc ms) (T : dck cc tb = true) {idx r : Nat} (hi : tb[i]? = some (pc, .invokespecial idx, 3)) (hl : Cond.methodLink own idx objectInit ∈ lw_tbl) (hw : ∀ w ∈ [Cond.instanceMethod objectInit, Cond.code objectInit ⟨#[0xb1]⟩ 1 none], w ∈ lw_tbl) (hS8 : Nat.ble ((S.map fun v => v.category).sum) 8 = true) (k : GG g x nL Q kc ks y M (pc + 3) L S) : GG g x nL Q kc ks y M pc L (.ref r :: S) := by
  intro H locs ls h1 h2 h4
  have hR : RLE x.2.2.2.1 d mc ms := C.2.2.2.2.2.1
  have hR1 := hR.1
  have hR2 := hR.2.1
  have hcat := cat_le (g := g) hS8
  have h3 : 2 * 0 + (List.map (fun v => Value.category v) (S.map (va g))).sum + 12 ≤ x.2.2.2.1.locals := by omega
  exact W.objInit C.1 C.2.1 C.2.2.2.1 (C.word hl rfl) (C.word (hw _ (by simp)) rfl) (C.word (hw _ (by simp)) rfl) rfl (by rw [h4.1.1]; exact C.2.2.1.symm) rfl (dcg T hi) (by omega) h3 (k H locs ls h1 h2 h4)
theorem g_new (C : CX g x own cc nL d mc ms) (T : dck cc tb = true) {idx ci : Nat} {q : vw_C} (hz : HZ g x kc y) (hi : tb[i]? = some (pc, .new idx, 3)) (hc : CLS ci q) (hnw : CNW ci q) (hl : Cond.classLink own idx q.1 ∈ lw_tbl) (hin : Cond.instantiable q.1 q.2.2 ∈ lw_tbl) (hini : Cond.initialized q.1 ∈ lw_tbl) (hn : Nat.ble (y.2.2 + 2) 1000 = true ∨ y.2.2 + 2 ≤ 1000) (hkc : Nat.ble (kc + 1) mc = true) (hks : Nat.ble (ks + q.2.2) ms = true)
    (kk : HZ g x (kc + 1) (psh y (0, ci)) → GG g x nL Q (kc + 1) (ks + q.2.2) (psh y (0, ci)) (zM M (y.2.2 + 1)) (pc + 3) L (.ref (y.2.2 + 1) :: S)) : GG g x nL Q kc ks y M pc L S := by
  intro H locs ls h1 h2 h4
  have hR : RLE x.2.2.2.1 d mc ms := C.2.2.2.2.2.1
  obtain ⟨ty, hty, hdf⟩ := hnw
  have hn' : y.2.2 + 2 ≤ 1000 := hn.elim Nat.le_of_ble_eq_true id
  have ent : entK g (psh y (0, ci)) (zM M (y.2.2 + 1)) (y.2.2 + 1) (0, ci) = .inr (ci, (List.range q.2.2).map (fun j => if ftag ci j = 0 then Value.int 0 else Value.null)) := by
    unfold entK
    rw [if_pos rfl, hc.2.2.2.2]
    congr 2
    apply List.map_congr_left
    intro j hj
    unfold slot psh zM rfv
    simp only [if_true]
    split
    · rfl
    · split <;> rfl
  refine va_new (C := q.1) (T := q.2.1) (N := q.2.2) (ci := ci) (fs := (List.range q.2.2).map (fun j => if ftag ci j = 0 then Value.int 0 else Value.null)) C.1 C.2.1 (C.uws hc) (fun w h => h) ty hty C.2.2.2.1 (C.word hl rfl) (C.word hin rfl) (C.word hini rfl) C.K h1.1 wld_D h2 (fun q hq => Nat.le_trans C.2.2.2.2.2.2.2.2.1 hq) hc.1 (fun j hj => ?_) (by rw [hR.2.2.1]; exact Nat.le_of_ble_eq_true hkc) (by rw [hR.2.2.2]; exact Nat.le_of_ble_eq_true hks) (dcg T hi) (fun q9 H1 hP hD hS => ?_)
  · rw [hdf j hj]
    simp [vp_V, List.getD, hj]
  · intro Tt hT X
    have hz1 : H1.size ≤ bs g + y.2.2 + 1 := by
      have := X.heapSize
      rw [hT] at this
      have h9 : x.2.2.2.2.1.heap.size + kc = bs g + y.2.2 := hz
      omega
    have hq := new_at hP hD hz1
    subst hq
    have hP' : va_P g.2.1 vwCl (wld g (psh y (0, ci)) (zM M (y.2.2 + 1))) H1 := by rw [wld_psh, ent]; exact hP
    have ea : ad g (y.2.2 + 1) = bs g + y.2.2 := by unfold ad; rw [if_pos (by omega)]; rfl
    have k9 := kk (show x.2.2.2.2.1.heap.size + (kc + 1) = bs g + (y.2.2 + 1) from by have h9 : x.2.2.2.2.1.heap.size + kc = bs g + y.2.2 := hz; omega) H1 locs ls ⟨hP', show y.2.2 + 1 < 1000 by omega⟩ hS h4
    have es : (Value.ref (y.2.2 + 1) :: S).map (va g) = .ref (bs g + y.2.2) :: S.map (va g) := by
      show Value.ref (ad g (y.2.2 + 1)) :: _ = _
      rw [ea]
    rw [es] at k9
    exact k9 Tt hT X
/-- a new row of numbers -/
theorem g_newaX (C : CX g x own cc nL d mc ms) {t n : Nat} {cA : ClassId} {H1 : Heap} {locs : List Loc} {ls : Array Slot} {q : Nat} {a0 : vp_A} {k2 s2 : Nat} (hz : HZ g x kc y) (hk2 : k2 = kc + 1) (hn' : y.2.2 + 2 ≤ 1000) (h2 : va_S (Ag g) x.2.2.2.2.1.heap H1 locs) (h4 : LV g nL ls L) (hP : va_P g.2.1 vwCl (wld g y M ++ [(q, .inl (cA, a0))]) H1) (hD : va_D (Ag g) (wld g y M ++ [(q, .inl (cA, a0))])) (ent : entK g (psh y (t, n)) (zM M (y.2.2 + 1)) (y.2.2 + 1) (t, n) = .inl (cA, a0))
    (kk : HZ g x (kc + 1) (psh y (t, n)) → GG g x nL Q k2 s2 (psh y (t, n)) (zM M (y.2.2 + 1)) (pc + 2) L (.ref (y.2.2 + 1) :: S)) : WX x H1 locs k2 s2 Q (F0 x.2.2.2.2.2.1 (pc + 2) ls (.ref q :: S.map (va g))) := by
  intro Tt hT X
  have h9 : x.2.2.2.2.1.heap.size + kc = bs g + y.2.2 := hz
  have hz1 : H1.size ≤ bs g + y.2.2 + 1 := by
    have := X.heapSize
    rw [hT] at this
    omega
  have hq := new_at hP hD hz1
  subst hq
  have hP' : va_P g.2.1 vwCl (wld g (psh y (t, n)) (zM M (y.2.2 + 1))) H1 := by rw [wld_psh, ent]; exact hP
  have ea : ad g (y.2.2 + 1) = bs g + y.2.2 := by unfold ad; rw [if_pos (by omega)]; rfl
  have k9 := kk (show x.2.2.2.2.1.heap.size + (kc + 1) = bs g + (y.2.2 + 1) from by omega) H1 locs ls ⟨hP', show y.2.2 + 1 < 1000 by omega⟩ h2 h4
  have es : (Value.ref (y.2.2 + 1) :: S).map (va g) = .ref (bs g + y.2.2) :: S.map (va g) := by
    show Value.ref (ad g (y.2.2 + 1)) :: _ = _
    rw [ea]
  rw [es] at k9
  exact k9 Tt hT X
theorem ent1 (p n : Nat) : entK g y M p (1, n) = .inl (g.2.2.1 0, n, .inl (M.1 p)) := rfl
theorem ent2 (p n : Nat) : entK g y M p (2, n) = .inl (g.2.2.1 1, n, .inl (M.1 p)) := rfl
theorem ent3 (p n : Nat) : entK g y M p (3, n) = .inl (g.2.2.1 2, n, .inr (.inl (M.2.1 p))) := rfl
theorem ent4 (p n : Nat) : entK g y M p (4, n) = .inl (g.2.2.1 3, n, .inr (.inr (.inr (.inr (fun j => ado g (y.2.1 p j)))))) := rfl
theorem z_row (p : Nat) : (zM M p).1 p = fun _ => 0 := by funext k; exact if_pos rfl
theorem z_rowL (p : Nat) : (zM M p).2.1 p = fun _ => 0 := by funext k; exact if_pos rfl
theorem tys_eq (C : CX g x own cc nL d mc ms) {t0 : Nat} {cA cB : ClassId} {ty : FieldType} {tys : List (ClassId × FieldType)} (hK : va_K g.2.1 vwCl (tys ++ [(cA, ty)]) x.2.2.2.2.1) (ht : (tysG g)[t0]? = some (cB, ty)) : cA = cB := by
  have h1 := (hK.2 tys.length (cA, ty) (by rw [List.getElem?_append_right (Nat.le_refl _), Nat.sub_self]; rfl)).2
  have h2 := (C.K.2 t0 _ ht).2
  cases ty <;> first | (exact Option.some.inj (h1.symm.trans h2)) | skip
  obtain ⟨_, _, _, _, _, e1⟩ := h1
  obtain ⟨_, _, _, _, _, e2⟩ := h2
  exact Option.some.inj (e1.symm.trans e2)
theorem g_newaI (C : CX g x own cc nL d mc ms) (T : dck cc tb = true) {n : Int32} {N : Nat} (hz : HZ g x kc y) (hi : tb[i]? = some (pc, .newarray .int, 2)) (hl : Cond.arrayClass .int ∈ lw_tbl) (hn0 : ¬ n < 0) (hN : n.toNatClampNeg = N) (hN2 : Nat.ble N 100000 = true) (hn' : y.2.2 + 2 ≤ 1000) (hkc : Nat.ble (kc + 1) mc = true) (hks : Nat.ble (ks + N) ms = true)
    (kk : HZ g x (kc + 1) (psh y (1, N)) → GG g x nL Q (kc + 1) (ks + N) (psh y (1, N)) (zM M (y.2.2 + 1)) (pc + 2) L (.ref (y.2.2 + 1) :: S)) : GG g x nL Q kc ks y M pc L (.int n :: S) := by
  intro H locs ls h1 h2 h4
  have hR : RLE x.2.2.2.1 d mc ms := C.2.2.2.2.2.1
  refine va_newa (atype := .int) (ty := .int) (N' := N) (a0 := (N, .inl (fun _ => 0))) C.1 C.2.1 (C.word hl rfl) rfl C.K h1.1 wld_D h2 (fun q hq => Nat.le_trans C.2.2.2.2.2.2.2.2.1 hq) (fun cA => by rw [vp_cell_i]; rfl) hn0 hN (by have := Nat.le_of_ble_eq_true hN2; show N * 4 ≤ 536870912; omega) (by rw [hR.2.2.1]; exact Nat.le_of_ble_eq_true hkc) (by rw [hR.2.2.2]; exact Nat.le_of_ble_eq_true hks) (dcg T hi) (fun q cA H1 hK hP hD hS => ?_)
  have e := tys_eq C hK (t0 := 0) rfl
  exact g_newaX C hz rfl hn' hS h4 hP hD (by rw [ent1, z_row, e]) kk
theorem g_newaB (C : CX g x own cc nL d mc ms) (T : dck cc tb = true) {n : Int32} {N : Nat} (hz : HZ g x kc y) (hi : tb[i]? = some (pc, .newarray .byte, 2)) (hl : Cond.arrayClass .byte ∈ lw_tbl) (hn0 : ¬ n < 0) (hN : n.toNatClampNeg = N) (hN2 : Nat.ble N 100000 = true) (hn' : y.2.2 + 2 ≤ 1000) (hkc : Nat.ble (kc + 1) mc = true) (hks : Nat.ble (ks + N) ms = true)
    (kk : HZ g x (kc + 1) (psh y (2, N)) → GG g x nL Q (kc + 1) (ks + N) (psh y (2, N)) (zM M (y.2.2 + 1)) (pc + 2) L (.ref (y.2.2 + 1) :: S)) : GG g x nL Q kc ks y M pc L (.int n :: S) := by
  intro H locs ls h1 h2 h4
  have hR : RLE x.2.2.2.1 d mc ms := C.2.2.2.2.2.1
  refine va_newa (atype := .byte) (ty := .byte) (N' := N) (a0 := (N, .inl (fun _ => 0))) C.1 C.2.1 (C.word hl rfl) rfl C.K h1.1 wld_D h2 (fun q hq => Nat.le_trans C.2.2.2.2.2.2.2.2.1 hq) (fun cA => by rw [vp_cell_i]; rfl) hn0 hN (by have := Nat.le_of_ble_eq_true hN2; show N * 1 ≤ 536870912; omega) (by rw [hR.2.2.1]; exact Nat.le_of_ble_eq_true hkc) (by rw [hR.2.2.2]; exact Nat.le_of_ble_eq_true hks) (dcg T hi) (fun q cA H1 hK hP hD hS => ?_)
  have e := tys_eq C hK (t0 := 1) rfl
  exact g_newaX C hz rfl hn' hS h4 hP hD (by rw [ent2, z_row, e]) kk
theorem g_newaL (C : CX g x own cc nL d mc ms) (T : dck cc tb = true) {n : Int32} {N : Nat} (hz : HZ g x kc y) (hi : tb[i]? = some (pc, .newarray .long, 2)) (hl : Cond.arrayClass .long ∈ lw_tbl) (hn0 : ¬ n < 0) (hN : n.toNatClampNeg = N) (hN2 : Nat.ble N 100000 = true) (hn' : y.2.2 + 2 ≤ 1000) (hkc : Nat.ble (kc + 1) mc = true) (hks : Nat.ble (ks + N) ms = true)
    (kk : HZ g x (kc + 1) (psh y (3, N)) → GG g x nL Q (kc + 1) (ks + N) (psh y (3, N)) (zM M (y.2.2 + 1)) (pc + 2) L (.ref (y.2.2 + 1) :: S)) : GG g x nL Q kc ks y M pc L (.int n :: S) := by
  intro H locs ls h1 h2 h4
  have hR : RLE x.2.2.2.1 d mc ms := C.2.2.2.2.2.1
  refine va_newa (atype := .long) (ty := .long) (N' := N) (a0 := (N, .inr (.inl (fun _ => 0)))) C.1 C.2.1 (C.word hl rfl) rfl C.K h1.1 wld_D h2 (fun q hq => Nat.le_trans C.2.2.2.2.2.2.2.2.1 hq) (fun cA => by rw [vp_cell_l]; rfl) hn0 hN (by have := Nat.le_of_ble_eq_true hN2; show N * 8 ≤ 536870912; omega) (by rw [hR.2.2.1]; exact Nat.le_of_ble_eq_true hkc) (by rw [hR.2.2.2]; exact Nat.le_of_ble_eq_true hks) (dcg T hi) (fun q cA H1 hK hP hD hS => ?_)
  have e := tys_eq C hK (t0 := 2) rfl
  exact g_newaX C hz rfl hn' hS h4 hP hD (by rw [ent3, z_rowL, e]) kk
theorem g_newaS (C : CX g x own cc nL d mc ms) (T : dck cc tb = true) {idx : Nat} {n : Int32} {N : Nat} (hz : HZ g x kc y) (hi : tb[i]? = some (pc, .anewarray idx, 3)) (hl : Cond.classLink own idx "java/lang/String" ∈ lw_tbl) (ho : Cond.arrayOver (.object "java/lang/String") ∈ lw_tbl) (hn0 : ¬ n < 0) (hN : n.toNatClampNeg = N) (hN2 : Nat.ble N 100000 = true) (hn' : y.2.2 + 2 ≤ 1000) (hkc : Nat.ble (kc + 1) mc = true) (hks : Nat.ble (ks + N) ms = true)
    (kk : HZ g x (kc + 1) (psh y (4, N)) → GG g x nL Q (kc + 1) (ks + N) (psh y (4, N)) (zM M (y.2.2 + 1)) (pc + 1 + 2) L (.ref (y.2.2 + 1) :: S)) : GG g x nL Q kc ks y M pc L (.int n :: S) := by
  intro H locs ls h1 h2 h4
  have hR : RLE x.2.2.2.1 d mc ms := C.2.2.2.2.2.1
  have hao : va_AO "java/lang/String" x.2.2.2.2.1 := va_AO.moved (C.2.2.2.2.2.2.2.1).alike (va_AO.of (C.2.2.2.2.2.2.1.1 _ ho))
  refine va_newq (N' := N) C.1 C.2.1 C.2.2.2.1 (C.word hl rfl) hao C.K h1.1 wld_D h2 (fun q hq => Nat.le_trans C.2.2.2.2.2.2.2.2.1 hq) hn0 hN (by have := Nat.le_of_ble_eq_true hN2; omega) (by rw [hR.2.2.1]; exact Nat.le_of_ble_eq_true hkc) (by rw [hR.2.2.2]; exact Nat.le_of_ble_eq_true hks) (dcg T hi) (fun q cA H1 hK hP hD hS => ?_)
  have e := tys_eq C hK (t0 := 3) rfl
  refine g_newaX (pc := pc + 1) C hz rfl hn' hS h4 hP hD ?_ kk
  rw [ent4, e]
  have e2 : (fun j => ado g ((psh y (4, N)).2.1 (y.2.2 + 1) j)) = fun _ => none := by
    funext j
    have : (psh y (4, N)).2.1 (y.2.2 + 1) j = 0 := if_pos rfl
    rw [this]; rfl
  rw [e2]
theorem slot_wF {p ci r k v : Nat} (hp : p ≠ r) : slot g (wF y r k v) M p ci = slot g y M p ci := by
  funext j
  have e : (wF y r k v).2.1 p = y.2.1 p := u2_p _ _ _ _ hp
  unfold slot
  rw [e]
theorem ent_wF {r k v : Nat} : ∀ p, p ≠ r → ∀ c', entK g (wF y r k v) M p c' = entK g y M p c' := by
  intro p hp c'
  unfold entK
  rw [slot_wF hp]
  have e : (wF y r k v).2.1 p = y.2.1 p := u2_p _ _ _ _ hp
  simp only [e]
theorem kd_same {y y' : Lay} {r : Nat} (hy1 : y'.1 = y.1) (hy2 : y'.2.2 = y.2.2) : kd y' r = kd y r := by
  unfold kd
  rw [hy1, hy2]
theorem kd_in {y : Lay} {r : Nat} {c : Nat × Nat} (h : kd y r = c) (hc : c.1 ≠ 9) : 1 ≤ r ∧ r ≤ y.2.2 := by
  unfold kd at h
  split at h
  · rename_i hr; exact hr
  · exact absurd (by rw [← h]) hc
theorem wld_off {g : GX} {y y' : Lay} {M M' : Mem} {r j : Nat} (hy1 : y'.1 = y.1) (hy2 : y'.2.2 = y.2.2) (hk : ¬ r - 1 = j) (ho : ∀ p, p ≠ r → ∀ c', entK g y' M' p c' = entK g y M p c') : (wld g y M)[j]? = (wld g y' M')[j]? := by
  unfold wld
  rw [List.getElem?_map, List.getElem?_map, hy2, hy1]
  cases hx : (List.range y.2.2)[j]? with
  | none => simp only [Option.map_none]
  | some i =>
    have hi : i = j := by
      obtain ⟨h1, h2⟩ := List.getElem?_eq_some_iff.mp hx
      simp at h2; omega
    simp only [Option.map_some]
    rw [ho (i + 1) (by omega)]
theorem wld_set2 {g : GX} {y y' : Lay} {M M' : Mem} {r : Nat} {c : Nat × Nat} {e' : va_E} (hy1 : y'.1 = y.1) (hy2 : y'.2.2 = y.2.2) (h : kd y r = c) (hc : c.1 ≠ 9) (hn : y.2.2 < 1000) (he : entK g y' M' r c = e') (ho : ∀ p, p ≠ r → ∀ c', entK g y' M' p c' = entK g y M p c') : (wld g y M).set (r - 1) (ad g r, e') = wld g y' M' := by
  have hr := kd_in h hc
  have hl : r - 1 < (wld g y M).length := by rw [wld_len]; omega
  have h9 : (wld g y' M')[r - 1]? = some (ad g r, e') := by rw [wld_get (M := M') ((kd_same hy1 hy2).trans h) hc (hy2 ▸ hn), he]
  apply List.ext_getElem?
  intro j
  rw [List.getElem?_set]
  by_cases hk : r - 1 = j
  · subst hk
    rw [if_pos rfl, if_pos hl, h9]
  · rw [if_neg hk]
    exact wld_off hy1 hy2 hk ho
theorem wld_wF {r k v : Nat} {c : Nat × Nat} {e' : va_E} (h : kd y r = c) (hc : c.1 ≠ 9) (hn : y.2.2 < 1000) (he : entK g (wF y r k v) M r c = e') : (wld g y M).set (r - 1) (ad g r, e') = wld g (wF y r k v) M :=
  wld_set2 (y' := wF y r k v) rfl rfl h hc hn he ent_wF
/-- a final field of references, in its constructor -/
theorem g_putF (C : CX g x own cc nL d mc ms) (T : dck cc tb = true) {idx ci k r v : Nat} {ty : FieldType} {n : Nat} {out : Lay × Mem} (R : RTI g x Q mc ms n out) (hi : tb[i]? = some (pc, .putfield idx, 3)) (hF : ∃ q : vw_C, CLS ci q ∧ k < q.2.2 ∧ Cond.fieldLink own idx (q.2.1 k).1 (q.2.1 k).2.1 (q.2.1 k).2.2.1 ∈ lw_tbl ∧ (q.2.1 k).1 = own) (hty : FLT ci k ty true) (hr : (∃ s, ty = .object s) ∨ ∃ s, ty = .array s) (ht : ftag ci k = 1) (hv : ¬ v = 0) (hk : kd y r = (0, ci)) (kk : GG g x nL Q kc ks (wF y r k v) M (pc + 3) L S) : GG g x nL Q kc ks y M pc L (.ref v :: .ref r :: S) := by
  intro H locs ls h1 h2 h4
  obtain ⟨q, hc, hkN, hlk, hown⟩ := hF
  obtain ⟨hty1, hty2⟩ := hty q hc.1
  have he : (wld g y M)[r - 1]? = some (ad g r, .inr (ci, (List.range (nfl ci)).map (slot g y M r ci))) := wld_get (g := g) (M := M) hk (show (0 : Nat) ≠ 9 by decide) h1.2
  have hs : slot g (wF y r k v) M r ci k = va g (.ref v) := by
    have e : (wF y r k v).2.1 r k = v := u2_s _ _ _ _
    unfold slot rfv
    rw [if_neg (by rw [ht]; decide), if_pos ht, e, if_neg hv]
  have ho : ∀ j, j ≠ k → slot g (wF y r k v) M r ci j = slot g y M r ci j := by
    intro j hj
    have e : (wF y r k v).2.1 r j = y.2.1 r j := u2_k _ _ _ _ _ hj
    unfold slot
    rw [e]
  have hfs : ((List.range (nfl ci)).map (slot g y M r ci)).set k (va g (.ref v)) = (List.range (nfl ci)).map (slot g (wF y r k v) M r ci) := fs_set _ _ _ _ _ hs ho
  have hw : (wld g y M).set (r - 1) (ad g r, .inr (ci, ((List.range (nfl ci)).map (slot g y M r ci)).set k (va g (.ref v)))) = wld g (wF y r k v) M := wld_wF (c := (0, ci)) hk (show (0 : Nat) ≠ 9 by decide) h1.2 (by rw [hfs]; rfl)
  have hl : k < ((List.range (nfl ci)).map (slot g y M r ci)).length := by rw [List.length_map, List.length_range, hc.2.2.2.2]; exact hkN
  obtain ⟨ty0, hty0⟩ := hc.2.2.1
  exact va_putF (C := q.1) (T := q.2.1) (N := q.2.2) C.1 C.2.1 (C.uws hc) (fun w h => h) ty0 hty0 hc.2.2.2.1 C.2.2.2.1 C.K h1.1 wld_D h2 (r - 1) he hc.1 k hkN (C.word hlk rfl) (fun _ h => h) hty2 R.2.2 hown hty1 (by rcases hr with ⟨s, rfl⟩ | ⟨s, rfl⟩ <;> rfl) (by rcases hr with ⟨s, rfl⟩ | ⟨s, rfl⟩ <;> rfl) hl (dcg T hi)
    (fun H1 locs1 a b c => kk H1 locs1 ls ⟨by rw [← hw]; exact a, h1.2⟩ c h4)
/-- a String constant into a row of Strings -/
theorem g_astS (C : CX g x own cc nL d mc ms) (T : dck cc tb = true) {r k v : Nat} {j : Int32} (hv : v = 1000 + k) (hi : tb[i]? = some (pc, .aastore, 1)) (hs : k < nStr) (hk : (kd y r).1 = 4 ∧ ¬ (j < 0 ∨ (kd y r).2 ≤ j.toNatClampNeg)) (kk : GG g x nL Q kc ks (wF y r j.toNatClampNeg v) M (pc + 1) L S) : GG g x nL Q kc ks y M pc L (.ref v :: .int j :: .ref r :: S) := by
  subst hv
  intro H locs ls h1 h2 h4
  have he := wld_get (g := g) (M := M) (r := r) (c := kd y r) rfl (by rw [hk.1]; decide) h1.2
  have hw : (wld g y M).set (r - 1) (ad g r, .inl (g.2.2.1 3, (kd y r).2, .inr (.inr (.inr (.inr (va_up (fun q => ado g (y.2.1 r q)) j.toNatClampNeg (some (ad g (1000 + k))))))))) = wld g (wF y r j.toNatClampNeg (1000 + k)) M := by
    refine wld_wF (c := kd y r) rfl (by rw [hk.1]; decide) h1.2 ?_
    unfold entK
    rw [if_neg (by rw [hk.1]; decide), if_neg (by rw [hk.1]; decide), if_neg (by rw [hk.1]; decide), if_neg (by rw [hk.1]; decide)]
    have ef : (fun q => ado g ((wF y r j.toNatClampNeg (1000 + k)).2.1 r q)) = va_up (fun q => ado g (y.2.1 r q)) j.toNatClampNeg (some (ad g (1000 + k))) := by
      funext q
      unfold wF va_up
      by_cases hq : q = j.toNatClampNeg
      · subst hq
        simp only [u2_s, if_true]
        unfold ado
        rw [if_neg (by omega)]
      · rw [if_neg hq]
        simp only [u2_k _ _ _ _ _ hq]
    rw [ef]
  unfold entK at he
  rw [if_neg (by rw [hk.1]; decide), if_neg (by rw [hk.1]; decide), if_neg (by rw [hk.1]; decide), if_neg (by rw [hk.1]; decide)] at he
  have hany : va_Any "java/lang/String" x.2.2.2.2.1 H (ad g (1000 + k)) := by
    obtain ⟨cell, c1, c2, c3, -⟩ := (va_O.moved (C.2.2.2.2.2.2.2.1).alike (C.2.2.2.2.2.2.1.2.2.2.1.1 k hs).1).kept (C.low) |>.kept h2.2.1
    obtain ⟨kC, hkC, -⟩ := Vm.findClass_spec c3
    refine ⟨cell, by rw [SF.adK hs]; exact c1, c2, ⟨kC, hkC⟩, fun comp hcomp => ?_⟩
    rw [c3] at hcomp
    cases hcomp
    exact va_asg _ _
  exact va_astqM C.1 C.2.1 C.K h1.1 wld_D h2 (r - 1) 3 he rfl hany hk.2 (dcg T hi) (fun H1 locs1 a b c => kk H1 locs1 ls ⟨by rw [← hw]; exact a, h1.2⟩ c h4)
theorem g_vretI (C : CX g x own cc nL d mc ms) {n : Nat} (R : RTI g x Q mc ms n (y, M)) (hz : HZ g x kc y) (hn : kc = mc) (hn2 : y.2.2 = n) (hks : Nat.ble ks ms = true) (T : dck cc tb = true) (hi : tb[i]? = some (pc, .return_, 1)) : GG g x nL Q kc ks y M pc L [] := by
  intro H locs ls h1 h2 h4
  subst hn
  refine W.widen (Nat.le_refl _) (Nat.le_of_ble_eq_true hks) ?_
  intro Tt hT X
  have hsz : H.size = bs g + y.2.2 := by
    have := X.heapSize
    rw [hT] at this
    have h9 : x.2.2.2.2.1.heap.size + kc = bs g + y.2.2 := hz
    have := low_size C h1 h2
    omega
  obtain ⟨rfl, hr, -⟩ := R
  exact (W.vret C.1 C.2.1 hr (fun t ht hw => ⟨rfl, by rw [ht]; exact h1, h2.F ht, by rw [ht]; exact hsz, hn2⟩) (fun q hq => h2.2.2 q hq) (dcg T hi) C.2.2.2.2.1) Tt hT X
/-- the call of a constructor -/
theorem g_callI (C : CX g x own cc nL d mc ms) (T : dck cc tb = true) {idx r n maxL d2 m2 s2 : Nat} {yn : MethodName} {c2 : ByteArray} {f : Option (Lay × Mem)} {y1 : Lay} {M1 : Mem} (av : List Value) (hz : HZ g x kc y) (hi : tb[i]? = some (pc, .invokespecial idx, 3)) (hW : MW yn c2 maxL none n) (hV : yn.name = "<init>" ∧ Cond.instanceMethod yn ∈ lw_tbl) (hl : Cond.methodLink own idx yn ∈ lw_tbl ∨ ∃ host, Cond.methodLinkNest own idx yn host ∈ lw_tbl) (hd : Nat.ble (d2 + 1) d = true) (hm : Nat.ble maxL 80 = true) (hn : av.length + 1 = n + 1) (hS8 : Nat.ble ((S.map fun v => v.category).sum) 8 = true)
    (hc : CIt g x.2.1 yn c2 maxL d2 m2 s2 y (.ref r :: av) M f) (hf : f = some (y1, M1)) (hkc : Nat.ble (kc + m2) mc = true) (hks : Nat.ble (ks + s2) ms = true) {S' : List Value} (hst : av.reverse ++ .ref r :: S = S') (k : HZ g x (kc + m2) y1 → GG g x nL Q (kc + m2) (ks + s2) y1 M1 (pc + 3) L S) : GG g x nL Q kc ks y M pc L S' := by
  intro H locs ls h1 h2 h4
  subst hst
  have hR : RLE x.2.2.2.1 d mc ms := C.2.2.2.2.2.1
  intro Tt hT X
  have hsz : H.size = bs g + y.2.2 := by
    have := X.heapSize
    rw [hT] at this
    have h9 : x.2.2.2.2.1.heap.size + kc = bs g + y.2.2 := hz
    have := low_size C h1 h2
    omega
  have hp : PreS x.2.2.2.2.1 H (PI g y (.ref r :: av) M) (.ref (ad g r) :: av.map (va g)) := by
    refine ⟨PI_blind, fun U hU hW => ⟨⟨rfl, by rw [hU]; exact h1, State.WarmedH.trans C.2.2.2.2.2.2.2.1 hW, ?_, ?_⟩, by rw [hU]; exact hsz⟩⟩
    · rw [hU]; exact Nat.le_trans C.2.2.2.2.2.2.2.2.1 h2.1
    · intro q hq
      rw [hU, h2.2.1 q (Nat.lt_of_lt_of_le hq C.2.2.2.2.2.2.2.2.1) (Nat.not_le.mpr hq)]
      exact C.2.2.2.2.2.2.2.2.2 q hq
  have e1 : List.map (va g) (av.reverse ++ .ref r :: S) = (av.map (va g)).reverse ++ .ref (ad g r) :: S.map (va g) := by
    rw [List.map_append, List.map_reverse]; rfl
  have e2 : 2 * 0 + (List.map (fun v => Value.category v) (S.map (va g))).sum ≤ 8 := by
    have := cat_le (g := g) hS8
    omega
  have e3 : kc + m2 ≤ x.2.2.2.1.cells ∧ ks + s2 ≤ x.2.2.2.1.slots := ⟨by rw [hR.2.2.1]; exact Nat.le_of_ble_eq_true hkc, by rw [hR.2.2.2]; exact Nat.le_of_ble_eq_true hks⟩
  have e4 : (av.map (va g)).length = n := by rw [List.length_map]; omega
  have run : va_Run x.1 x.2.1 x.2.2.1 x.2.2.2.1 x.2.2.2.2.1 x.2.2.2.2.2.1 x.2.2.2.2.2.2.1 x.2.2.2.2.2.2.2.1 x.2.2.2.2.2.2.2.2.1 x.2.2.2.2.2.2.2.2.2 H locs kc ks m2 s2 (F0 x.2.2.2.2.2.1 pc ls (List.map (va g) (av.reverse ++ .ref r :: S))) (S.map (va g)) (QI g (y.2.2 + m2) (y1, M1) (Value.ref (ad g r) :: av.map (va g)).toArray) (Ag g) := by
    rcases hl with hl | ⟨host, hl⟩
    · exact va_runI ⟨C.1, C.2.1, C.2.2.1, C.2.2.2.1, fun w (hw : w ∈ ([] : List Cond)) => absurd hw List.not_mem_nil⟩ (hc _ hf) ⟨callB0 C hW hl hd hm, hV.1, C.word hV.2 rfl⟩ hp rfl e4 h4.1.1 e1 e2 (dcg T hi) e3
    · have h9 : d2 + 1 ≤ d := Nat.le_of_ble_eq_true hd
      have h8 : maxL ≤ 80 := Nat.le_of_ble_eq_true hm
      have h7 : 8 + (maxL + 11) + (100 * d2 + 300) ≤ 100 * d + 300 := by omega
      have h6 : d2 + 10 + 1 ≤ d + 10 := by omega
      have cn : va_CN x.2.2.2.1 x.2.2.2.2.1 x.2.2.2.2.2.2.1 own idx yn host c2 maxL none [Cond.code yn c2 maxL none] (rmD d2 m2 s2) m2 s2 n := by
        refine ⟨⟨rfl, rfl, Nat.le_trans h6 hR.1, Nat.le_trans h7 hR.2.1, ?_, List.mem_singleton_self _⟩, C.word hW.1 rfl, C.word hW.2.1 rfl, hW.2.2.1, ?_, va_Nw.use rfl (C.nestM hl)⟩
        · intro w hw a' U hWm
          rw [List.mem_singleton.mp hw]
          exact word_at hWm (good_of_word rfl) (C.word hW.1 rfl)
        · intro sig h
          have h3 := hW.2.2.2
          rw [h] at h3
          exact (Option.some.inj h3).symm
      exact va_runIN ⟨C.1, C.2.1, C.2.2.1, C.2.2.2.1, fun w (hw : w ∈ ([] : List Cond)) => absurd hw List.not_mem_nil⟩ (hc _ hf) ⟨cn, hV.1, C.word hV.2 rfl⟩ hp rfl e4 h4.1.1 e1 e2 (dcg T hi) e3
  obtain ⟨v, st₀, t, T', L', h0, X', hL, f1, f2, ⟨hv, hRl, ⟨hz9, hk9⟩, hsz2, hn2⟩, st⟩ := run Tt hT X
  rw [h0] at hz9 hk9
  have hS : va_S (Ag g) x.2.2.2.2.1.heap T'.heap (locs ++ L') := by
    refine ⟨Nat.le_trans h2.1 (by rw [f1]; exact hz9), fun q h5 h6 => ?_, fun q hq => ?_⟩
    · rw [f1, hk9 q (Nat.lt_of_lt_of_le h5 h2.1) h6]; exact h2.2.1 q h5 h6
    · rcases List.mem_append.mp hq with h | h
      · exact h2.2.2 q h
      · exact hL q h
  have hz2 : HZ g x (kc + m2) y1 := by
    have h9 : x.2.2.2.2.1.heap.size + kc = bs g + y.2.2 := hz
    have hn3 : y1.2.2 = y.2.2 + m2 := hn2
    show x.2.2.2.2.1.heap.size + (kc + m2) = bs g + y1.2.2
    omega
  obtain ⟨t2, a1, b1⟩ := k hz2 T'.heap (locs ++ L') ls (by rw [f1]; exact hRl) hS h4 T' rfl X'
  cases hv
  exact ⟨t2, st t2 a1, b1⟩
theorem g_nm {Y : Lay} {N : Mem} (k : ∀ y1 : Lay, y1 = Y → ∀ M1 : Mem, M1 = N → GG g x nL Q kc ks y1 M1 pc L S) : GG g x nL Q kc ks Y N pc L S := k _ rfl _ rfl
theorem g_nmy {Y : Lay} (k : ∀ y1 : Lay, y1 = Y → GG g x nL Q kc ks y1 M pc L S) : GG g x nL Q kc ks Y M pc L S := k _ rfl
theorem bl {a b : Nat} (h : a ≤ b) : Nat.ble a b = true := Nat.ble_eq_true_of_le h
/-- a nest mate's private method -/
theorem g_callN0 (C : CX g x own cc nL d mc ms) (T : dck cc tb = true) {idx ci b n maxL d2 : Nat} {yn : MethodName} {c2 : ByteArray} {ret : Option FieldType} {f : Option (Int32 × Mem)} {r : Int32} {M1 : Mem} (av : List Value) (hi : tb[i]? = some (pc, .invokevirtual idx, 3)) (hW : MW yn c2 maxL ret n) (hV : MV ci yn) (hl : ∃ host, Cond.methodLinkNest own idx yn host ∈ lw_tbl) (hk : kd y b = (0, ci)) (hd : Nat.ble (d2 + 1) d = true) (hm : Nat.ble maxL 80 = true) (hn : av.length = n) (hS8 : Nat.ble ((S.map fun v => v.category).sum) 8 = true)
    (hc : C0 g x.2.1 yn c2 maxL ret d2 y (.ref b :: av) M f) (hf : f = some (r, M1)) (hkc : Nat.ble kc mc = true) (hks : Nat.ble ks ms = true) {S' : List Value} (hst : av.reverse ++ .ref b :: S = S') (k : GG g x nL Q kc ks y M1 (pc + 3) L (resv ret.isSome r ++ S)) : GG g x nL Q kc ks y M pc L S' := by
  intro H locs ls h1 h2 h4
  subst hst
  obtain ⟨host, hl⟩ := hl
  have hR : RLE x.2.2.2.1 d mc ms := C.2.2.2.2.2.1
  have h9 : d2 + 1 ≤ d := Nat.le_of_ble_eq_true hd
  have h8 : maxL ≤ 80 := Nat.le_of_ble_eq_true hm
  have h7 : 8 + (maxL + 11) + (100 * d2 + 300) ≤ 100 * d + 300 := by omega
  have h6 : d2 + 10 + 1 ≤ d + 10 := by omega
  have cn : va_CN x.2.2.2.1 x.2.2.2.2.1 x.2.2.2.2.2.2.1 own idx yn host c2 maxL ret [Cond.code yn c2 maxL ret] (rmD d2 0 0) 0 0 n := by
    refine ⟨⟨rfl, rfl, Nat.le_trans h6 hR.1, Nat.le_trans h7 hR.2.1, ?_, List.mem_singleton_self _⟩, C.word hW.1 rfl, C.word hW.2.1 rfl, hW.2.2.1, ?_, va_Nw.use rfl (C.nestM hl)⟩
    · intro w hw a' U hWm
      rw [List.mem_singleton.mp hw]
      exact word_at hWm (good_of_word rfl) (C.word hW.1 rfl)
    · intro sig h
      have h3 := hW.2.2.2
      rw [h] at h3
      exact (Option.some.inj h3).symm
  refine after0 (mc := 0) (ms := 0) h2 h4 (va_runVN ⟨C.1, C.2.1, C.2.2.1, C.2.2.2.1, fun w (hw : w ∈ ([] : List Cond)) => absurd hw List.not_mem_nil⟩ (hc _ hf) ⟨cn, C.word hV.1 rfl, C.word hV.2.1 rfl⟩ (preV0 C h1 h2 hk hV) rfl ?_ h4.1.1 ?_ ?_ (dcg T hi) ?_) k
  · rw [List.length_map]; exact hn
  · show List.map (va g) (av.reverse ++ .ref b :: S) = (av.map (va g)).reverse ++ .ref (ad g b) :: S.map (va g)
    rw [List.map_append, List.map_reverse]; rfl
  · show 2 * 0 + _ ≤ 8
    have := cat_le (g := g) hS8
    omega
  · exact ⟨by rw [hR.2.2.1]; have := Nat.le_of_ble_eq_true hkc; omega, by rw [hR.2.2.2]; have := Nat.le_of_ble_eq_true hks; omega⟩
end GR9
