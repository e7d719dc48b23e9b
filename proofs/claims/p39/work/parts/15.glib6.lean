/-! ===== loops, small helps ===== -/
def FUEL : Nat := 100000
theorem nn_e {β : Type} {o : β} (h : (none : Option β) = some o) : False := by cases h
theorem fix_i {κ : Type} {bot : κ} {F : κ → κ} {P : κ → Prop} (h0 : P bot) (hs : ∀ f, P f → P (F f)) (n : Nat) : P (fixN bot F n) := by
  induction n with
  | zero => exact h0
  | succ n ih => exact hs _ ih
theorem i32_ne {a : Int32} (l : List Int32) {n : Nat} (hn : l.length = n) (h : ∀ c ∈ l, ¬ a = c) : ∀ j, j < n → ¬ a = l.getD j 0 := by
  intro j hj
  subst hn
  refine h _ ?_
  rw [List.getD_eq_getElem?_getD, List.getElem?_eq_getElem hj]
  exact List.getElem_mem hj
/-- the last of a switch's values -/
theorem i32_sw {a lo hi : Int32} {n : Nat} {l : List Int32} (h : ¬ (a < lo ∨ hi < a)) (hh : (decide (hi.toInt = lo.toInt + n) && decide (l.length = n) && (List.range n).all (fun j => decide ((l.getD j 0).toInt = lo.toInt + j))) = true) (hj : ∀ j, j < n → ¬ a = l.getD j 0) : a = hi := by
  simp only [Bool.and_eq_true, decide_eq_true_eq, List.all_eq_true, List.mem_range] at hh
  obtain ⟨⟨h1, h2⟩, h3⟩ := hh
  have ha : ¬ a.toInt < lo.toInt ∧ ¬ hi.toInt < a.toInt := ⟨fun q => h (Or.inl (Int32.lt_iff_toInt_lt.mpr q)), fun q => h (Or.inr (Int32.lt_iff_toInt_lt.mpr q))⟩
  apply Int32.toInt_inj.mp
  by_cases e : a.toInt = hi.toInt
  · exact e
  · exfalso
    have hk : (a.toInt - lo.toInt).toNat < n := by omega
    have := h3 _ hk
    exact hj _ hk (Int32.toInt_inj.mp (by rw [this]; omega))
theorem lk_df {d v : Int} : ∀ {ps : List (Int × Int)}, (∀ p ∈ ps, ¬ p.1 = v) → Op.lookupswitch.offset ps d v = d := by
  intro ps
  induction ps with
  | nil => intro h; rfl
  | cons a ps ih =>
    intro h
    obtain ⟨a1, a2⟩ := a
    have h1 : ¬ a1 = v := h (a1, a2) List.mem_cons_self
    rw [Op.lookupswitch.offset_cons, if_neg h1]
    exact ih (fun p hp => h p (List.mem_cons_of_mem _ hp))
section GR6
variable {g : GX} {x : KX} {own : String} {cc : ByteArray} {nL d mc ms : Nat} {Q : State → Prop} {kc ks : Nat} {y : Lay} {M : Mem} {pc i : Nat} {L : List (Option Value)} {S : List Value} {tb : Tb}
theorem g_iincv (C : CX g x own cc nL d mc ms) (T : dck cc tb = true) {j : Nat} {n : Int} {v w : Int32} (e : Int32) (hw : w = v + e) (hi : tb[i]? = some (pc, .iinc j n, 3)) (hl : L[j]? = some (some (.int v))) (he : Int32.ofInt n = e) (hj : Nat.ble (j + 1) nL = true) (hn : nlo L j = true) (k : GG g x nL Q kc ks y M (pc + 3) (L.set j (some (.int w))) S) : GG g x nL Q kc ks y M pc L S := by
  subst hw
  exact g_iinc C T e hi hl he hj hn k
theorem CX.low (C : CX g x own cc nL d mc ms) : ∀ q : Nat, q < g.1.heap.size → ¬ Ag g q → x.2.2.2.2.1.heap[q]? = g.1.heap[q]? := fun q h1 _ => C.2.2.2.2.2.2.2.2.2 q h1
theorem g_ldcIw (C : CX g x own cc nL d mc ms) (T : dck cc tb = true) {idx : Nat} {v : Int32} (hi : tb[i]? = some (pc, .ldc_w idx, 3)) (hw : Cond.constant own idx v ∈ lw_tbl) (k : GG g x nL Q kc ks y M (pc + 3) L (.int v :: S)) : GG g x nL Q kc ks y M pc L S :=
  fun H locs ls h1 h2 h4 => lv_ldcw C.1 C.2.1 C.2.2.2.1 (C.word hw rfl) (dcg T hi) (k H locs ls h1 h2 h4)
/-- a String constant: how long, and its signs -/
theorem SF.adK {k : Nat} (hk : k < nStr) : ad g (1000 + k) = g.2.2.2.1 k := by
  have hk' : k < 37 := hk
  unfold ad
  rw [if_neg (by omega), if_neg (by omega), show 1000 + k - 1000 = k by omega]
theorem g_ldcS (C : CX g x own cc nL d mc ms) (T : dck cc tb = true) {idx k v : Nat} (hi : tb[i]? = some (pc, .ldc idx, 2)) (h1 : strOwn k = own) (h2 : strIdx k = idx) (hk : k < nStr) (hv : v = 1000 + k) (kk : GG g x nL Q kc ks y M (pc + 2) L (.ref v :: S)) : GG g x nL Q kc ks y M pc L S := by
  subst hv
  intro H locs ls a b c
  have hs := (C.2.2.2.2.2.2.1.2.2.2.1.1 k hk).2.2.2.2
  rw [h1, h2] at hs
  have hs := vk_R.warm C.2.2.2.2.2.2.2.1 hs
  have kk' := kk H locs ls a b c
  have e : (Value.ref (1000 + k) :: S).map (va g) = .ref (g.2.2.2.1 k) :: S.map (va g) := by
    show Value.ref (ad g (1000 + k)) :: _ = _
    rw [SF.adK hk]
  rw [e] at kk'
  exact va_ldcS C.1 C.2.1 C.2.2.2.1 hs (dcg T hi) kk'
theorem g_ldcSw (C : CX g x own cc nL d mc ms) (T : dck cc tb = true) {idx k v : Nat} (hi : tb[i]? = some (pc, .ldc_w idx, 3)) (h1 : strOwn k = own) (h2 : strIdx k = idx) (hk : k < nStr) (hv : v = 1000 + k) (kk : GG g x nL Q kc ks y M (pc + 3) L (.ref v :: S)) : GG g x nL Q kc ks y M pc L S := by
  subst hv
  intro H locs ls a b c
  have hs := (C.2.2.2.2.2.2.1.2.2.2.1.1 k hk).2.2.2.2
  rw [h1, h2] at hs
  have hs := vk_R.warm C.2.2.2.2.2.2.2.1 hs
  have kk' := kk H locs ls a b c
  have e : (Value.ref (1000 + k) :: S).map (va g) = .ref (g.2.2.2.1 k) :: S.map (va g) := by
    show Value.ref (ad g (1000 + k)) :: _ = _
    rw [SF.adK hk]
  rw [e] at kk'
  have hdg : decode x.2.2.2.2.2.2.2.2.2.code pc = .ok (.ldc_w idx, 3) := by rw [C.2.1]; exact dcg T hi
  intro Tt hT X
  obtain ⟨t, a1, b1⟩ := kk' Tt hT X
  refine ⟨t, ?_, b1⟩
  obtain ⟨q1, q2, q3, q4, q5, q6, q7, -, q8, q9⟩ := Cond.stringRef_spec C.2.2.2.1 hs.1
  cases hs.2.symm.trans q9
  obtain ⟨z1, z2, z3⟩ := X.warmed.alike.2.2 _ _ q5
  have z4 : z1.resolved[idx]? = some (some (.string (g.2.2.2.1 k))) := by
    rcases X.warmed.entry q5 z2 idx with h | ⟨h, -⟩
    · rw [h]; exact q8
    · rw [q8] at h; cases h
  jvm_step X.here [C.1, hdg, ldc_w.wp_string (s := Tt) (f := F0 x.2.2.2.2.2.1 pc ls (S.map (va g))) X.here.top z2 (by rw [z3]; exact q6) q7 z4]
  exact a1
end GR6
theorem CP_of {g : GX} {l : Launch} {yn : MethodName} {cc : ByteArray} {maxL : Nat} {ret : Option FieldType} {d : Nat} {y : Lay} {av : List Value} {M : Mem} {f : Option Int32} (hG : GF g l) (hy : plainName yn.cls = true) (L0 : List (Option Value)) (hL : argL av ++ List.replicate (maxL - (argL av).length) none = L0) (hn : Nat.ble (argL av).length maxL = true)
    (body : ∀ out, f = some out → ∀ (x : KX) (Q : State → Prop), CX g x yn.cls cc maxL d 0 0 → RT0 g x Q ret y (out, M) → GG g x maxL Q 0 0 y M 0 L0 []) : C0 g l yn cc maxL ret d y av M (pm M f) := by
  refine C0_of hG hy L0 hL hn (fun out h x Q C R => ?_)
  obtain ⟨r, h1, h2⟩ := pm_e h
  subst h2
  exact body r h1 x Q C R
theorem CX.G {g : GX} {x : KX} {own : String} {cc : ByteArray} {nL d mc ms : Nat} (C : CX g x own cc nL d mc ms) : GF g x.2.1 := C.2.2.2.2.2.2.1
