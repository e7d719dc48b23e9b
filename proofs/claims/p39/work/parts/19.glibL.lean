/-! ===== the law's own rows ===== -/
theorem fix_k {κ : Type} {bot : κ} {F : κ → κ} {P : Nat → κ → Prop} (h0 : P 0 bot) (hs : ∀ n f, P n f → P (n + 1) (F f)) (n : Nat) : P n (fixN bot F n) := by
  induction n with
  | zero => exact h0
  | succ n ih => exact hs n _ ih
/-- what the law owes at its end -/
def RTL (g : GX) (x : KX) (Q : State → Prop) : Prop := x.2.2.2.1 = room_1 ∧ x.2.2.2.2.1 = g.1 ∧ x.2.2.2.2.2.2.1 = #[Value.ref g.2.2.2.2.1] ∧ x.2.2.2.2.2.2.2.2.1.sig.returnType = ret ∧ Q = lw_Z x.2.2.2.2.2.2.2.1 #[Value.ref g.2.2.2.2.1] g.1
section GRL
variable {g : GX} {x : KX} {own : String} {nL d : Nat} {Q : State → Prop} {kc ks : Nat} {y : Lay} {M : Mem} {pc i : Nat} {L : List (Option Value)} {S : List Value} {tb : Tb}
theorem g_lret (C : CX g x own code nL d 601024 7293034) (R : RTL g x Q) (h1 : Nat.ble kc 601024 = true) (h2 : Nat.ble ks 7293034 = true) (T : dck code tb = true) (hi : tb[i]? = some (pc, .ireturn, 1)) : GG g x nL Q kc ks y M pc L [.int 1] := by
  refine g_widen h1 h2 ?_
  intro H locs ls h1 h2 h4
  obtain ⟨p, l, e, R9, s, m, a, below, meth, c⟩ := x
  obtain ⟨r1, r2, r3, r4, r5⟩ := R
  have c1 : p.tables.exec = Jvm.exec := C.1
  have c2 : c.code = code := C.2.1
  have c5 : meth.locks = false := C.2.2.2.2.1
  have r1 : R9 = room_1 := r1
  have r2 : s = g.1 := r2
  have r3 : a = #[Value.ref g.2.2.2.2.1] := r3
  have r4 : meth.sig.returnType = ret := r4
  have r5 : Q = lw_Z below #[Value.ref g.2.2.2.2.1] g.1 := r5
  subst r1
  subst r3
  subst r5
  subst r2
  have h3 : ∀ q ∈ locs, g.1.heap.size ≤ q.base := fun q hq => h2.2.2 q hq
  have k9 := lw_ret (p := p) (l := l) (e := e) (s := g.1) (m := m) (below := below) (meth := meth) (c := c) (b := g.2.2.2.2.1) c1 c2 r4 c5 (pc := pc) (H := H) (ls := ls) (dcg T hi)
  exact va_forget h3 k9
variable {cc : ByteArray} {mc ms : Nat}
theorem scrX (C : CX g x own cc nL d mc ms) : va_X g.2.2.2.2.1 g.2.2.2.2.2.1 g.2.2.2.2.2.2 x.2.2.2.2.1 x.2.2.2.2.1.heap :=
  va_X.moved (C.2.2.2.2.2.2.2.1).alike ((C.G.2.2.2.2.2.1).kept (C.2.2.2.2.2.2.2.2.2 _ C.G.2.2.2.2.2.2.1))
theorem adX (g : GX) : ad g 1999 = g.2.2.2.2.1 := by
  unfold ad
  rw [if_neg (by decide), if_pos rfl]
theorem g_xald (C : CX g x own cc nL d mc ms) (T : dck cc tb = true) {j : Int32} {sL : Nat} {xs : Nat → Int32} (hsL : g.2.2.2.2.2.1 = sL) (hxs : g.2.2.2.2.2.2 = xs) (hi : tb[i]? = some (pc, .iaload, 1)) (hj : ¬ (j < 0 ∨ sL ≤ j.toNatClampNeg)) (k : GG g x nL Q kc ks y M (pc + 1) L (.int (xs j.toNatClampNeg) :: S)) : GG g x nL Q kc ks y M pc L (.int j :: .ref 1999 :: S) := by
  subst hsL
  subst hxs
  intro H locs ls h1 h2 h4
  have k9 := va_sld (rest := S.map (va g)) C.1 C.2.1 (scrX C) (Nat.lt_of_lt_of_le C.G.2.2.2.2.2.2.1 C.2.2.2.2.2.2.2.2.1) (Nat.not_le.mpr C.G.2.2.2.2.2.2.1 : ¬ Ag g g.2.2.2.2.1) h2 (i := j) (show vp_in j _ from hj) (dcg T hi) (k H locs ls h1 h2 h4)
  have e : (Value.int j :: Value.ref 1999 :: S).map (va g) = .int j :: .ref g.2.2.2.2.1 :: S.map (va g) := by
    show Value.int j :: Value.ref (ad g 1999) :: _ = _
    rw [adX]
  rw [e]
  exact k9
theorem g_xlen (C : CX g x own cc nL d mc ms) (T : dck cc tb = true) {sL : Nat} (hsL : g.2.2.2.2.2.1 = sL) (hi : tb[i]? = some (pc, .arraylength, 1)) (k : GG g x nL Q kc ks y M (pc + 1) L (.int (Int32.ofNat sL) :: S)) : GG g x nL Q kc ks y M pc L (.ref 1999 :: S) := by
  subst hsL
  intro H locs ls h1 h2 h4
  have k9 := va_slen (rest := S.map (va g)) C.1 C.2.1 (scrX C) (Nat.lt_of_lt_of_le C.G.2.2.2.2.2.2.1 C.2.2.2.2.2.2.2.2.1) (Nat.not_le.mpr C.G.2.2.2.2.2.2.1 : ¬ Ag g g.2.2.2.2.1) h2 (dcg T hi) (k H locs ls h1 h2 h4)
  have e : (Value.ref 1999 :: S).map (va g) = .ref g.2.2.2.2.1 :: S.map (va g) := by
    show Value.ref (ad g 1999) :: _ = _
    rw [adX]
  rw [e]
  exact k9
end GRL
