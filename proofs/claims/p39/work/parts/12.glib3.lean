/-! ===== fields, arrays, returns, calls ===== -/
theorem u2_s {α : Type} (f : Nat → Nat → α) (p k : Nat) (v : α) : u2 f p k v p k = v := by simp [u2]
theorem u2_p {α : Type} (f : Nat → Nat → α) (p k : Nat) (v : α) {a : Nat} (h : a ≠ p) : u2 f p k v a = f a := by funext b; simp [u2, h]
theorem u2_k {α : Type} (f : Nat → Nat → α) (p k : Nat) (v : α) (a : Nat) {b : Nat} (h : b ≠ k) : u2 f p k v a b = f a b := by simp [u2, h]
theorem u2_row (f : Nat → Nat → Int32) (p k : Nat) (v : Int32) : u2 f p k v p = upd (f p) k v := by funext b; simp [u2, upd]
theorem u2_rowL (f : Nat → Nat → Int64) (p k : Nat) (v : Int64) : u2 f p k v p = vp_updL (f p) k v := by funext b; simp [u2, vp_updL]
theorem ent_wI {g : GX} {y : Lay} {M : Mem} {r k : Nat} {v : Int32} : ∀ p, p ≠ r → ∀ c', entK g y (wI M r k v) p c' = entK g y M p c' := by
  intro p hp c'
  have e : (wI M r k v).1 p = M.1 p := u2_p _ _ _ _ hp
  have e2 : slot g y (wI M r k v) p c'.2 = slot g y M p c'.2 := by funext j; unfold slot; rw [e]; rfl
  unfold entK
  rw [e, e2]; rfl
theorem ent_wL {g : GX} {y : Lay} {M : Mem} {r k : Nat} {v : Int64} : ∀ p, p ≠ r → ∀ c', entK g y (wL M r k v) p c' = entK g y M p c' := by
  intro p hp c'
  have e : (wL M r k v).2.1 p = M.2.1 p := u2_p _ _ _ _ hp
  have e2 : slot g y (wL M r k v) p c'.2 = slot g y M p c'.2 := by funext j; rfl
  unfold entK
  rw [e, e2]; rfl
theorem ent_wR {g : GX} {y : Lay} {M : Mem} {r k : Nat} {v : Nat} : ∀ p, p ≠ r → ∀ c', entK g y (wR M r k v) p c' = entK g y M p c' := by
  intro p hp c'
  have e : (wR M r k v).2.2 p = M.2.2 p := u2_p _ _ _ _ hp
  have e2 : slot g y (wR M r k v) p c'.2 = slot g y M p c'.2 := by funext j; unfold slot; rw [e]; rfl
  unfold entK
  rw [e2]; rfl
theorem fs_set {α : Type} (n k : Nat) (f f' : Nat → α) (v : α) (hk : f' k = v) (ho : ∀ j, j ≠ k → f' j = f j) : ((List.range n).map f).set k v = (List.range n).map f' := by
  apply List.ext_getElem?
  intro j
  rw [List.getElem?_set, List.getElem?_map, List.getElem?_map]
  by_cases h : k = j
  · subst h
    rw [if_pos rfl]
    by_cases hn : k < n
    · rw [List.getElem?_range hn, if_pos (by simpa using hn)]; simp [hk]
    · rw [if_neg (by simpa using hn), List.getElem?_eq_none (by simpa using hn)]; rfl
  · rw [if_neg h]
    by_cases hn : j < n
    · rw [List.getElem?_range hn]; simp [ho j (fun e => h e.symm)]
    · rw [List.getElem?_eq_none (by simpa using hn)]; rfl
theorem fs_get {α : Type} {n k : Nat} (f : Nat → α) (hk : k < n) : ((List.range n).map f)[k]? = some (f k) := by
  rw [List.getElem?_map, List.getElem?_range hk]; rfl
/-- a class of the table: its words stand in the tables -/
def CLS (ci : Nat) (q : vw_C) : Prop := vwCl[ci]? = some q ∧ (∀ w ∈ u_ws q.1 q.2.1 q.2.2, w ∈ lw_tbl) ∧ (∃ ty : Nat → FieldType, ∀ k, k < q.2.2 → parseFieldDescriptor (q.2.1 k).2.2.1 = some (ty k)) ∧ (∀ a, a < q.2.2 → ∀ b, b < q.2.2 → a ≠ b → (q.2.1 a).2.1 ≠ (q.2.1 b).2.1) ∧ nfl ci = q.2.2
/-- a field by its entry in a class's pool: the class's number and the field's place -/
def FLD (own : String) (idx ci k : Nat) : Prop := ∃ q : vw_C, CLS ci q ∧ k < q.2.2 ∧ (Cond.fieldLink own idx (q.2.1 k).1 (q.2.1 k).2.1 (q.2.1 k).2.2.1 ∈ lw_tbl ∨ ∃ host : String, Cond.fieldLinkNest own idx (q.2.1 k).1 (q.2.1 k).2.1 (q.2.1 k).2.2.1 host ∈ lw_tbl)
def FLT (ci k : Nat) (ty : FieldType) (fin : Bool) : Prop := ∀ q : vw_C, vwCl[ci]? = some q → parseFieldDescriptor (q.2.1 k).2.2.1 = some ty ∧ (q.2.1 k).2.2.2 = fin
theorem lay_good (C : String) (T : u_T) (k : Nat) : goodWord (u_lay C T k) = true := by unfold u_lay; split <;> rfl
theorem uws_good {C : String} {T : u_T} {N : Nat} : ∀ w ∈ u_ws C T N, goodWord w = true := by
  intro w hw
  obtain ⟨k, -, rfl⟩ := List.mem_map.mp hw
  exact lay_good _ _ _
section GF3
variable {g : GX} {x : KX} {own : String} {cc : ByteArray} {nL d mc ms : Nat} {Q : State → Prop} {kc ks : Nat} {y : Lay} {M : Mem} {pc i : Nat} {L : List (Option Value)} {S : List Value} {tb : Tb}
theorem CX.uws (C : CX g x own cc nL d mc ms) {ci : Nat} {q : vw_C} (h : CLS ci q) : ∀ w ∈ u_ws q.1 q.2.1 q.2.2, w.before x.2.2.2.2.2.2.1 x.2.2.2.2.1 = true := fun w hw => C.word (h.2.1 w hw) (uws_good w hw)
theorem CX.nestF (C : CX g x own cc nL d mc ms) {a : String} {j : Nat} {b n e h : String} (hw : Cond.fieldLinkNest a j b n e h ∈ lw_tbl) : (Cond.fieldLinkNest a j b n e h).before x.2.2.2.2.2.2.1 x.2.2.2.2.1 = true :=
  va_Nw.use rfl (va_Nw.warmF C.2.2.2.2.2.2.2.1 (va_Nw.of rfl (C.2.2.2.2.2.2.1.1 _ hw)))
theorem CX.nestM (C : CX g x own cc nL d mc ms) {a : String} {j : Nat} {m : MethodName} {h : String} (hw : Cond.methodLinkNest a j m h ∈ lw_tbl) : va_Nw (Cond.methodLinkNest a j m h) x.2.2.2.2.1 :=
  va_Nw.warmM C.2.2.2.2.2.2.2.1 (va_Nw.of rfl (C.2.2.2.2.2.2.1.1 _ hw))
/-- reading a field -/
theorem g_getS (C : CX g x own cc nL d mc ms) (T : dck cc tb = true) {idx ci k r : Nat} {v : Value} (hi : tb[i]? = some (pc, .getfield idx, 3)) (hF : FLD own idx ci k) (hk : kd y r = (0, ci)) (hv : slot g y M r ci k = va g v) (kk : GG g x nL Q kc ks y M (pc + 3) L (v :: S)) : GG g x nL Q kc ks y M pc L (.ref r :: S) := by
  intro H locs ls h1 h2 h4
  obtain ⟨q, hc, hkN, hlk⟩ := hF
  have he : (wld g y M)[r - 1]? = some (ad g r, .inr (ci, (List.range (nfl ci)).map (slot g y M r ci))) := wld_get (g := g) (M := M) hk (show (0 : Nat) ≠ 9 by decide) h1.2
  have hfs : ((List.range (nfl ci)).map (slot g y M r ci))[k]? = some (va g v) := by rw [fs_get _ (by rw [hc.2.2.2.2]; exact hkN), hv]
  have kk' := kk H locs ls h1 h2 h4
  rcases hlk with hl | ⟨host, hl⟩
  · exact va_get (C := q.1) (T := q.2.1) (N := q.2.2) C.1 C.2.1 (C.uws hc) (fun w h => h) C.2.2.2.1 C.K h1.1 (r - 1) he hc.1 k hkN (C.word hl rfl) (fun _ h => h) hfs (dcg T hi) kk'
  · exact va_getN (C := q.1) (T := q.2.1) (N := q.2.2) C.1 C.2.1 (C.uws hc) (fun w h => h) C.2.2.2.1 C.K h1.1 (r - 1) he hc.1 k hkN (C.nestF hl) (fun _ h => h) hfs (dcg T hi) kk'
theorem g_getI (C : CX g x own cc nL d mc ms) (T : dck cc tb = true) {idx ci k r : Nat} (hi : tb[i]? = some (pc, .getfield idx, 3)) (hF : FLD own idx ci k) (ht : ftag ci k = 0) (hk : kd y r = (0, ci)) (kk : GG g x nL Q kc ks y M (pc + 3) L (.int (M.1 r k) :: S)) : GG g x nL Q kc ks y M pc L (.ref r :: S) :=
  g_getS C T hi hF hk (v := .int (M.1 r k)) (by unfold slot; rw [if_pos ht]; rfl) kk
theorem g_getR (C : CX g x own cc nL d mc ms) (T : dck cc tb = true) {idx ci k r : Nat} (hi : tb[i]? = some (pc, .getfield idx, 3)) (hF : FLD own idx ci k) (ht : ftag ci k = 1) (hk : kd y r = (0, ci)) (hn : ¬ y.2.1 r k = 0) (kk : GG g x nL Q kc ks y M (pc + 3) L (.ref (y.2.1 r k) :: S)) : GG g x nL Q kc ks y M pc L (.ref r :: S) :=
  g_getS C T hi hF hk (v := .ref (y.2.1 r k)) (by unfold slot rfv; rw [if_neg (by rw [ht]; decide), if_pos ht, if_neg hn]) kk
theorem g_getM (C : CX g x own cc nL d mc ms) (T : dck cc tb = true) {idx ci k r : Nat} (hi : tb[i]? = some (pc, .getfield idx, 3)) (hF : FLD own idx ci k) (ht : ftag ci k = 2) (hk : kd y r = (0, ci)) (hn : ¬ M.2.2 r k = 0) (kk : GG g x nL Q kc ks y M (pc + 3) L (.ref (M.2.2 r k) :: S)) : GG g x nL Q kc ks y M pc L (.ref r :: S) :=
  g_getS C T hi hF hk (v := .ref (M.2.2 r k)) (by unfold slot rfv; rw [if_neg (by rw [ht]; decide), if_neg (by rw [ht]; decide), if_neg hn]) kk
/-- writing a field that isn't final -/
theorem g_putS (C : CX g x own cc nL d mc ms) (T : dck cc tb = true) {idx ci k r : Nat} {v : Value} {ty : FieldType} {M' : Mem} (hi : tb[i]? = some (pc, .putfield idx, 3)) (hF : FLD own idx ci k) (hty : FLT ci k ty false) (hn : narrow ty (va g v) = va g v) (hfit : fits ty (va g v) = true) (hk : kd y r = (0, ci))
    (hs : slot g y M' r ci k = va g v) (ho : ∀ j, j ≠ k → slot g y M' r ci j = slot g y M r ci j) (hp : ∀ p, p ≠ r → ∀ c', entK g y M' p c' = entK g y M p c')
    (kk : GG g x nL Q kc ks y M' (pc + 3) L S) : GG g x nL Q kc ks y M pc L (v :: .ref r :: S) := by
  intro H locs ls h1 h2 h4
  obtain ⟨q, hc, hkN, hlk⟩ := hF
  obtain ⟨hty1, hty2⟩ := hty q hc.1
  have he : (wld g y M)[r - 1]? = some (ad g r, .inr (ci, (List.range (nfl ci)).map (slot g y M r ci))) := wld_get (g := g) (M := M) hk (show (0 : Nat) ≠ 9 by decide) h1.2
  have hfs : ((List.range (nfl ci)).map (slot g y M r ci)).set k (va g v) = (List.range (nfl ci)).map (slot g y M' r ci) := fs_set _ _ _ _ _ hs ho
  have hw : (wld g y M).set (r - 1) (ad g r, .inr (ci, ((List.range (nfl ci)).map (slot g y M r ci)).set k (va g v))) = wld g y M' := wld_set (g := g) (M := M) (M' := M') hk (show (0 : Nat) ≠ 9 by decide) h1.2 (by rw [hfs]; rfl) hp
  have hl : k < ((List.range (nfl ci)).map (slot g y M r ci)).length := by rw [List.length_map, List.length_range, hc.2.2.2.2]; exact hkN
  obtain ⟨ty0, hty0⟩ := hc.2.2.1
  have fin : ∀ (H1 : Heap) (locs1 : List Loc), va_P g.2.1 vwCl ((wld g y M).set (r - 1) (ad g r, .inr (ci, ((List.range (nfl ci)).map (slot g y M r ci)).set k (va g v)))) H1 → va_D (Ag g) ((wld g y M).set (r - 1) (ad g r, .inr (ci, ((List.range (nfl ci)).map (slot g y M r ci)).set k (va g v)))) → va_S (Ag g) x.2.2.2.2.1.heap H1 locs1 → WX x H1 locs1 kc ks Q (F0 x.2.2.2.2.2.1 (pc + 3) ls (S.map (va g))) := fun H1 locs1 a b c => kk H1 locs1 ls ⟨by rw [← hw]; exact a, h1.2⟩ c h4
  rcases hlk with hlk | ⟨host, hlk⟩
  · exact va_put (C := q.1) (T := q.2.1) (N := q.2.2) C.1 C.2.1 (C.uws hc) (fun w h => h) ty0 hty0 hc.2.2.2.1 C.2.2.2.1 C.K h1.1 wld_D h2 (r - 1) he hc.1 k hkN (C.word hlk rfl) (fun _ h => h) hty2 hty1 hn hfit hl (dcg T hi) fin
  · exact va_putN (C := q.1) (T := q.2.1) (N := q.2.2) C.1 C.2.1 (C.uws hc) (fun w h => h) ty0 hty0 hc.2.2.2.1 C.2.2.2.1 C.K h1.1 wld_D h2 (r - 1) he hc.1 k hkN (C.nestF hlk) (fun _ h => h) hty2 hty1 hn hfit hl (dcg T hi) fin
theorem g_putI (C : CX g x own cc nL d mc ms) (T : dck cc tb = true) {idx ci k r : Nat} {v : Int32} (hi : tb[i]? = some (pc, .putfield idx, 3)) (hF : FLD own idx ci k) (hty : FLT ci k .int false) (ht : ftag ci k = 0) (hk : kd y r = (0, ci)) (kk : GG g x nL Q kc ks y (wI M r k v) (pc + 3) L S) : GG g x nL Q kc ks y M pc L (.int v :: .ref r :: S) :=
  g_putS C T (v := .int v) hi hF hty rfl rfl hk (by unfold slot; rw [if_pos ht]; show Value.int (u2 M.1 r k v r k) = _; rw [u2_s]; rfl) (fun j hj => by unfold slot; rw [show (wI M r k v).1 r j = M.1 r j from u2_k _ _ _ _ _ hj]; rfl) ent_wI kk
theorem g_putZ (C : CX g x own cc nL d mc ms) (T : dck cc tb = true) {idx ci k r : Nat} {v : Int32} (hi : tb[i]? = some (pc, .putfield idx, 3)) (hF : FLD own idx ci k) (hty : FLT ci k .boolean false) (ht : ftag ci k = 0) (hv : v = 0 ∨ v = 1) (hk : kd y r = (0, ci)) (kk : GG g x nL Q kc ks y (wI M r k v) (pc + 3) L S) : GG g x nL Q kc ks y M pc L (.int v :: .ref r :: S) :=
  g_putS C T (v := .int v) hi hF hty (by rcases hv with rfl | rfl <;> rfl) (by rcases hv with rfl | rfl <;> rfl) hk (by unfold slot; rw [if_pos ht]; show Value.int (u2 M.1 r k v r k) = _; rw [u2_s]; rfl) (fun j hj => by unfold slot; rw [show (wI M r k v).1 r j = M.1 r j from u2_k _ _ _ _ _ hj]; rfl) ent_wI kk
theorem g_putM (C : CX g x own cc nL d mc ms) (T : dck cc tb = true) {idx ci k r v : Nat} {ty : FieldType} (hi : tb[i]? = some (pc, .putfield idx, 3)) (hF : FLD own idx ci k) (hty : FLT ci k ty false) (hr : (∃ s, ty = .object s) ∨ ∃ s, ty = .array s) (ht : ftag ci k = 2) (hv : ¬ v = 0) (hk : kd y r = (0, ci)) (kk : GG g x nL Q kc ks y (wR M r k v) (pc + 3) L S) : GG g x nL Q kc ks y M pc L (.ref v :: .ref r :: S) :=
  g_putS C T (v := .ref v) hi hF hty (by rcases hr with ⟨s, rfl⟩ | ⟨s, rfl⟩ <;> rfl) (by rcases hr with ⟨s, rfl⟩ | ⟨s, rfl⟩ <;> rfl) hk (by unfold slot; rw [if_neg (by rw [ht]; decide), if_neg (by rw [ht]; decide)]; show va g (rfv (u2 M.2.2 r k v r k)) = _; rw [u2_s]; unfold rfv; rw [if_neg hv]) (fun j hj => by unfold slot; rw [show (wR M r k v).2.2 r j = M.2.2 r j from u2_k _ _ _ _ _ hj]; rfl) ent_wR kk
-- arrays
theorem g_iald (C : CX g x own cc nL d mc ms) (T : dck cc tb = true) {r : Nat} {j : Int32} (hi : tb[i]? = some (pc, .iaload, 1)) (hk : (kd y r).1 = 1 ∧ ¬ (j < 0 ∨ (kd y r).2 ≤ j.toNatClampNeg)) (kk : GG g x nL Q kc ks y M (pc + 1) L (.int (M.1 r j.toNatClampNeg) :: S)) : GG g x nL Q kc ks y M pc L (.int j :: .ref r :: S) := by
  intro H locs ls h1 h2 h4
  have he := wld_get (g := g) (M := M) (r := r) (c := kd y r) rfl (by rw [hk.1]; decide) h1.2
  unfold entK at he
  rw [if_neg (by rw [hk.1]; decide), if_pos hk.1] at he
  exact va_iald C.1 C.2.1 C.K h1.1 (r - 1) 0 he rfl hk.2 (dcg T hi) (kk H locs ls h1 h2 h4)
theorem g_bald (C : CX g x own cc nL d mc ms) (T : dck cc tb = true) {r : Nat} {j : Int32} (hi : tb[i]? = some (pc, .baload, 1)) (hk : (kd y r).1 = 2 ∧ ¬ (j < 0 ∨ (kd y r).2 ≤ j.toNatClampNeg)) (kk : GG g x nL Q kc ks y M (pc + 1) L (.int (M.1 r j.toNatClampNeg) :: S)) : GG g x nL Q kc ks y M pc L (.int j :: .ref r :: S) := by
  intro H locs ls h1 h2 h4
  have he := wld_get (g := g) (M := M) (r := r) (c := kd y r) rfl (by rw [hk.1]; decide) h1.2
  unfold entK at he
  rw [if_neg (by rw [hk.1]; decide), if_neg (by rw [hk.1]; decide), if_pos hk.1] at he
  exact va_bald C.1 C.2.1 C.K h1.1 (r - 1) 1 he rfl hk.2 (dcg T hi) (kk H locs ls h1 h2 h4)
theorem g_lald (C : CX g x own cc nL d mc ms) (T : dck cc tb = true) {r : Nat} {j : Int32} (hi : tb[i]? = some (pc, .laload, 1)) (hk : (kd y r).1 = 3 ∧ ¬ (j < 0 ∨ (kd y r).2 ≤ j.toNatClampNeg)) (kk : GG g x nL Q kc ks y M (pc + 1) L (.long (M.2.1 r j.toNatClampNeg) :: S)) : GG g x nL Q kc ks y M pc L (.int j :: .ref r :: S) := by
  intro H locs ls h1 h2 h4
  have he := wld_get (g := g) (M := M) (r := r) (c := kd y r) rfl (by rw [hk.1]; decide) h1.2
  unfold entK at he
  rw [if_neg (by rw [hk.1]; decide), if_neg (by rw [hk.1]; decide), if_neg (by rw [hk.1]; decide), if_pos hk.1] at he
  exact va_lald C.1 C.2.1 C.K h1.1 (r - 1) 2 he rfl hk.2 (dcg T hi) (kk H locs ls h1 h2 h4)
theorem g_aald (C : CX g x own cc nL d mc ms) (T : dck cc tb = true) {r : Nat} {j : Int32} (hi : tb[i]? = some (pc, .aaload, 1)) (hk : (kd y r).1 = 4 ∧ ¬ (j < 0 ∨ (kd y r).2 ≤ j.toNatClampNeg)) (hn : ¬ y.2.1 r j.toNatClampNeg = 0) (kk : GG g x nL Q kc ks y M (pc + 1) L (.ref (y.2.1 r j.toNatClampNeg) :: S)) : GG g x nL Q kc ks y M pc L (.int j :: .ref r :: S) := by
  intro H locs ls h1 h2 h4
  have he := wld_get (g := g) (M := M) (r := r) (c := kd y r) rfl (by rw [hk.1]; decide) h1.2
  unfold entK at he
  rw [if_neg (by rw [hk.1]; decide), if_neg (by rw [hk.1]; decide), if_neg (by rw [hk.1]; decide), if_neg (by rw [hk.1]; decide)] at he
  refine va_aldq C.1 C.2.1 C.K h1.1 (r - 1) 3 he rfl hk.2 (dcg T hi) ?_
  have e : ado g (y.2.1 r j.toNatClampNeg) = some (ad g (y.2.1 r j.toNatClampNeg)) := if_neg hn
  simp only [e]
  exact kk H locs ls h1 h2 h4
theorem g_alen (C : CX g x own cc nL d mc ms) (T : dck cc tb = true) {r t : Nat} (hi : tb[i]? = some (pc, .arraylength, 1)) (hk : (kd y r).1 = t) (ht : t = 1 ∨ t = 2 ∨ t = 3 ∨ t = 4) (kk : GG g x nL Q kc ks y M (pc + 1) L (.int (Int32.ofNat (kd y r).2) :: S)) : GG g x nL Q kc ks y M pc L (.ref r :: S) := by
  intro H locs ls h1 h2 h4
  have he := wld_get (g := g) (M := M) (r := r) (c := kd y r) rfl (by rw [hk]; rcases ht with rfl | rfl | rfl | rfl <;> decide) h1.2
  have kk' := kk H locs ls h1 h2 h4
  rcases ht with rfl | rfl | rfl | rfl <;> simp [entK, hk] at he
  · exact va_alen C.1 C.2.1 C.K h1.1 (r - 1) 0 he rfl rfl (dcg T hi) kk'
  · exact va_alen C.1 C.2.1 C.K h1.1 (r - 1) 1 he rfl rfl (dcg T hi) kk'
  · exact va_alen C.1 C.2.1 C.K h1.1 (r - 1) 2 he rfl rfl (dcg T hi) kk'
  · exact va_alen C.1 C.2.1 C.K h1.1 (r - 1) 3 he rfl rfl (dcg T hi) kk'
theorem g_iast (C : CX g x own cc nL d mc ms) (T : dck cc tb = true) {r : Nat} {j v : Int32} (hi : tb[i]? = some (pc, .iastore, 1)) (hk : (kd y r).1 = 1 ∧ ¬ (j < 0 ∨ (kd y r).2 ≤ j.toNatClampNeg)) (kk : GG g x nL Q kc ks y (wI M r j.toNatClampNeg v) (pc + 1) L S) : GG g x nL Q kc ks y M pc L (.int v :: .int j :: .ref r :: S) := by
  intro H locs ls h1 h2 h4
  have he := wld_get (g := g) (M := M) (r := r) (c := kd y r) rfl (by rw [hk.1]; decide) h1.2
  have hw : (wld g y M).set (r - 1) (ad g r, .inl (g.2.2.1 0, (kd y r).2, .inl (upd (M.1 r) j.toNatClampNeg v))) = wld g y (wI M r j.toNatClampNeg v) :=
    wld_set (c := kd y r) rfl (by rw [hk.1]; decide) h1.2 (by unfold entK; rw [if_neg (by rw [hk.1]; decide), if_pos hk.1]; show Sum.inl (_, _, Sum.inl (u2 M.1 r _ v r)) = _; rw [u2_row]) ent_wI
  unfold entK at he
  rw [if_neg (by rw [hk.1]; decide), if_pos hk.1] at he
  exact va_iast C.1 C.2.1 C.K h1.1 wld_D h2 (r - 1) 0 he rfl hk.2 (dcg T hi) (fun H1 locs1 a b c => kk H1 locs1 ls ⟨by rw [← hw]; exact a, h1.2⟩ c h4)
theorem g_bast (C : CX g x own cc nL d mc ms) (T : dck cc tb = true) {r : Nat} {j v : Int32} (hi : tb[i]? = some (pc, .bastore, 1)) (hk : (kd y r).1 = 2 ∧ ¬ (j < 0 ∨ (kd y r).2 ≤ j.toNatClampNeg)) (kk : GG g x nL Q kc ks y (wI M r j.toNatClampNeg v.toInt8.toInt32) (pc + 1) L S) : GG g x nL Q kc ks y M pc L (.int v :: .int j :: .ref r :: S) := by
  intro H locs ls h1 h2 h4
  have he := wld_get (g := g) (M := M) (r := r) (c := kd y r) rfl (by rw [hk.1]; decide) h1.2
  have hw : (wld g y M).set (r - 1) (ad g r, .inl (g.2.2.1 1, (kd y r).2, .inl (upd (M.1 r) j.toNatClampNeg (vp_nar .byte v)))) = wld g y (wI M r j.toNatClampNeg v.toInt8.toInt32) :=
    wld_set (c := kd y r) rfl (by rw [hk.1]; decide) h1.2 (by unfold entK; rw [if_neg (by rw [hk.1]; decide), if_neg (by rw [hk.1]; decide), if_pos hk.1]; show Sum.inl (_, _, Sum.inl (u2 M.1 r _ _ r)) = _; rw [u2_row, vp_nar_byte]) ent_wI
  unfold entK at he
  rw [if_neg (by rw [hk.1]; decide), if_neg (by rw [hk.1]; decide), if_pos hk.1] at he
  exact va_bast C.1 C.2.1 C.K h1.1 wld_D h2 (r - 1) 1 he rfl hk.2 (dcg T hi) (fun H1 locs1 a b c => kk H1 locs1 ls ⟨by rw [← hw]; exact a, h1.2⟩ c h4)
theorem g_last (C : CX g x own cc nL d mc ms) (T : dck cc tb = true) {r : Nat} {j : Int32} {v : Int64} (hi : tb[i]? = some (pc, .lastore, 1)) (hk : (kd y r).1 = 3 ∧ ¬ (j < 0 ∨ (kd y r).2 ≤ j.toNatClampNeg)) (kk : GG g x nL Q kc ks y (wL M r j.toNatClampNeg v) (pc + 1) L S) : GG g x nL Q kc ks y M pc L (.long v :: .int j :: .ref r :: S) := by
  intro H locs ls h1 h2 h4
  have he := wld_get (g := g) (M := M) (r := r) (c := kd y r) rfl (by rw [hk.1]; decide) h1.2
  have hw : (wld g y M).set (r - 1) (ad g r, .inl (g.2.2.1 2, (kd y r).2, .inr (.inl (vp_updL (M.2.1 r) j.toNatClampNeg v)))) = wld g y (wL M r j.toNatClampNeg v) :=
    wld_set (c := kd y r) rfl (by rw [hk.1]; decide) h1.2 (by unfold entK; rw [if_neg (by rw [hk.1]; decide), if_neg (by rw [hk.1]; decide), if_neg (by rw [hk.1]; decide), if_pos hk.1]; show Sum.inl (_, _, Sum.inr (Sum.inl (u2 M.2.1 r _ _ r))) = _; rw [u2_rowL]) ent_wL
  unfold entK at he
  rw [if_neg (by rw [hk.1]; decide), if_neg (by rw [hk.1]; decide), if_neg (by rw [hk.1]; decide), if_pos hk.1] at he
  exact va_last C.1 C.2.1 C.K h1.1 wld_D h2 (r - 1) 2 he rfl hk.2 (dcg T hi) (fun H1 locs1 a b c => kk H1 locs1 ls ⟨by rw [← hw]; exact a, h1.2⟩ c h4)
end GF3
