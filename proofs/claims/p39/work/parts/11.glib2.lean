abbrev KX : Type := Program × Launch × Env × Room × State × MethodId × Array Value × List Frame × Method × Code
def RLE (R : Room) (d mc ms : Nat) : Prop := d + 10 ≤ R.frames ∧ 100 * d + 300 ≤ R.locals ∧ R.cells = mc ∧ R.slots = ms
def rmD (d mc ms : Nat) : Room := { frames := d + 10, cells := mc, slots := ms, locals := 100 * d + 300 }
def SF (g : GX) : Prop := (∀ k : Nat, k < nStr → va_O "java/lang/String" (g.2.2.2.1 k) (Ag g) g.1 g.1.heap ∧ va_OF "java/lang/String" "coder" "B" (.int 0) (g.2.2.2.1 k) (Ag g) g.1 g.1.heap ∧ va_OF "java/lang/String" "value" "[B" (.ref (g.2.2.2.1 (1000 + k))) (g.2.2.2.1 k) (Ag g) g.1 g.1.heap ∧ va_T .byte (g.2.2.2.1 (1000 + k)) (strB k).length (fun j => .int ((strB k).getD j 0)) (Ag g) g.1 g.1.heap ∧ vk_R (strOwn k) (strIdx k) (strTx k) (g.2.2.2.1 k) g.1) ∧ va_Z "java/lang/String" "COMPACT_STRINGS" "Z" (.int 1) (Ag g) g.1 g.1.heap ∧ (va_Z "jdk/internal/util/Preconditions" "SIOOBE_FORMATTER" "Ljava/util/function/BiFunction;" .null (Ag g) g.1 g.1.heap ∨ va_Z "jdk/internal/util/Preconditions" "SIOOBE_FORMATTER" "Ljava/util/function/BiFunction;" (.ref (g.2.2.2.1 998)) (Ag g) g.1 g.1.heap)
def TF (g : GX) : Prop := vx_Zq Bundle.tN "UNASSIGNED_STACK" Bundle.steD (Ag g) g.1 g.1.heap ∧ vx_Zq Bundle.tN "SUPPRESSED_SENTINEL" Bundle.listD (Ag g) g.1 g.1.heap
def XF (g : GX) : Prop := va_X g.2.2.2.2.1 g.2.2.2.2.2.1 g.2.2.2.2.2.2 g.1 g.1.heap ∧ g.2.2.2.2.1 < bs g ∧ va_Nc "java/lang/IllegalArgumentException" "java/util/NoSuchElementException" g.1
/-- what stands at the law's start -/
def GF (g : GX) (l : Launch) : Prop := (∀ w ∈ lw_tbl, w.before #[Value.ref g.2.2.2.2.1] g.1 = true) ∧ va_K g.2.1 vwCl (tysG g) g.1 ∧ l.flags = flags0 ∧ SF g ∧ TF g ∧ XF g
/-- where a method stands -/
def CX (g : GX) (x : KX) (own : String) (cc : ByteArray) (nL d mc ms : Nat) : Prop :=
  x.1.tables.exec = Jvm.exec ∧ x.2.2.2.2.2.2.2.2.2.code = cc ∧ x.2.2.2.2.2.2.2.2.2.maxLocals = nL ∧ x.2.2.2.2.1.vm.findClass own = some x.2.2.2.2.2.1.cls ∧ x.2.2.2.2.2.2.2.2.1.locks = false ∧ RLE x.2.2.2.1 d mc ms ∧ GF g x.2.1 ∧ g.1.WarmedH x.2.2.2.2.1.vm ∧ bs g ≤ x.2.2.2.2.1.heap.size ∧ (∀ q, q < bs g → x.2.2.2.2.1.heap[q]? = g.1.heap[q]?)
abbrev WX (x : KX) (H : Heap) (locs : List Loc) (kc ks : Nat) (Q : State → Prop) (f : JFrame) : Prop := W x.1 x.2.1 x.2.2.1 x.2.2.2.1 x.2.2.2.2.1 x.2.2.2.2.2.1 x.2.2.2.2.2.2.1 x.2.2.2.2.2.2.2.1 x.2.2.2.2.2.2.2.2.1 x.2.2.2.2.2.2.2.2.2 H locs kc ks Q f
def GG (g : GX) (x : KX) (nL : Nat) (Q : State → Prop) (kc ks : Nat) (y : Lay) (M : Mem) (pc : Nat) (L : List (Option Value)) (S : List Value) : Prop :=
  ∀ (H : Heap) (locs : List Loc) (ls : Array Slot), RelH g y M H → va_S (Ag g) x.2.2.2.2.1.heap H locs → LV g nL ls L → WX x H locs kc ks Q (F0 x.2.2.2.2.2.1 pc ls (S.map (va g)))
theorem CX.word {g : GX} {x : KX} {own : String} {cc : ByteArray} {nL d mc ms : Nat} (C : CX g x own cc nL d mc ms) {w : Cond} (hw : w ∈ lw_tbl) (hg : goodWord w = true) : w.before x.2.2.2.2.2.2.1 x.2.2.2.2.1 = true :=
  word_at C.2.2.2.2.2.2.2.1 (good_of_word hg) (C.2.2.2.2.2.2.1.1 w hw)
theorem CX.K {g : GX} {x : KX} {own : String} {cc : ByteArray} {nL d mc ms : Nat} (C : CX g x own cc nL d mc ms) : va_K g.2.1 vwCl (tysG g) x.2.2.2.2.1 :=
  va_K.moved (C.2.2.2.2.2.2.2.1).alike C.2.2.2.2.2.2.1.2.1
section GR
variable {g : GX} {x : KX} {own : String} {cc : ByteArray} {nL d mc ms : Nat} {Q : State → Prop} {kc ks : Nat} {y : Lay} {M : Mem} {pc i : Nat} {L : List (Option Value)} {S : List Value} {tb : Tb}
/-- fewer locals -/
theorem g_less {L' : List (Option Value)} (hl : lle L' L) (k : GG g x nL Q kc ks y M pc L' S) : GG g x nL Q kc ks y M pc L S := fun H locs ls h1 h2 h4 => k H locs ls h1 h2 (h4.less hl)
theorem g_topi {e : Int32} (k : ∀ v : Int32, v = e → GG g x nL Q kc ks y M pc L (.int v :: S)) : GG g x nL Q kc ks y M pc L (.int e :: S) := k e rfl
theorem g_topl {e : Int64} (k : ∀ v : Int64, v = e → GG g x nL Q kc ks y M pc L (.long v :: S)) : GG g x nL Q kc ks y M pc L (.long e :: S) := k e rfl
theorem g_mem {e : Mem} (k : ∀ v : Mem, v = e → GG g x nL Q kc ks y v pc L S) : GG g x nL Q kc ks y e pc L S := k e rfl

theorem g_iconst (C : CX g x own cc nL d mc ms) (T : dck cc tb = true) {n : Int} (hi : tb[i]? = some (pc, .iconst n, 1))  (k : GG g x nL Q kc ks y M (pc + 1) L (.int (Int32.ofInt n) :: S)) : GG g x nL Q kc ks y M pc L (S) :=
  fun H locs ls h1 h2 h4 => lv_iconst C.1 C.2.1 (dcg T hi) rfl (k H locs ls h1 h2 h4)
theorem g_bipush (C : CX g x own cc nL d mc ms) (T : dck cc tb = true) {n : Int} (hi : tb[i]? = some (pc, .bipush n, 2))  (k : GG g x nL Q kc ks y M (pc + 2) L (.int ((Int8.ofInt n).toInt32) :: S)) : GG g x nL Q kc ks y M pc L (S) :=
  fun H locs ls h1 h2 h4 => lv_bipush C.1 C.2.1 (dcg T hi) rfl (k H locs ls h1 h2 h4)
theorem g_sipush (C : CX g x own cc nL d mc ms) (T : dck cc tb = true) {n : Int} (hi : tb[i]? = some (pc, .sipush n, 3))  (k : GG g x nL Q kc ks y M (pc + 3) L (.int ((Int16.ofInt n).toInt32) :: S)) : GG g x nL Q kc ks y M pc L (S) :=
  fun H locs ls h1 h2 h4 => lv_sipush C.1 C.2.1 (dcg T hi) rfl (k H locs ls h1 h2 h4)
theorem g_iconstv (C : CX g x own cc nL d mc ms) (T : dck cc tb = true) {n : Int} (v : Int32) (hi : tb[i]? = some (pc, .iconst n, 1)) (hv : Int32.ofInt n = v) (k : GG g x nL Q kc ks y M (pc + 1) L (.int v :: S)) : GG g x nL Q kc ks y M pc L S :=
  fun H locs ls h1 h2 h4 => lv_iconst C.1 C.2.1 (dcg T hi) hv (k H locs ls h1 h2 h4)
theorem g_bipushv (C : CX g x own cc nL d mc ms) (T : dck cc tb = true) {n : Int} (v : Int32) (hi : tb[i]? = some (pc, .bipush n, 2)) (hv : (Int8.ofInt n).toInt32 = v) (k : GG g x nL Q kc ks y M (pc + 2) L (.int v :: S)) : GG g x nL Q kc ks y M pc L S :=
  fun H locs ls h1 h2 h4 => lv_bipush C.1 C.2.1 (dcg T hi) hv (k H locs ls h1 h2 h4)
theorem g_sipushv (C : CX g x own cc nL d mc ms) (T : dck cc tb = true) {n : Int} (v : Int32) (hi : tb[i]? = some (pc, .sipush n, 3)) (hv : (Int16.ofInt n).toInt32 = v) (k : GG g x nL Q kc ks y M (pc + 3) L (.int v :: S)) : GG g x nL Q kc ks y M pc L S :=
  fun H locs ls h1 h2 h4 => lv_sipush C.1 C.2.1 (dcg T hi) hv (k H locs ls h1 h2 h4)
theorem g_lconst (C : CX g x own cc nL d mc ms) (T : dck cc tb = true) {n : Fin 2} (v : Int64) (hi : tb[i]? = some (pc, .lconst n, 1)) (hv : Int64.ofNat (n : Nat) = v) (k : GG g x nL Q kc ks y M (pc + 1) L (.long v :: S)) : GG g x nL Q kc ks y M pc L S :=
  fun H locs ls h1 h2 h4 => lv_lconst C.1 C.2.1 (dcg T hi) hv (k H locs ls h1 h2 h4)
theorem g_iadd (C : CX g x own cc nL d mc ms) (T : dck cc tb = true) {a b : Int32} (hi : tb[i]? = some (pc, .iadd, 1))  (k : GG g x nL Q kc ks y M (pc + 1) L (.int (a + b) :: S)) : GG g x nL Q kc ks y M pc L (.int b :: .int a :: S) :=
  fun H locs ls h1 h2 h4 => lv_iadd C.1 C.2.1 (dcg T hi)  (k H locs ls h1 h2 h4)
theorem g_isub (C : CX g x own cc nL d mc ms) (T : dck cc tb = true) {a b : Int32} (hi : tb[i]? = some (pc, .isub, 1))  (k : GG g x nL Q kc ks y M (pc + 1) L (.int (a - b) :: S)) : GG g x nL Q kc ks y M pc L (.int b :: .int a :: S) :=
  fun H locs ls h1 h2 h4 => lv_isub C.1 C.2.1 (dcg T hi)  (k H locs ls h1 h2 h4)
theorem g_imul (C : CX g x own cc nL d mc ms) (T : dck cc tb = true) {a b : Int32} (hi : tb[i]? = some (pc, .imul, 1))  (k : GG g x nL Q kc ks y M (pc + 1) L (.int (a * b) :: S)) : GG g x nL Q kc ks y M pc L (.int b :: .int a :: S) :=
  fun H locs ls h1 h2 h4 => lv_imul C.1 C.2.1 (dcg T hi)  (k H locs ls h1 h2 h4)
theorem g_iand (C : CX g x own cc nL d mc ms) (T : dck cc tb = true) {a b : Int32} (hi : tb[i]? = some (pc, .iand, 1))  (k : GG g x nL Q kc ks y M (pc + 1) L (.int (a &&& b) :: S)) : GG g x nL Q kc ks y M pc L (.int b :: .int a :: S) :=
  fun H locs ls h1 h2 h4 => lv_iand C.1 C.2.1 (dcg T hi)  (k H locs ls h1 h2 h4)
theorem g_ior (C : CX g x own cc nL d mc ms) (T : dck cc tb = true) {a b : Int32} (hi : tb[i]? = some (pc, .ior, 1))  (k : GG g x nL Q kc ks y M (pc + 1) L (.int (a ||| b) :: S)) : GG g x nL Q kc ks y M pc L (.int b :: .int a :: S) :=
  fun H locs ls h1 h2 h4 => lv_ior C.1 C.2.1 (dcg T hi)  (k H locs ls h1 h2 h4)
theorem g_ixor (C : CX g x own cc nL d mc ms) (T : dck cc tb = true) {a b : Int32} (hi : tb[i]? = some (pc, .ixor, 1))  (k : GG g x nL Q kc ks y M (pc + 1) L (.int (a ^^^ b) :: S)) : GG g x nL Q kc ks y M pc L (.int b :: .int a :: S) :=
  fun H locs ls h1 h2 h4 => lv_ixor C.1 C.2.1 (dcg T hi)  (k H locs ls h1 h2 h4)
theorem g_ishl (C : CX g x own cc nL d mc ms) (T : dck cc tb = true) {a b : Int32} (hi : tb[i]? = some (pc, .ishl, 1))  (k : GG g x nL Q kc ks y M (pc + 1) L (.int (a <<< (b &&& 31)) :: S)) : GG g x nL Q kc ks y M pc L (.int b :: .int a :: S) :=
  fun H locs ls h1 h2 h4 => lv_ishl C.1 C.2.1 (dcg T hi)  (k H locs ls h1 h2 h4)
theorem g_ishr (C : CX g x own cc nL d mc ms) (T : dck cc tb = true) {a b : Int32} (hi : tb[i]? = some (pc, .ishr, 1))  (k : GG g x nL Q kc ks y M (pc + 1) L (.int (a >>> (b &&& 31)) :: S)) : GG g x nL Q kc ks y M pc L (.int b :: .int a :: S) :=
  fun H locs ls h1 h2 h4 => lv_ishr C.1 C.2.1 (dcg T hi)  (k H locs ls h1 h2 h4)
theorem g_iushr (C : CX g x own cc nL d mc ms) (T : dck cc tb = true) {a b : Int32} (hi : tb[i]? = some (pc, .iushr, 1))  (k : GG g x nL Q kc ks y M (pc + 1) L (.int ((a.toUInt32 >>> (b.toUInt32 &&& Int32.toUInt32 31)).toInt32) :: S)) : GG g x nL Q kc ks y M pc L (.int b :: .int a :: S) :=
  fun H locs ls h1 h2 h4 => lv_iushr C.1 C.2.1 (dcg T hi) rfl (k H locs ls h1 h2 h4)
theorem g_idiv (C : CX g x own cc nL d mc ms) (T : dck cc tb = true) {a b : Int32} (hi : tb[i]? = some (pc, .idiv, 1)) (hb : ¬ b = 0) (k : GG g x nL Q kc ks y M (pc + 1) L (.int (a / b) :: S)) : GG g x nL Q kc ks y M pc L (.int b :: .int a :: S) :=
  fun H locs ls h1 h2 h4 => lv_idiv C.1 C.2.1 (dcg T hi) hb (k H locs ls h1 h2 h4)
theorem g_irem (C : CX g x own cc nL d mc ms) (T : dck cc tb = true) {a b : Int32} (hi : tb[i]? = some (pc, .irem, 1)) (hb : ¬ b = 0) (k : GG g x nL Q kc ks y M (pc + 1) L (.int (a - a / b * b) :: S)) : GG g x nL Q kc ks y M pc L (.int b :: .int a :: S) :=
  fun H locs ls h1 h2 h4 => lv_irem C.1 C.2.1 (dcg T hi) hb (k H locs ls h1 h2 h4)
theorem g_ladd (C : CX g x own cc nL d mc ms) (T : dck cc tb = true) {a b : Int64} (hi : tb[i]? = some (pc, .ladd, 1))  (k : GG g x nL Q kc ks y M (pc + 1) L (.long (a + b) :: S)) : GG g x nL Q kc ks y M pc L (.long b :: .long a :: S) :=
  fun H locs ls h1 h2 h4 => lv_ladd C.1 C.2.1 (dcg T hi)  (k H locs ls h1 h2 h4)
theorem g_lsub (C : CX g x own cc nL d mc ms) (T : dck cc tb = true) {a b : Int64} (hi : tb[i]? = some (pc, .lsub, 1))  (k : GG g x nL Q kc ks y M (pc + 1) L (.long (a - b) :: S)) : GG g x nL Q kc ks y M pc L (.long b :: .long a :: S) :=
  fun H locs ls h1 h2 h4 => lv_lsub C.1 C.2.1 (dcg T hi)  (k H locs ls h1 h2 h4)
theorem g_lor (C : CX g x own cc nL d mc ms) (T : dck cc tb = true) {a b : Int64} (hi : tb[i]? = some (pc, .lor, 1))  (k : GG g x nL Q kc ks y M (pc + 1) L (.long (a ||| b) :: S)) : GG g x nL Q kc ks y M pc L (.long b :: .long a :: S) :=
  fun H locs ls h1 h2 h4 => lv_lor C.1 C.2.1 (dcg T hi)  (k H locs ls h1 h2 h4)
theorem g_land (C : CX g x own cc nL d mc ms) (T : dck cc tb = true) {a b : Int64} (hi : tb[i]? = some (pc, .land, 1))  (k : GG g x nL Q kc ks y M (pc + 1) L (.long (a &&& b) :: S)) : GG g x nL Q kc ks y M pc L (.long b :: .long a :: S) :=
  fun H locs ls h1 h2 h4 => lv_land C.1 C.2.1 (dcg T hi)  (k H locs ls h1 h2 h4)
theorem g_lshl (C : CX g x own cc nL d mc ms) (T : dck cc tb = true) {a : Int64} {b : Int32} (hi : tb[i]? = some (pc, .lshl, 1))  (k : GG g x nL Q kc ks y M (pc + 1) L (.long (a <<< (b.toInt64 &&& 63)) :: S)) : GG g x nL Q kc ks y M pc L (.int b :: .long a :: S) :=
  fun H locs ls h1 h2 h4 => lv_lshl C.1 C.2.1 (dcg T hi) rfl (k H locs ls h1 h2 h4)
theorem g_lushr (C : CX g x own cc nL d mc ms) (T : dck cc tb = true) {a : Int64} {b : Int32} (hi : tb[i]? = some (pc, .lushr, 1))  (k : GG g x nL Q kc ks y M (pc + 1) L (.long ((a.toUInt64 >>> (b.toInt64.toUInt64 &&& Int64.toUInt64 63)).toInt64) :: S)) : GG g x nL Q kc ks y M pc L (.int b :: .long a :: S) :=
  fun H locs ls h1 h2 h4 => lv_lushr C.1 C.2.1 (dcg T hi) rfl (k H locs ls h1 h2 h4)
theorem g_i2l (C : CX g x own cc nL d mc ms) (T : dck cc tb = true) {a : Int32} (hi : tb[i]? = some (pc, .i2l, 1))  (k : GG g x nL Q kc ks y M (pc + 1) L (.long a.toInt64 :: S)) : GG g x nL Q kc ks y M pc L (.int a :: S) :=
  fun H locs ls h1 h2 h4 => lv_i2l C.1 C.2.1 (dcg T hi) rfl (k H locs ls h1 h2 h4)
theorem g_l2i (C : CX g x own cc nL d mc ms) (T : dck cc tb = true) {a : Int64} (hi : tb[i]? = some (pc, .l2i, 1))  (k : GG g x nL Q kc ks y M (pc + 1) L (.int a.toInt32 :: S)) : GG g x nL Q kc ks y M pc L (.long a :: S) :=
  fun H locs ls h1 h2 h4 => lv_l2i C.1 C.2.1 (dcg T hi) rfl (k H locs ls h1 h2 h4)
theorem g_i2b (C : CX g x own cc nL d mc ms) (T : dck cc tb = true) {a : Int32} (hi : tb[i]? = some (pc, .i2b, 1))  (k : GG g x nL Q kc ks y M (pc + 1) L (.int a.toInt8.toInt32 :: S)) : GG g x nL Q kc ks y M pc L (.int a :: S) :=
  fun H locs ls h1 h2 h4 => lv_i2b C.1 C.2.1 (dcg T hi) rfl (k H locs ls h1 h2 h4)
theorem g_dup (C : CX g x own cc nL d mc ms) (T : dck cc tb = true) {v : Value} (hi : tb[i]? = some (pc, .dup, 1)) (hv : v.category = 1) (k : GG g x nL Q kc ks y M (pc + 1) L (v :: v :: S)) : GG g x nL Q kc ks y M pc L (v :: S) :=
  fun H locs ls h1 h2 h4 => lv_dup C.1 C.2.1 (dcg T hi) ((va_cat v).trans hv) (k H locs ls h1 h2 h4)
theorem g_dup2 (C : CX g x own cc nL d mc ms) (T : dck cc tb = true) {v u : Value} (hi : tb[i]? = some (pc, .dup2, 1)) (hv : v.category = 1) (hu : u.category = 1) (k : GG g x nL Q kc ks y M (pc + 1) L (v :: u :: v :: u :: S)) : GG g x nL Q kc ks y M pc L (v :: u :: S) :=
  fun H locs ls h1 h2 h4 => lv_dup2_11 C.1 C.2.1 (dcg T hi) ((va_cat v).trans hv) ((va_cat u).trans hu) (k H locs ls h1 h2 h4)
theorem g_pop (C : CX g x own cc nL d mc ms) (T : dck cc tb = true) {v : Value} (hi : tb[i]? = some (pc, .pop, 1)) (hv : v.category = 1) (k : GG g x nL Q kc ks y M (pc + 1) L (S)) : GG g x nL Q kc ks y M pc L (v :: S) :=
  fun H locs ls h1 h2 h4 => lv_pop C.1 C.2.1 (dcg T hi) ((va_cat v).trans hv) (k H locs ls h1 h2 h4)
theorem g_lcmp (C : CX g x own cc nL d mc ms) (T : dck cc tb = true) {a b : Int64} (hi : tb[i]? = some (pc, .lcmp, 1)) (k : GG g x nL Q kc ks y M (pc + 1) L (.int (lg_cmp a b) :: S)) : GG g x nL Q kc ks y M pc L (.long b :: .long a :: S) :=
  fun H locs ls h1 h2 h4 => W.lcmp C.1 C.2.1 (dcg T hi) (k H locs ls h1 h2 h4)
theorem g_iload_n (C : CX g x own cc nL d mc ms) (T : dck cc tb = true) {j : Fin 4} {v : Int32} (hi : tb[i]? = some (pc, .iload_n j, 1)) (hl : L[(j : Nat)]? = some (some (.int v))) (k : GG g x nL Q kc ks y M (pc + 1) L (.int v :: S)) : GG g x nL Q kc ks y M pc L S :=
  fun H locs ls h1 h2 h4 => lv_iload_n C.1 C.2.1 (dcg T hi) rfl (h4.get hl) (k H locs ls h1 h2 h4)
theorem g_iload (C : CX g x own cc nL d mc ms) (T : dck cc tb = true) {j : Nat} {v : Int32} (hi : tb[i]? = some (pc, .iload j, 2)) (hl : L[j]? = some (some (.int v))) (k : GG g x nL Q kc ks y M (pc + 2) L (.int v :: S)) : GG g x nL Q kc ks y M pc L S :=
  fun H locs ls h1 h2 h4 => lv_iload C.1 C.2.1 (dcg T hi) (h4.get hl) (k H locs ls h1 h2 h4)
theorem g_lload_n (C : CX g x own cc nL d mc ms) (T : dck cc tb = true) {j : Fin 4} {v : Int64} (hi : tb[i]? = some (pc, .lload_n j, 1)) (hl : L[(j : Nat)]? = some (some (.long v))) (k : GG g x nL Q kc ks y M (pc + 1) L (.long v :: S)) : GG g x nL Q kc ks y M pc L S :=
  fun H locs ls h1 h2 h4 => lv_lload_n C.1 C.2.1 (dcg T hi) rfl (h4.get hl) (k H locs ls h1 h2 h4)
theorem g_lload (C : CX g x own cc nL d mc ms) (T : dck cc tb = true) {j : Nat} {v : Int64} (hi : tb[i]? = some (pc, .lload j, 2)) (hl : L[j]? = some (some (.long v))) (k : GG g x nL Q kc ks y M (pc + 2) L (.long v :: S)) : GG g x nL Q kc ks y M pc L S :=
  fun H locs ls h1 h2 h4 => lv_lload C.1 C.2.1 (dcg T hi) (h4.get hl) (k H locs ls h1 h2 h4)
theorem g_aload_n (C : CX g x own cc nL d mc ms) (T : dck cc tb = true) {j : Fin 4} {v : Nat} (hi : tb[i]? = some (pc, .aload_n j, 1)) (hl : L[(j : Nat)]? = some (some (.ref v))) (k : GG g x nL Q kc ks y M (pc + 1) L (.ref v :: S)) : GG g x nL Q kc ks y M pc L S :=
  fun H locs ls h1 h2 h4 => lv_aload_n C.1 C.2.1 (dcg T hi) rfl (h4.get hl) (k H locs ls h1 h2 h4)
theorem g_aload (C : CX g x own cc nL d mc ms) (T : dck cc tb = true) {j : Nat} {v : Nat} (hi : tb[i]? = some (pc, .aload j, 2)) (hl : L[j]? = some (some (.ref v))) (k : GG g x nL Q kc ks y M (pc + 2) L (.ref v :: S)) : GG g x nL Q kc ks y M pc L S :=
  fun H locs ls h1 h2 h4 => lv_aload C.1 C.2.1 (dcg T hi) (h4.get hl) (k H locs ls h1 h2 h4)
theorem g_istore_n (C : CX g x own cc nL d mc ms) (T : dck cc tb = true) {j : Fin 4} {v : Int32} (hi : tb[i]? = some (pc, .istore_n j, 1)) (hj : Nat.ble ((j : Nat) + 1) nL = true) (hn : nlo L (j : Nat) = true) (k : GG g x nL Q kc ks y M (pc + 1) (L.set (j : Nat) (some (.int v))) S) : GG g x nL Q kc ks y M pc L (.int v :: S) :=
  fun H locs ls h1 h2 h4 => lv_istore_n C.1 C.2.1 (dcg T hi) rfl h4.1 (Nat.le_of_ble_eq_true hj) rfl (fun ls' h' => k H locs ls' h1 h2 (h4.set hn h'))
theorem g_istore (C : CX g x own cc nL d mc ms) (T : dck cc tb = true) {j : Nat} {v : Int32} (hi : tb[i]? = some (pc, .istore j, 2)) (hj : Nat.ble (j + 1) nL = true) (hn : nlo L j = true) (k : GG g x nL Q kc ks y M (pc + 2) (L.set j (some (.int v))) S) : GG g x nL Q kc ks y M pc L (.int v :: S) :=
  fun H locs ls h1 h2 h4 => lv_istore C.1 C.2.1 (dcg T hi) h4.1 (Nat.le_of_ble_eq_true hj) rfl (fun ls' h' => k H locs ls' h1 h2 (h4.set hn h'))
theorem g_astore_n (C : CX g x own cc nL d mc ms) (T : dck cc tb = true) {j : Fin 4} {v : Nat} (hi : tb[i]? = some (pc, .astore_n j, 1)) (hj : Nat.ble ((j : Nat) + 1) nL = true) (hn : nlo L (j : Nat) = true) (k : GG g x nL Q kc ks y M (pc + 1) (L.set (j : Nat) (some (.ref v))) S) : GG g x nL Q kc ks y M pc L (.ref v :: S) :=
  fun H locs ls h1 h2 h4 => lv_astore_n C.1 C.2.1 (dcg T hi) rfl h4.1 (Nat.le_of_ble_eq_true hj) rfl (fun ls' h' => k H locs ls' h1 h2 (h4.set hn h'))
theorem g_astore (C : CX g x own cc nL d mc ms) (T : dck cc tb = true) {j : Nat} {v : Nat} (hi : tb[i]? = some (pc, .astore j, 2)) (hj : Nat.ble (j + 1) nL = true) (hn : nlo L j = true) (k : GG g x nL Q kc ks y M (pc + 2) (L.set j (some (.ref v))) S) : GG g x nL Q kc ks y M pc L (.ref v :: S) :=
  fun H locs ls h1 h2 h4 => lv_astore C.1 C.2.1 (dcg T hi) h4.1 (Nat.le_of_ble_eq_true hj) rfl (fun ls' h' => k H locs ls' h1 h2 (h4.set hn h'))
theorem g_lstore_n (C : CX g x own cc nL d mc ms) (T : dck cc tb = true) {j : Fin 4} {v : Int64} (hi : tb[i]? = some (pc, .lstore_n j, 1)) (hj : Nat.ble ((j : Nat) + 2) nL = true) (hn : nlo L (j : Nat) = true) (k : GG g x nL Q kc ks y M (pc + 1) ((L.set ((j : Nat) + 1) none).set (j : Nat) (some (.long v))) S) : GG g x nL Q kc ks y M pc L (.long v :: S) :=
  fun H locs ls h1 h2 h4 => lv_lstore_n C.1 C.2.1 (dcg T hi) rfl h4.1 (Nat.le_of_ble_eq_true hj) rfl (fun ls' h' => k H locs ls' h1 h2 (h4.set2 hn h'))
theorem g_iinc (C : CX g x own cc nL d mc ms) (T : dck cc tb = true) {j : Nat} {n : Int} {v : Int32} (e : Int32) (hi : tb[i]? = some (pc, .iinc j n, 3)) (hl : L[j]? = some (some (.int v))) (he : Int32.ofInt n = e) (hj : Nat.ble (j + 1) nL = true) (hn : nlo L j = true) (k : GG g x nL Q kc ks y M (pc + 3) (L.set j (some (.int (v + e)))) S) : GG g x nL Q kc ks y M pc L S :=
  fun H locs ls h1 h2 h4 => by
    subst he
    obtain ⟨kk, hk⟩ := List.getElem?_of_mem (mem_lvl.mpr ⟨j, _, rfl, hl⟩ : ((0 + j, va g (.int v)) : Nat × Value) ∈ lvl g 0 L)
    rw [Nat.zero_add] at hk
    exact lv_iinc C.1 C.2.1 (dcg T hi) h4.1 hk rfl (Nat.le_of_ble_eq_true hj) rfl (fun ls' h' => k H locs ls' h1 h2 (h4.set hn h'))
theorem g_goto (C : CX g x own cc nL d mc ms) (T : dck cc tb = true) {off : Int} (tgt : Nat) (hi : tb[i]? = some (pc, .goto off, 3)) (ht : (pc : Int) + off = (tgt : Int)) (k : GG g x nL Q kc ks y M tgt L S) : GG g x nL Q kc ks y M pc L S :=
  fun H locs ls h1 h2 h4 => lv_goto C.1 C.2.1 (dcg T hi) ht (k H locs ls h1 h2 h4)
theorem g_icmp_eq (C : CX g x own cc nL d mc ms) (T : dck cc tb = true) {a b : Int32} {off : Int} (tgt : Nat) (hi : tb[i]? = some (pc, .if_icmp .eq off, 3)) (ht : (pc : Int) + off = (tgt : Int)) (kt : a = b → GG g x nL Q kc ks y M tgt L S) (kf : ¬ (a = b) → GG g x nL Q kc ks y M (pc + 3) L S) : GG g x nL Q kc ks y M pc L (.int b :: .int a :: S) :=
  fun H locs ls h1 h2 h4 => lv_icmp_eq C.1 C.2.1 (dcg T hi) ht (fun c => kt c H locs ls h1 h2 h4) (fun c => kf c H locs ls h1 h2 h4)
theorem g_if_eq (C : CX g x own cc nL d mc ms) (T : dck cc tb = true) {a : Int32} {off : Int} (tgt : Nat) (hi : tb[i]? = some (pc, .ifCond .eq off, 3)) (ht : (pc : Int) + off = (tgt : Int)) (kt : a = 0 → GG g x nL Q kc ks y M tgt L S) (kf : ¬ (a = 0) → GG g x nL Q kc ks y M (pc + 3) L S) : GG g x nL Q kc ks y M pc L (.int a :: S) :=
  fun H locs ls h1 h2 h4 => lv_if_eq C.1 C.2.1 (dcg T hi) ht (fun c => kt c H locs ls h1 h2 h4) (fun c => kf c H locs ls h1 h2 h4)
theorem g_icmp_ne (C : CX g x own cc nL d mc ms) (T : dck cc tb = true) {a b : Int32} {off : Int} (tgt : Nat) (hi : tb[i]? = some (pc, .if_icmp .ne off, 3)) (ht : (pc : Int) + off = (tgt : Int)) (kt : ¬ a = b → GG g x nL Q kc ks y M tgt L S) (kf : a = b → GG g x nL Q kc ks y M (pc + 3) L S) : GG g x nL Q kc ks y M pc L (.int b :: .int a :: S) :=
  fun H locs ls h1 h2 h4 => lv_icmp_ne C.1 C.2.1 (dcg T hi) ht (fun c => kt c H locs ls h1 h2 h4) (fun c => kf c H locs ls h1 h2 h4)
theorem g_if_ne (C : CX g x own cc nL d mc ms) (T : dck cc tb = true) {a : Int32} {off : Int} (tgt : Nat) (hi : tb[i]? = some (pc, .ifCond .ne off, 3)) (ht : (pc : Int) + off = (tgt : Int)) (kt : ¬ a = 0 → GG g x nL Q kc ks y M tgt L S) (kf : a = 0 → GG g x nL Q kc ks y M (pc + 3) L S) : GG g x nL Q kc ks y M pc L (.int a :: S) :=
  fun H locs ls h1 h2 h4 => lv_if_ne C.1 C.2.1 (dcg T hi) ht (fun c => kt c H locs ls h1 h2 h4) (fun c => kf c H locs ls h1 h2 h4)
theorem g_icmp_lt (C : CX g x own cc nL d mc ms) (T : dck cc tb = true) {a b : Int32} {off : Int} (tgt : Nat) (hi : tb[i]? = some (pc, .if_icmp .lt off, 3)) (ht : (pc : Int) + off = (tgt : Int)) (kt : a < b → GG g x nL Q kc ks y M tgt L S) (kf : ¬ (a < b) → GG g x nL Q kc ks y M (pc + 3) L S) : GG g x nL Q kc ks y M pc L (.int b :: .int a :: S) :=
  fun H locs ls h1 h2 h4 => lv_icmp_lt C.1 C.2.1 (dcg T hi) ht (fun c => kt c H locs ls h1 h2 h4) (fun c => kf c H locs ls h1 h2 h4)
theorem g_if_lt (C : CX g x own cc nL d mc ms) (T : dck cc tb = true) {a : Int32} {off : Int} (tgt : Nat) (hi : tb[i]? = some (pc, .ifCond .lt off, 3)) (ht : (pc : Int) + off = (tgt : Int)) (kt : a < 0 → GG g x nL Q kc ks y M tgt L S) (kf : ¬ (a < 0) → GG g x nL Q kc ks y M (pc + 3) L S) : GG g x nL Q kc ks y M pc L (.int a :: S) :=
  fun H locs ls h1 h2 h4 => lv_if_lt C.1 C.2.1 (dcg T hi) ht (fun c => kt c H locs ls h1 h2 h4) (fun c => kf c H locs ls h1 h2 h4)
theorem g_icmp_ge (C : CX g x own cc nL d mc ms) (T : dck cc tb = true) {a b : Int32} {off : Int} (tgt : Nat) (hi : tb[i]? = some (pc, .if_icmp .ge off, 3)) (ht : (pc : Int) + off = (tgt : Int)) (kt : b ≤ a → GG g x nL Q kc ks y M tgt L S) (kf : ¬ (b ≤ a) → GG g x nL Q kc ks y M (pc + 3) L S) : GG g x nL Q kc ks y M pc L (.int b :: .int a :: S) :=
  fun H locs ls h1 h2 h4 => lv_icmp_ge C.1 C.2.1 (dcg T hi) ht (fun c => kt c H locs ls h1 h2 h4) (fun c => kf c H locs ls h1 h2 h4)
theorem g_if_ge (C : CX g x own cc nL d mc ms) (T : dck cc tb = true) {a : Int32} {off : Int} (tgt : Nat) (hi : tb[i]? = some (pc, .ifCond .ge off, 3)) (ht : (pc : Int) + off = (tgt : Int)) (kt : 0 ≤ a → GG g x nL Q kc ks y M tgt L S) (kf : ¬ (0 ≤ a) → GG g x nL Q kc ks y M (pc + 3) L S) : GG g x nL Q kc ks y M pc L (.int a :: S) :=
  fun H locs ls h1 h2 h4 => lv_if_ge C.1 C.2.1 (dcg T hi) ht (fun c => kt c H locs ls h1 h2 h4) (fun c => kf c H locs ls h1 h2 h4)
theorem g_icmp_gt (C : CX g x own cc nL d mc ms) (T : dck cc tb = true) {a b : Int32} {off : Int} (tgt : Nat) (hi : tb[i]? = some (pc, .if_icmp .gt off, 3)) (ht : (pc : Int) + off = (tgt : Int)) (kt : b < a → GG g x nL Q kc ks y M tgt L S) (kf : ¬ (b < a) → GG g x nL Q kc ks y M (pc + 3) L S) : GG g x nL Q kc ks y M pc L (.int b :: .int a :: S) :=
  fun H locs ls h1 h2 h4 => lv_icmp_gt C.1 C.2.1 (dcg T hi) ht (fun c => kt c H locs ls h1 h2 h4) (fun c => kf c H locs ls h1 h2 h4)
theorem g_if_gt (C : CX g x own cc nL d mc ms) (T : dck cc tb = true) {a : Int32} {off : Int} (tgt : Nat) (hi : tb[i]? = some (pc, .ifCond .gt off, 3)) (ht : (pc : Int) + off = (tgt : Int)) (kt : 0 < a → GG g x nL Q kc ks y M tgt L S) (kf : ¬ (0 < a) → GG g x nL Q kc ks y M (pc + 3) L S) : GG g x nL Q kc ks y M pc L (.int a :: S) :=
  fun H locs ls h1 h2 h4 => lv_if_gt C.1 C.2.1 (dcg T hi) ht (fun c => kt c H locs ls h1 h2 h4) (fun c => kf c H locs ls h1 h2 h4)
theorem g_icmp_le (C : CX g x own cc nL d mc ms) (T : dck cc tb = true) {a b : Int32} {off : Int} (tgt : Nat) (hi : tb[i]? = some (pc, .if_icmp .le off, 3)) (ht : (pc : Int) + off = (tgt : Int)) (kt : a ≤ b → GG g x nL Q kc ks y M tgt L S) (kf : ¬ (a ≤ b) → GG g x nL Q kc ks y M (pc + 3) L S) : GG g x nL Q kc ks y M pc L (.int b :: .int a :: S) :=
  fun H locs ls h1 h2 h4 => lv_icmp_le C.1 C.2.1 (dcg T hi) ht (fun c => kt c H locs ls h1 h2 h4) (fun c => kf c H locs ls h1 h2 h4)
theorem g_if_le (C : CX g x own cc nL d mc ms) (T : dck cc tb = true) {a : Int32} {off : Int} (tgt : Nat) (hi : tb[i]? = some (pc, .ifCond .le off, 3)) (ht : (pc : Int) + off = (tgt : Int)) (kt : a ≤ 0 → GG g x nL Q kc ks y M tgt L S) (kf : ¬ (a ≤ 0) → GG g x nL Q kc ks y M (pc + 3) L S) : GG g x nL Q kc ks y M pc L (.int a :: S) :=
  fun H locs ls h1 h2 h4 => lv_if_le C.1 C.2.1 (dcg T hi) ht (fun c => kt c H locs ls h1 h2 h4) (fun c => kf c H locs ls h1 h2 h4)
theorem g_tableIn (C : CX g x own cc nL d mc ms) (T : dck cc tb = true) {dflt lo hi' : Int} {offs : Array Int} {len : Nat} {a : Int32} (c : Int32) (tgt : Nat) (off : Int) (hi : tb[i]? = some (pc, .tableswitch dflt lo hi' offs, len)) (hc : a = c) (h : (decide (¬ c.toInt < lo) && decide (¬ hi' < c.toInt) && decide (offs[(c.toInt - lo).toNat]? = some off)) = true) (ht : (pc : Int) + off = (tgt : Int)) (k : GG g x nL Q kc ks y M tgt L S) : GG g x nL Q kc ks y M pc L (.int a :: S) :=
  fun H locs ls h1 h2 h4 => by
    subst hc
    simp only [Bool.and_eq_true, decide_eq_true_eq] at h
    exact lv_tableIn C.1 C.2.1 (dcg T hi) h.1.1 h.1.2 h.2 ht (k H locs ls h1 h2 h4)
theorem g_tableOut (C : CX g x own cc nL d mc ms) (T : dck cc tb = true) {dflt lo hi' : Int} {offs : Array Int} {len : Nat} {a : Int32} (c1 c2 : Int32) (tgt : Nat) (hi : tb[i]? = some (pc, .tableswitch dflt lo hi' offs, len)) (hc : a < c1 ∨ c2 < a) (h : (decide (c1.toInt = lo) && decide (c2.toInt = hi')) = true) (ht : (pc : Int) + dflt = (tgt : Int)) (k : GG g x nL Q kc ks y M tgt L S) : GG g x nL Q kc ks y M pc L (.int a :: S) :=
  fun H locs ls h1 h2 h4 => by
    simp only [Bool.and_eq_true, decide_eq_true_eq] at h
    refine lv_tableOut C.1 C.2.1 (dcg T hi) ?_ ht (k H locs ls h1 h2 h4)
    rw [← h.1, ← h.2]
    exact hc.imp Int32.lt_iff_toInt_lt.mp Int32.lt_iff_toInt_lt.mp
theorem g_lookup (C : CX g x own cc nL d mc ms) (T : dck cc tb = true) {dflt : Int} {ps : Array (Int × Int)} {len : Nat} {a : Int32} (tgt : Nat) (off : Int) (hi : tb[i]? = some (pc, .lookupswitch dflt ps, len)) (hp : (ps.toList.zip (ps.toList.drop 1)).all (fun (a, next) => a.1 < next.1) = true) (ho : Op.lookupswitch.offset ps.toList dflt a.toInt = off) (ht : (pc : Int) + off = (tgt : Int)) (k : GG g x nL Q kc ks y M tgt L S) : GG g x nL Q kc ks y M pc L (.int a :: S) :=
  fun H locs ls h1 h2 h4 => lv_lookup C.1 C.2.1 (dcg T hi) hp ho ht (k H locs ls h1 h2 h4)
theorem g_ldcI (C : CX g x own cc nL d mc ms) (T : dck cc tb = true) {idx : Nat} {v : Int32} (hi : tb[i]? = some (pc, .ldc idx, 2)) (hw : Cond.constant own idx v ∈ lw_tbl) (k : GG g x nL Q kc ks y M (pc + 2) L (.int v :: S)) : GG g x nL Q kc ks y M pc L S :=
  fun H locs ls h1 h2 h4 => lv_ldc C.1 C.2.1 C.2.2.2.1 (C.word hw rfl) (dcg T hi) (k H locs ls h1 h2 h4)
theorem g_ldc2 (C : CX g x own cc nL d mc ms) (T : dck cc tb = true) {idx : Nat} {v : Int64} (hi : tb[i]? = some (pc, .ldc2_w idx, 3)) (hw : Cond.constantLong own idx v ∈ lw_tbl) (k : GG g x nL Q kc ks y M (pc + 3) L (.long v :: S)) : GG g x nL Q kc ks y M pc L S :=
  fun H locs ls h1 h2 h4 => lv_ldc2 C.1 C.2.1 C.2.2.2.1 (C.word hw rfl) (dcg T hi) (k H locs ls h1 h2 h4)
end GR
