/-! ===== cells, rows, columns, what lies beside; deepest, palest, all blue ===== -/
def GEO (w h : Nat) (a b : Int32) : Prop := (1 ≤ w ∧ w ≤ 6) ∧ (1 ≤ h ∧ h ≤ 5) ∧ a = n2 w ∧ b = n2 h
theorem n2_mul (a b : Nat) : n2 a * n2 b = n2 (a * b) := (Int32.ofNat_mul a b).symm
theorem GEO.n {w h : Nat} {a b : Int32} (g : GEO w h a b) : a * b = n2 (w * h) := by
  obtain ⟨-, -, rfl, rfl⟩ := g
  exact n2_mul w h
theorem GEO.n30 {w h : Nat} {a b : Int32} (g : GEO w h a b) : w * h ≤ 30 := by
  obtain ⟨⟨-, h1⟩, ⟨-, h2⟩, -, -⟩ := g
  exact Nat.mul_le_mul h1 h2
theorem GEO.n1 {w h : Nat} {a b : Int32} (g : GEO w h a b) : 1 ≤ w * h := by
  obtain ⟨⟨h1, -⟩, ⟨h2, -⟩, -, -⟩ := g
  exact Nat.mul_le_mul h1 h2
theorem GEO.pos {w h : Nat} {a b : Int32} (g : GEO w h a b) : ¬ a ≤ 0 := by
  obtain ⟨⟨h1, h2⟩, -, rfl, -⟩ := g
  intro e
  have := (n2_le (i := w) (j := 0) (by omega) (by decide)).mp e
  omega
theorem GEO.ne {w h : Nat} {a b : Int32} (g : GEO w h a b) : ¬ a = 0 := fun e => g.pos (by rw [e]; exact Int32.le_refl _)
theorem dv : ∀ c : Fin 64, ∀ w : Fin 7, 0 < w.val → n2 c.val / n2 w.val = n2 (c.val / w.val) ∧ n2 c.val - n2 c.val / n2 w.val * n2 w.val = n2 (c.val % w.val) := by decide +kernel
def ab (x y : Nat) : Nat := (x - y) + (y - x)
theorem jab : ∀ x : Fin 64, ∀ y : Fin 64, jabs (n2 x.val - n2 y.val) = n2 (ab x.val y.val) := by decide +kernel
def dist (w a b : Nat) : Nat := ab (a / w) (b / w) + ab (a % w) (b % w)
def besF (w c : Nat) : Nat → Int32 → Int32 := fun k o => if dist w c k = 1 then o ||| bit k else o
def besP (w n c : Nat) : Int32 := it (besF w c) 0 n
theorem ab_lt {x y : Nat} (hx : x < 64) (hy : y < 64) : ab x y < 64 := by unfold ab; omega
theorem dist_lt {w a b : Nat} (ha : a < 64) (hb : b < 64) (hw : w ≤ 6) : dist w a b < 128 := by
  unfold dist
  have h1 : a / w ≤ a := Nat.div_le_self _ _
  have h2 : b / w ≤ b := Nat.div_le_self _ _
  have h3 : a % w ≤ a := Nat.mod_le _ _
  have h4 : b % w ≤ b := Nat.mod_le _ _
  have := ab_lt (x := a / w) (y := b / w) (by omega) (by omega)
  have := ab_lt (x := a % w) (y := b % w) (by omega) (by omega)
  omega
theorem columnOf_4 {y : Lay} (hy : LY y) {M : Mem} {w h c : Nat} (g : GEO w h (M.1 4 0) (M.1 4 1)) (hc : c < 64) : f_X1_columnOf y 4 (n2 c) M = some (n2 (c % w)) := by
  rw [columnOf_g (k_4 hy) g.pos]
  obtain ⟨⟨h1, h2⟩, -, e, -⟩ := g
  rw [e]
  exact congrArg some (dv ⟨c, hc⟩ ⟨w, by omega⟩ h1).2
theorem rowOf_4 {y : Lay} (hy : LY y) {M : Mem} {w h c : Nat} (g : GEO w h (M.1 4 0) (M.1 4 1)) (hc : c < 64) : f_X1_rowOf y 4 (n2 c) M = some (n2 (c / w)) := by
  rw [rowOf_g (k_4 hy) g.pos]
  obtain ⟨⟨h1, h2⟩, -, e, -⟩ := g
  rw [e]
  exact congrArg some (dv ⟨c, hc⟩ ⟨w, by omega⟩ h1).1
theorem cells_4 {y : Lay} (hy : LY y) {M : Mem} {w h : Nat} (g : GEO w h (M.1 4 0) (M.1 4 1)) : f_X1_cells y 4 M = some (n2 (w * h)) := by
  rw [cells_g (k_4 hy), g.n]
theorem stepsBetween_4 {y : Lay} (hy : LY y) {M : Mem} {w h a b : Nat} (g : GEO w h (M.1 4 0) (M.1 4 1)) (ha : a < 64) (hb : b < 64) : f_X1_stepsBetween y 4 (n2 a) (n2 b) M = some (n2 (dist w a b)) := by
  unfold f_X1_stepsBetween
  rw [rowOf_4 hy g ha, rowOf_4 hy g hb, columnOf_4 hy g ha, columnOf_4 hy g hb]
  simp only [lT_s, jn_s, c0_s, cp_s, cx_s, cx_t, gK_t (k_4 hy), gN_t (r := 4) (by decide), r_4_6 hy, r_4_7 hy, r_4_8 hy]
  have h1 : a / w ≤ a := Nat.div_le_self _ _
  have h2 : b / w ≤ b := Nat.div_le_self _ _
  have h3 : a % w ≤ a := Nat.mod_le _ _
  have h4 : b % w ≤ b := Nat.mod_le _ _
  have e1 := jab ⟨a / w, by omega⟩ ⟨b / w, by omega⟩
  have e2 := jab ⟨a % w, by omega⟩ ⟨b % w, by omega⟩
  dsimp only at e1 e2
  rw [e1, e2, n2_add]
  rfl
theorem columnOf_13 {y : Lay} (hy : LY y) {M : Mem} {w h c : Nat} (g : GEO w h (M.1 13 0) (M.1 13 1)) (hc : c < 64) : f_X1_columnOf y 13 (n2 c) M = some (n2 (c % w)) := by
  rw [columnOf_g (k_13 hy) g.pos]
  obtain ⟨⟨h1, h2⟩, -, e, -⟩ := g
  rw [e]
  exact congrArg some (dv ⟨c, hc⟩ ⟨w, by omega⟩ h1).2
theorem rowOf_13 {y : Lay} (hy : LY y) {M : Mem} {w h c : Nat} (g : GEO w h (M.1 13 0) (M.1 13 1)) (hc : c < 64) : f_X1_rowOf y 13 (n2 c) M = some (n2 (c / w)) := by
  rw [rowOf_g (k_13 hy) g.pos]
  obtain ⟨⟨h1, h2⟩, -, e, -⟩ := g
  rw [e]
  exact congrArg some (dv ⟨c, hc⟩ ⟨w, by omega⟩ h1).1
theorem cells_13 {y : Lay} (hy : LY y) {M : Mem} {w h : Nat} (g : GEO w h (M.1 13 0) (M.1 13 1)) : f_X1_cells y 13 M = some (n2 (w * h)) := by
  rw [cells_g (k_13 hy), g.n]
theorem stepsBetween_13 {y : Lay} (hy : LY y) {M : Mem} {w h a b : Nat} (g : GEO w h (M.1 13 0) (M.1 13 1)) (ha : a < 64) (hb : b < 64) : f_X1_stepsBetween y 13 (n2 a) (n2 b) M = some (n2 (dist w a b)) := by
  unfold f_X1_stepsBetween
  rw [rowOf_13 hy g ha, rowOf_13 hy g hb, columnOf_13 hy g ha, columnOf_13 hy g hb]
  simp only [lT_s, jn_s, c0_s, cp_s, cx_s, cx_t, gK_t (k_13 hy), gN_t (r := 13) (by decide), r_13_6 hy, r_13_7 hy, r_13_8 hy]
  have h1 : a / w ≤ a := Nat.div_le_self _ _
  have h2 : b / w ≤ b := Nat.div_le_self _ _
  have h3 : a % w ≤ a := Nat.mod_le _ _
  have h4 : b % w ≤ b := Nat.mod_le _ _
  have e1 := jab ⟨a / w, by omega⟩ ⟨b / w, by omega⟩
  have e2 := jab ⟨a % w, by omega⟩ ⟨b % w, by omega⟩
  dsimp only at e1 e2
  rw [e1, e2, n2_add]
  rfl
/-! the model -/
theorem z0 : (0 : Int32).toNatClampNeg = 0 := rfl
theorem cellsG {y : Lay} (hy : LY y) {M : Mem} {w h : Nat} (g : GEO w h (M.1 77 0) (M.1 77 1)) : f_X12_cells y 73 M = some (n2 (w * h)) := by
  rw [cellsM hy, g.n]
theorem columnM {y : Lay} (hy : LY y) {M : Mem} {w h c : Nat} (g : GEO w h (M.1 77 0) (M.1 77 1)) (hc : c < 64) : f_X12_columnOf y 73 (n2 c) M = some (n2 (c % w)) := by
  unfold f_X12_columnOf
  simp only [gK_t (k_73 hy), gN_t (r := 73) (by decide), r_73_0 hy, r_73_1 hy, r_73_2 hy, r_73_5 hy, r_73_6 hy, r_73_7 hy, r_73_8 hy, r_73_9 hy, r_73_10 hy, r_73_11 hy, r_73_12 hy, r_73_13 hy, r_73_14 hy, r_73_28 hy, r_73_29 hy, r_73_30 hy, r_73_38 hy, r_73_39 hy, r_73_40 hy, r_73_42 hy, r_73_43 hy, r_73_44 hy, r_73_45 hy, r_73_46 hy, r_73_47 hy, r_73_48 hy, r_73_49 hy, r_73_50 hy, r_73_51 hy, r_73_53 hy, r_73_58 hy, r_73_59 hy, r_73_60 hy, r_73_61 hy, r_73_62 hy, r_73_63 hy, gN_t (r := 77) (by decide), z0]
  rw [gA_t (k_77 hy) (by decide), gd_t g.ne]
  obtain ⟨⟨h1, h2⟩, -, e, -⟩ := g
  rw [e]
  exact congrArg some (dv ⟨c, hc⟩ ⟨w, by omega⟩ h1).2
theorem rowM {y : Lay} (hy : LY y) {M : Mem} {w h c : Nat} (g : GEO w h (M.1 77 0) (M.1 77 1)) (hc : c < 64) : f_X12_rowOf y 73 (n2 c) M = some (n2 (c / w)) := by
  unfold f_X12_rowOf
  simp only [gK_t (k_73 hy), gN_t (r := 73) (by decide), r_73_0 hy, r_73_1 hy, r_73_2 hy, r_73_5 hy, r_73_6 hy, r_73_7 hy, r_73_8 hy, r_73_9 hy, r_73_10 hy, r_73_11 hy, r_73_12 hy, r_73_13 hy, r_73_14 hy, r_73_28 hy, r_73_29 hy, r_73_30 hy, r_73_38 hy, r_73_39 hy, r_73_40 hy, r_73_42 hy, r_73_43 hy, r_73_44 hy, r_73_45 hy, r_73_46 hy, r_73_47 hy, r_73_48 hy, r_73_49 hy, r_73_50 hy, r_73_51 hy, r_73_53 hy, r_73_58 hy, r_73_59 hy, r_73_60 hy, r_73_61 hy, r_73_62 hy, r_73_63 hy, gN_t (r := 77) (by decide), z0]
  rw [gA_t (k_77 hy) (by decide), gd_t g.ne]
  obtain ⟨⟨h1, h2⟩, -, e, -⟩ := g
  rw [e]
  exact congrArg some (dv ⟨c, hc⟩ ⟨w, by omega⟩ h1).1
theorem farM {y : Lay} (hy : LY y) {M : Mem} {w h a b : Nat} (g : GEO w h (M.1 77 0) (M.1 77 1)) (ha : a < 64) (hb : b < 64) : f_X12_farOf y 73 (n2 a) (n2 b) M = some (n2 (dist w a b)) := by
  unfold f_X12_farOf
  rw [columnM hy g ha, columnM hy g hb, rowM hy g ha, rowM hy g hb]
  simp only [lT_s, jn_s, c0_s, cp_s, cx_s, cx_t, gK_t (k_73 hy), gN_t (r := 73) (by decide), r_73_0 hy, r_73_1 hy, r_73_2 hy, r_73_5 hy, r_73_6 hy, r_73_7 hy, r_73_8 hy, r_73_9 hy, r_73_10 hy, r_73_11 hy, r_73_12 hy, r_73_13 hy, r_73_14 hy, r_73_28 hy, r_73_29 hy, r_73_30 hy, r_73_38 hy, r_73_39 hy, r_73_40 hy, r_73_42 hy, r_73_43 hy, r_73_44 hy, r_73_45 hy, r_73_46 hy, r_73_47 hy, r_73_48 hy, r_73_49 hy, r_73_50 hy, r_73_51 hy, r_73_53 hy, r_73_58 hy, r_73_59 hy, r_73_60 hy, r_73_61 hy, r_73_62 hy, r_73_63 hy]
  have h1 : a / w ≤ a := Nat.div_le_self _ _
  have h2 : b / w ≤ b := Nat.div_le_self _ _
  have h3 : a % w ≤ a := Nat.mod_le _ _
  have h4 : b % w ≤ b := Nat.mod_le _ _
  have e1 := jab ⟨a / w, by omega⟩ ⟨b / w, by omega⟩
  have e2 := jab ⟨a % w, by omega⟩ ⟨b % w, by omega⟩
  dsimp only at e1 e2
  rw [e1, e2, n2_add]
  unfold dist
  rw [Nat.add_comm]
theorem besideM {y : Lay} (hy : LY y) {M : Mem} {w h c : Nat} (g : GEO w h (M.1 77 0) (M.1 77 1)) (hc : c < 30) : f_X12_besideOf y 73 (n2 c) M = some (besP w (w * h) c) := by
  unfold f_X12_besideOf
  have h30 := g.n30
  simp only [lT_s, jn_s, c0_s, cp_s, cx_s, cx_t, gK_t (k_73 hy), gN_t (r := 73) (by decide), r_73_0 hy, r_73_1 hy, r_73_2 hy, r_73_5 hy, r_73_6 hy, r_73_7 hy, r_73_8 hy, r_73_9 hy, r_73_10 hy, r_73_11 hy, r_73_12 hy, r_73_13 hy, r_73_14 hy, r_73_28 hy, r_73_29 hy, r_73_30 hy, r_73_38 hy, r_73_39 hy, r_73_40 hy, r_73_42 hy, r_73_43 hy, r_73_44 hy, r_73_45 hy, r_73_46 hy, r_73_47 hy, r_73_48 hy, r_73_49 hy, r_73_50 hy, r_73_51 hy, r_73_53 hy, r_73_58 hy, r_73_59 hy, r_73_60 hy, r_73_61 hy, r_73_62 hy, r_73_63 hy, cellsG hy g]
  refine wp_eq ?_
  refine wp_for2 (i0 := 0) (w * h) (fun i s => s = it (besF w c) 0 i) (by have : FUEL = 100000 := rfl; omega) rfl (by omega) rfl ?_ ?_
  · intro f i s hi hI hk
    subst hI
    refine wp_brf (by rw [n2_le (by omega) (by omega)]; omega) ?_
    rw [farM hy g (by omega) (by omega)]
    simp only [lT_s, jn_s, c0_s, cp_s, cx_s, cx_t, n2_s]
    have hd := dist_lt (w := w) (a := c) (b := i) (by omega) (by omega) g.1.2
    refine wp_br (fun q => hk _ ?_) (fun q => hk _ ?_)
    · have q' := (n2_inj (j := 1) (by omega) (by decide)).mp q
      rw [it_s]
      exact (if_pos q').symm
    · have q' : ¬ dist w c i = 1 := fun e => q ((n2_inj (j := 1) (by omega) (by decide)).mpr e)
      rw [it_s, or_0]
      exact (if_neg q').symm
  · intro f s hI
    subst hI
    exact wp_brt (Int32.le_refl _) (wp_some rfl)
/-! deepest, palest -/
def enc : Option Nat → Int32
  | none => -1
  | some j => n2 j
theorem enc_m1 {o : Option Nat} (h : ∀ j, o = some j → j < 30) : enc o = -1 ↔ o = none := by
  cases o with
  | none => exact ⟨fun _ => rfl, fun _ => rfl⟩
  | some j =>
    have hj := h j rfl
    constructor
    · intro e
      exfalso
      have : (n2 j).toInt = -1 := by rw [show n2 j = (-1 : Int32) from e]; rfl
      rw [n2_int (by omega)] at this
      omega
    · intro e; cases e
def deF (pg : Int32) (B : Row) : Nat → Option Nat → Option Nat := fun c o => if bt pg c = 0 then match o with
  | none => some c
  | some j => if B c ≤ B j then some j else some c
  else o
def paF (pg : Int32) (B : Row) : Nat → Option Nat → Option Nat := fun c o => if bt pg c = 0 then match o with
  | none => some c
  | some j => if B j ≤ B c then some j else some c
  else o
def deP (pg : Int32) (B : Row) (n : Nat) : Option Nat := it (deF pg B) none n
def paP (pg : Int32) (B : Row) (n : Nat) : Option Nat := it (paF pg B) none n
theorem deP_lt (pg : Int32) (B : Row) : ∀ n j, deP pg B n = some j → j < n := by
  intro n
  induction n with
  | zero => intro j h; cases h
  | succ n ih =>
    intro j h
    unfold deP at h ih
    rw [it_s] at h
    unfold deF at h
    split at h
    · split at h
      · cases h; omega
      · rename_i k hk
        split at h
        · cases h; have := ih _ hk; omega
        · cases h; omega
    · have := ih j h; omega
theorem paP_lt (pg : Int32) (B : Row) : ∀ n j, paP pg B n = some j → j < n := by
  intro n
  induction n with
  | zero => intro j h; cases h
  | succ n ih =>
    intro j h
    unfold paP at h ih
    rw [it_s] at h
    unfold paF at h
    split at h
    · split at h
      · cases h; omega
      · rename_i k hk
        split at h
        · cases h; have := ih _ hk; omega
        · cases h; omega
    · have := ih j h; omega
theorem paP_none (pg : Int32) (B : Row) : ∀ n, paP pg B n = none ↔ deP pg B n = none := by
  intro n
  induction n with
  | zero => exact ⟨fun _ => rfl, fun _ => rfl⟩
  | succ n ih =>
    unfold deP paP at ih ⊢
    rw [it_s, it_s]
    unfold deF paF
    by_cases h : bt pg n = 0
    · rw [if_pos h, if_pos h]
      constructor
      · intro e
        exfalso
        split at e
        · cases e
        · split at e <;> cases e
      · intro e
        exfalso
        split at e
        · cases e
        · split at e <;> cases e
    · rw [if_neg h, if_neg h]
      exact ih
def unP (pg : Int32) (B : Row) (n : Nat) : Int32 := match deP pg B n, paP pg B n with
  | some a, some b => B a - B b
  | _, _ => -1
theorem bt01 (x : Int32) (i : Nat) : bt x i = 0 ∨ bt x i = 1 := by
  unfold bt
  generalize x >>> (n2 i &&& 31) = z
  have hz : z &&& 1 = n2 (z.toBitVec.toNat % 2) := by
    apply Int32.toBitVec_inj.1
    apply BitVec.eq_of_toNat_eq
    show (z.toBitVec &&& 1#32).toNat = (BitVec.ofNat 32 (z.toBitVec.toNat % 2)).toNat
    rw [BitVec.toNat_and, BitVec.toNat_ofNat, BitVec.toNat_ofNat]
    have e : 1 % 2 ^ 32 = 2 ^ 1 - 1 := by decide
    rw [e, Nat.and_two_pow_sub_one_eq_mod]
    omega
  rw [hz]
  rcases Nat.mod_two_eq_zero_or_one z.toBitVec.toNat with h | h
  · left; rw [h]; rfl
  · right; rw [h]; rfl
theorem bt_ne {x : Int32} {i : Nat} : ¬ bt x i = 0 ↔ bt x i = 1 := by
  rcases bt01 x i with h | h
  · rw [h]; decide
  · rw [h]; decide
theorem deepest_37 {y : Lay} (hy : LY y) {M : Mem} {w h : Nat} (g : GEO w h (M.1 4 0) (M.1 4 1)) : f_X8_deepest y 37 M = some (enc (deP (M.1 37 7) (M.1 38) (w * h))) := by
  unfold f_X8_deepest
  have h30 := g.n30
  simp only [lT_s, jn_s, c0_s, cp_s, cx_s, cx_t, gK_t (k_37 hy), gN_t (r := 37) (by decide), r_37_0 hy, r_37_1 hy, r_37_2 hy, r_37_3 hy, r_37_4 hy, r_37_5 hy, r_37_6 hy, gK_t (k_4 hy), gN_t (r := 4) (by decide), r_4_6 hy, r_4_7 hy, r_4_8 hy, cells_4 hy g, isPegged_g (k_37 hy)]
  refine wp_eq ?_
  refine wp_for2 (i0 := 0) (w * h) (fun i s => s = enc (deP (M.1 37 7) (M.1 38) i)) (by have : FUEL = 100000 := rfl; omega) rfl (by omega) rfl ?_ ?_
  · intro f i s hi hI hk
    subst hI
    refine wp_brf (by rw [n2_le (by omega) (by omega)]; omega) ?_
    have hlt := deP_lt (M.1 37 7) (M.1 38) i
    have hstep : deP (M.1 37 7) (M.1 38) (i + 1) = deF (M.1 37 7) (M.1 38) i (deP (M.1 37 7) (M.1 38) i) := rfl
    generalize deP (M.1 37 7) (M.1 38) i = o at hlt hstep hk ⊢
    simp only [n2_s]
    by_cases hb : ((M.1 37 7 >>> (n2 i &&& 31)) &&& 1) = 0
    · have hb' : bt (M.1 37 7) i = 0 := hb
      rw [if_pos hb]
      refine wp_brt rfl ?_
      cases o with
      | none =>
        refine wp_brt rfl (hk _ ?_)
        rw [hstep]
        unfold deF
        rw [if_pos hb']
        rfl
      | some j =>
        have hj := hlt j rfl
        refine wp_brf (fun e => by cases (enc_m1 (fun k hk => by have := hlt k hk; omega)).mp e) ?_
        show wp (cp (f_X8_blueOf y 37 (n2 i) M) fun r21 => cp (f_X8_blueOf y 37 (n2 j) M) _) _
        rw [blueOf_37 hy (by omega), blueOf_37 hy (by omega)]
        simp only [cp_s]
        unfold deF at hstep
        rw [if_pos hb'] at hstep
        dsimp only at hstep
        refine wp_br (fun q => hk _ ?_) (fun q => hk _ ?_)
        · rw [hstep, if_pos q]
        · rw [hstep, if_neg q]; rfl
    · have hb' : ¬ bt (M.1 37 7) i = 0 := hb
      rw [if_neg hb]
      refine wp_brf (by decide) (hk _ ?_)
      rw [hstep]
      unfold deF
      rw [if_neg hb']
  · intro f s hI
    subst hI
    exact wp_brt (Int32.le_refl _) (wp_some rfl)
theorem palest_37 {y : Lay} (hy : LY y) {M : Mem} {w h : Nat} (g : GEO w h (M.1 4 0) (M.1 4 1)) : f_X8_palest y 37 M = some (enc (paP (M.1 37 7) (M.1 38) (w * h))) := by
  unfold f_X8_palest
  have h30 := g.n30
  simp only [lT_s, jn_s, c0_s, cp_s, cx_s, cx_t, gK_t (k_37 hy), gN_t (r := 37) (by decide), r_37_0 hy, r_37_1 hy, r_37_2 hy, r_37_3 hy, r_37_4 hy, r_37_5 hy, r_37_6 hy, gK_t (k_4 hy), gN_t (r := 4) (by decide), r_4_6 hy, r_4_7 hy, r_4_8 hy, cells_4 hy g, isPegged_g (k_37 hy)]
  refine wp_eq ?_
  refine wp_for2 (i0 := 0) (w * h) (fun i s => s = enc (paP (M.1 37 7) (M.1 38) i)) (by have : FUEL = 100000 := rfl; omega) rfl (by omega) rfl ?_ ?_
  · intro f i s hi hI hk
    subst hI
    refine wp_brf (by rw [n2_le (by omega) (by omega)]; omega) ?_
    have hlt := paP_lt (M.1 37 7) (M.1 38) i
    have hstep : paP (M.1 37 7) (M.1 38) (i + 1) = paF (M.1 37 7) (M.1 38) i (paP (M.1 37 7) (M.1 38) i) := rfl
    generalize paP (M.1 37 7) (M.1 38) i = o at hlt hstep hk ⊢
    simp only [n2_s]
    by_cases hb : ((M.1 37 7 >>> (n2 i &&& 31)) &&& 1) = 0
    · have hb' : bt (M.1 37 7) i = 0 := hb
      rw [if_pos hb]
      refine wp_brt rfl ?_
      cases o with
      | none =>
        refine wp_brt rfl (hk _ ?_)
        rw [hstep]
        unfold paF
        rw [if_pos hb']
        rfl
      | some j =>
        have hj := hlt j rfl
        refine wp_brf (fun e => by cases (enc_m1 (fun k hk => by have := hlt k hk; omega)).mp e) ?_
        show wp (cp (f_X8_blueOf y 37 (n2 i) M) fun r21 => cp (f_X8_blueOf y 37 (n2 j) M) _) _
        rw [blueOf_37 hy (by omega), blueOf_37 hy (by omega)]
        simp only [cp_s]
        unfold paF at hstep
        rw [if_pos hb'] at hstep
        dsimp only at hstep
        refine wp_br (fun q => hk _ ?_) (fun q => hk _ ?_)
        · rw [hstep, if_pos q]
        · rw [hstep, if_neg q]; rfl
    · have hb' : ¬ bt (M.1 37 7) i = 0 := hb
      rw [if_neg hb]
      refine wp_brf (by decide) (hk _ ?_)
      rw [hstep]
      unfold paF
      rw [if_neg hb']
  · intro f s hI
    subst hI
    exact wp_brt (Int32.le_refl _) (wp_some rfl)
theorem uneven_37 {y : Lay} (hy : LY y) {M : Mem} {w h : Nat} (g : GEO w h (M.1 4 0) (M.1 4 1)) : f_X8_uneven y 37 M = some (unP (M.1 37 7) (M.1 38) (w * h)) := by
  have h30 := g.n30
  unfold f_X8_uneven unP
  have h1 := deP_lt (M.1 37 7) (M.1 38) (w * h)
  have h2 := paP_lt (M.1 37 7) (M.1 38) (w * h)
  have h3 := paP_none (M.1 37 7) (M.1 38) (w * h)
  simp only [lT_s, jn_s, c0_s, cp_s, cx_s, cx_t, gK_t (k_37 hy), gN_t (r := 37) (by decide), r_37_0 hy, r_37_1 hy, r_37_2 hy, r_37_3 hy, r_37_4 hy, r_37_5 hy, r_37_6 hy, deepest_37 hy g, palest_37 hy g]
  generalize deP (M.1 37 7) (M.1 38) (w * h) = o at h1 h3 ⊢
  generalize paP (M.1 37 7) (M.1 38) (w * h) = q at h2 h3 ⊢
  cases o with
  | none => rw [h3.mpr rfl]; exact bR_t rfl
  | some a =>
    cases q with
    | none => cases h3.mp rfl
    | some b =>
      have := h1 a rfl
      have := h2 b rfl
      rw [bR_f (fun e => by cases (enc_m1 (fun k hk => by have := h1 k hk; omega)).mp e)]
      show cp (f_X8_blueOf y 37 (n2 a) M) _ = _
      rw [blueOf_37 hy (by omega)]
      show cp (f_X8_blueOf y 37 (n2 b) M) _ = _
      rw [blueOf_37 hy (by omega)]
      rfl
def abF_38 : Unit := ()
theorem allBlue_37 {y : Lay} (hy : LY y) {M : Mem} : f_X8_allBlue y 37 M = some (it (fun k a => a + M.1 38 k) 0 30) := by
  unfold f_X8_allBlue
  simp only [lT_s, jn_s, c0_s, cp_s, cx_s, cx_t, gK_t (k_37 hy), gN_t (r := 37) (by decide), r_37_0 hy, r_37_1 hy, r_37_2 hy, r_37_3 hy, r_37_4 hy, r_37_5 hy, r_37_6 hy, gN_t (r := 38) (by decide)]
  refine wp_eq ?_
  refine wp_for2 (i0 := 0) 30 (fun i s => s = it (fun k a => a + M.1 38 k) 0 i) (by decide) rfl (by omega) rfl ?_ ?_
  · intro f i s hi hI hk
    subst hI
    refine wp_brf (nle_l (m := 30) rfl hi (by omega)) ?_
    rw [gA_n (k_38 hy) hi (by omega)]
    simp only [n2_nat (show i < 2147483648 by omega), n2_s]
    exact hk _ rfl
  · intro f s hI
    subst hI
    exact wp_brt (le_l (m := 30) rfl (by omega) (by omega)) (wp_some rfl)
theorem deepest_58 {y : Lay} (hy : LY y) {M : Mem} {w h : Nat} (g : GEO w h (M.1 4 0) (M.1 4 1)) : f_X8_deepest y 58 M = some (enc (deP (M.1 58 7) (M.1 59) (w * h))) := by
  unfold f_X8_deepest
  have h30 := g.n30
  simp only [lT_s, jn_s, c0_s, cp_s, cx_s, cx_t, gK_t (k_58 hy), gN_t (r := 58) (by decide), r_58_0 hy, r_58_1 hy, r_58_2 hy, r_58_3 hy, r_58_4 hy, r_58_5 hy, r_58_6 hy, gK_t (k_4 hy), gN_t (r := 4) (by decide), r_4_6 hy, r_4_7 hy, r_4_8 hy, cells_4 hy g, isPegged_g (k_58 hy)]
  refine wp_eq ?_
  refine wp_for2 (i0 := 0) (w * h) (fun i s => s = enc (deP (M.1 58 7) (M.1 59) i)) (by have : FUEL = 100000 := rfl; omega) rfl (by omega) rfl ?_ ?_
  · intro f i s hi hI hk
    subst hI
    refine wp_brf (by rw [n2_le (by omega) (by omega)]; omega) ?_
    have hlt := deP_lt (M.1 58 7) (M.1 59) i
    have hstep : deP (M.1 58 7) (M.1 59) (i + 1) = deF (M.1 58 7) (M.1 59) i (deP (M.1 58 7) (M.1 59) i) := rfl
    generalize deP (M.1 58 7) (M.1 59) i = o at hlt hstep hk ⊢
    simp only [n2_s]
    by_cases hb : ((M.1 58 7 >>> (n2 i &&& 31)) &&& 1) = 0
    · have hb' : bt (M.1 58 7) i = 0 := hb
      rw [if_pos hb]
      refine wp_brt rfl ?_
      cases o with
      | none =>
        refine wp_brt rfl (hk _ ?_)
        rw [hstep]
        unfold deF
        rw [if_pos hb']
        rfl
      | some j =>
        have hj := hlt j rfl
        refine wp_brf (fun e => by cases (enc_m1 (fun k hk => by have := hlt k hk; omega)).mp e) ?_
        show wp (cp (f_X8_blueOf y 58 (n2 i) M) fun r21 => cp (f_X8_blueOf y 58 (n2 j) M) _) _
        rw [blueOf_58 hy (by omega), blueOf_58 hy (by omega)]
        simp only [cp_s]
        unfold deF at hstep
        rw [if_pos hb'] at hstep
        dsimp only at hstep
        refine wp_br (fun q => hk _ ?_) (fun q => hk _ ?_)
        · rw [hstep, if_pos q]
        · rw [hstep, if_neg q]; rfl
    · have hb' : ¬ bt (M.1 58 7) i = 0 := hb
      rw [if_neg hb]
      refine wp_brf (by decide) (hk _ ?_)
      rw [hstep]
      unfold deF
      rw [if_neg hb']
  · intro f s hI
    subst hI
    exact wp_brt (Int32.le_refl _) (wp_some rfl)
theorem palest_58 {y : Lay} (hy : LY y) {M : Mem} {w h : Nat} (g : GEO w h (M.1 4 0) (M.1 4 1)) : f_X8_palest y 58 M = some (enc (paP (M.1 58 7) (M.1 59) (w * h))) := by
  unfold f_X8_palest
  have h30 := g.n30
  simp only [lT_s, jn_s, c0_s, cp_s, cx_s, cx_t, gK_t (k_58 hy), gN_t (r := 58) (by decide), r_58_0 hy, r_58_1 hy, r_58_2 hy, r_58_3 hy, r_58_4 hy, r_58_5 hy, r_58_6 hy, gK_t (k_4 hy), gN_t (r := 4) (by decide), r_4_6 hy, r_4_7 hy, r_4_8 hy, cells_4 hy g, isPegged_g (k_58 hy)]
  refine wp_eq ?_
  refine wp_for2 (i0 := 0) (w * h) (fun i s => s = enc (paP (M.1 58 7) (M.1 59) i)) (by have : FUEL = 100000 := rfl; omega) rfl (by omega) rfl ?_ ?_
  · intro f i s hi hI hk
    subst hI
    refine wp_brf (by rw [n2_le (by omega) (by omega)]; omega) ?_
    have hlt := paP_lt (M.1 58 7) (M.1 59) i
    have hstep : paP (M.1 58 7) (M.1 59) (i + 1) = paF (M.1 58 7) (M.1 59) i (paP (M.1 58 7) (M.1 59) i) := rfl
    generalize paP (M.1 58 7) (M.1 59) i = o at hlt hstep hk ⊢
    simp only [n2_s]
    by_cases hb : ((M.1 58 7 >>> (n2 i &&& 31)) &&& 1) = 0
    · have hb' : bt (M.1 58 7) i = 0 := hb
      rw [if_pos hb]
      refine wp_brt rfl ?_
      cases o with
      | none =>
        refine wp_brt rfl (hk _ ?_)
        rw [hstep]
        unfold paF
        rw [if_pos hb']
        rfl
      | some j =>
        have hj := hlt j rfl
        refine wp_brf (fun e => by cases (enc_m1 (fun k hk => by have := hlt k hk; omega)).mp e) ?_
        show wp (cp (f_X8_blueOf y 58 (n2 i) M) fun r21 => cp (f_X8_blueOf y 58 (n2 j) M) _) _
        rw [blueOf_58 hy (by omega), blueOf_58 hy (by omega)]
        simp only [cp_s]
        unfold paF at hstep
        rw [if_pos hb'] at hstep
        dsimp only at hstep
        refine wp_br (fun q => hk _ ?_) (fun q => hk _ ?_)
        · rw [hstep, if_pos q]
        · rw [hstep, if_neg q]; rfl
    · have hb' : ¬ bt (M.1 58 7) i = 0 := hb
      rw [if_neg hb]
      refine wp_brf (by decide) (hk _ ?_)
      rw [hstep]
      unfold paF
      rw [if_neg hb']
  · intro f s hI
    subst hI
    exact wp_brt (Int32.le_refl _) (wp_some rfl)
theorem uneven_58 {y : Lay} (hy : LY y) {M : Mem} {w h : Nat} (g : GEO w h (M.1 4 0) (M.1 4 1)) : f_X8_uneven y 58 M = some (unP (M.1 58 7) (M.1 59) (w * h)) := by
  have h30 := g.n30
  unfold f_X8_uneven unP
  have h1 := deP_lt (M.1 58 7) (M.1 59) (w * h)
  have h2 := paP_lt (M.1 58 7) (M.1 59) (w * h)
  have h3 := paP_none (M.1 58 7) (M.1 59) (w * h)
  simp only [lT_s, jn_s, c0_s, cp_s, cx_s, cx_t, gK_t (k_58 hy), gN_t (r := 58) (by decide), r_58_0 hy, r_58_1 hy, r_58_2 hy, r_58_3 hy, r_58_4 hy, r_58_5 hy, r_58_6 hy, deepest_58 hy g, palest_58 hy g]
  generalize deP (M.1 58 7) (M.1 59) (w * h) = o at h1 h3 ⊢
  generalize paP (M.1 58 7) (M.1 59) (w * h) = q at h2 h3 ⊢
  cases o with
  | none => rw [h3.mpr rfl]; exact bR_t rfl
  | some a =>
    cases q with
    | none => cases h3.mp rfl
    | some b =>
      have := h1 a rfl
      have := h2 b rfl
      rw [bR_f (fun e => by cases (enc_m1 (fun k hk => by have := h1 k hk; omega)).mp e)]
      show cp (f_X8_blueOf y 58 (n2 a) M) _ = _
      rw [blueOf_58 hy (by omega)]
      show cp (f_X8_blueOf y 58 (n2 b) M) _ = _
      rw [blueOf_58 hy (by omega)]
      rfl
def abF_59 : Unit := ()
theorem allBlue_58 {y : Lay} (hy : LY y) {M : Mem} : f_X8_allBlue y 58 M = some (it (fun k a => a + M.1 59 k) 0 30) := by
  unfold f_X8_allBlue
  simp only [lT_s, jn_s, c0_s, cp_s, cx_s, cx_t, gK_t (k_58 hy), gN_t (r := 58) (by decide), r_58_0 hy, r_58_1 hy, r_58_2 hy, r_58_3 hy, r_58_4 hy, r_58_5 hy, r_58_6 hy, gN_t (r := 59) (by decide)]
  refine wp_eq ?_
  refine wp_for2 (i0 := 0) 30 (fun i s => s = it (fun k a => a + M.1 59 k) 0 i) (by decide) rfl (by omega) rfl ?_ ?_
  · intro f i s hi hI hk
    subst hI
    refine wp_brf (nle_l (m := 30) rfl hi (by omega)) ?_
    rw [gA_n (k_59 hy) hi (by omega)]
    simp only [n2_nat (show i < 2147483648 by omega), n2_s]
    exact hk _ rfl
  · intro f s hI
    subst hI
    exact wp_brt (le_l (m := 30) rfl (by omega) (by omega)) (wp_some rfl)
theorem extreme_1 {y : Lay} (hy : LY y) {M : Mem} {w h : Nat} (g : GEO w h (M.1 77 0) (M.1 77 1)) : f_X12_extreme y 73 1 M = some (enc (deP (M.1 73 34) (M.1 87) (w * h))) := by
  unfold f_X12_extreme
  have h30 := g.n30
  simp only [lT_s, jn_s, c0_s, cp_s, cx_s, cx_t, gK_t (k_73 hy), gN_t (r := 73) (by decide), r_73_0 hy, r_73_1 hy, r_73_2 hy, r_73_5 hy, r_73_6 hy, r_73_7 hy, r_73_8 hy, r_73_9 hy, r_73_10 hy, r_73_11 hy, r_73_12 hy, r_73_13 hy, r_73_14 hy, r_73_28 hy, r_73_29 hy, r_73_30 hy, r_73_38 hy, r_73_39 hy, r_73_40 hy, r_73_42 hy, r_73_43 hy, r_73_44 hy, r_73_45 hy, r_73_46 hy, r_73_47 hy, r_73_48 hy, r_73_49 hy, r_73_50 hy, r_73_51 hy, r_73_53 hy, r_73_58 hy, r_73_59 hy, r_73_60 hy, r_73_61 hy, r_73_62 hy, r_73_63 hy, gN_t (r := 87) (by decide), cellsG hy g]
  refine wp_eq ?_
  refine wp_for2 (i0 := 0) (w * h) (fun i s => s = enc (deP (M.1 73 34) (M.1 87) i)) (by have : FUEL = 100000 := rfl; omega) rfl (by omega) rfl ?_ ?_
  · intro f i s hi hI hk
    subst hI
    refine wp_brf (by rw [n2_le (by omega) (by omega)]; omega) ?_
    have hlt := deP_lt (M.1 73 34) (M.1 87) i
    have hstep : deP (M.1 73 34) (M.1 87) (i + 1) = deF (M.1 73 34) (M.1 87) i (deP (M.1 73 34) (M.1 87) i) := rfl
    generalize deP (M.1 73 34) (M.1 87) i = o at hlt hstep hk ⊢
    rw [isOf_s]
    simp only [n2_s, cp_s]
    by_cases hb : bt (M.1 73 34) i = 0
    · rw [if_neg (by rw [hb]; decide)]
      refine wp_brt rfl ?_
      cases o with
      | none =>
        refine wp_brt rfl (hk _ ?_)
        rw [hstep]
        unfold deF
        rw [if_pos hb]
        rfl
      | some j =>
        have hj := hlt j rfl
        refine wp_brf (fun e => by cases (enc_m1 (fun k hk => by have := hlt k hk; omega)).mp e) ?_
        refine wp_brf (by decide) ?_
        show wp (gA y 87 1 (n2 i) (gA y 87 1 (n2 j) (br (M.1 87 (n2 i).toNatClampNeg ≤ M.1 87 (n2 j).toNatClampNeg) _ _))) _
        rw [gA_n (k_87 hy) (by omega) (by omega), gA_n (k_87 hy) (by omega) (by omega), n2_nat (by omega), n2_nat (by omega)]
        unfold deF at hstep
        rw [if_pos hb] at hstep
        dsimp only at hstep
        refine wp_br (fun q => hk _ ?_) (fun q => hk _ ?_)
        · rw [hstep, if_pos q]
        · rw [hstep, if_neg q]; rfl
    · rw [if_pos (bt_ne.mp hb)]
      refine wp_brf (by decide) (hk _ ?_)
      rw [hstep]
      unfold deF
      rw [if_neg hb]
  · intro f s hI
    subst hI
    exact wp_brt (Int32.le_refl _) (wp_some rfl)
theorem extreme_0 {y : Lay} (hy : LY y) {M : Mem} {w h : Nat} (g : GEO w h (M.1 77 0) (M.1 77 1)) : f_X12_extreme y 73 0 M = some (enc (paP (M.1 73 34) (M.1 87) (w * h))) := by
  unfold f_X12_extreme
  have h30 := g.n30
  simp only [lT_s, jn_s, c0_s, cp_s, cx_s, cx_t, gK_t (k_73 hy), gN_t (r := 73) (by decide), r_73_0 hy, r_73_1 hy, r_73_2 hy, r_73_5 hy, r_73_6 hy, r_73_7 hy, r_73_8 hy, r_73_9 hy, r_73_10 hy, r_73_11 hy, r_73_12 hy, r_73_13 hy, r_73_14 hy, r_73_28 hy, r_73_29 hy, r_73_30 hy, r_73_38 hy, r_73_39 hy, r_73_40 hy, r_73_42 hy, r_73_43 hy, r_73_44 hy, r_73_45 hy, r_73_46 hy, r_73_47 hy, r_73_48 hy, r_73_49 hy, r_73_50 hy, r_73_51 hy, r_73_53 hy, r_73_58 hy, r_73_59 hy, r_73_60 hy, r_73_61 hy, r_73_62 hy, r_73_63 hy, gN_t (r := 87) (by decide), cellsG hy g]
  refine wp_eq ?_
  refine wp_for2 (i0 := 0) (w * h) (fun i s => s = enc (paP (M.1 73 34) (M.1 87) i)) (by have : FUEL = 100000 := rfl; omega) rfl (by omega) rfl ?_ ?_
  · intro f i s hi hI hk
    subst hI
    refine wp_brf (by rw [n2_le (by omega) (by omega)]; omega) ?_
    have hlt := paP_lt (M.1 73 34) (M.1 87) i
    have hstep : paP (M.1 73 34) (M.1 87) (i + 1) = paF (M.1 73 34) (M.1 87) i (paP (M.1 73 34) (M.1 87) i) := rfl
    generalize paP (M.1 73 34) (M.1 87) i = o at hlt hstep hk ⊢
    rw [isOf_s]
    simp only [n2_s, cp_s]
    by_cases hb : bt (M.1 73 34) i = 0
    · rw [if_neg (by rw [hb]; decide)]
      refine wp_brt rfl ?_
      cases o with
      | none =>
        refine wp_brt rfl (hk _ ?_)
        rw [hstep]
        unfold paF
        rw [if_pos hb]
        rfl
      | some j =>
        have hj := hlt j rfl
        refine wp_brf (fun e => by cases (enc_m1 (fun k hk => by have := hlt k hk; omega)).mp e) ?_
        refine wp_brt trivial ?_
        show wp (gA y 87 1 (n2 i) (gA y 87 1 (n2 j) (br (M.1 87 (n2 j).toNatClampNeg ≤ M.1 87 (n2 i).toNatClampNeg) _ _))) _
        rw [gA_n (k_87 hy) (by omega) (by omega), gA_n (k_87 hy) (by omega) (by omega), n2_nat (by omega), n2_nat (by omega)]
        unfold paF at hstep
        rw [if_pos hb] at hstep
        dsimp only at hstep
        refine wp_br (fun q => hk _ ?_) (fun q => hk _ ?_)
        · rw [hstep, if_pos q]
        · rw [hstep, if_neg q]; rfl
    · rw [if_pos (bt_ne.mp hb)]
      refine wp_brf (by decide) (hk _ ?_)
      rw [hstep]
      unfold paF
      rw [if_neg hb]
  · intro f s hI
    subst hI
    exact wp_brt (Int32.le_refl _) (wp_some rfl)
theorem unevenM {y : Lay} (hy : LY y) {M : Mem} {w h : Nat} (g : GEO w h (M.1 77 0) (M.1 77 1)) : f_X12_uneven y 73 M = some (unP (M.1 73 34) (M.1 87) (w * h)) := by
  have h30 := g.n30
  unfold f_X12_uneven unP
  have h1 := deP_lt (M.1 73 34) (M.1 87) (w * h)
  have h2 := paP_lt (M.1 73 34) (M.1 87) (w * h)
  have h3 := paP_none (M.1 73 34) (M.1 87) (w * h)
  simp only [lT_s, jn_s, c0_s, cp_s, cx_s, cx_t, gK_t (k_73 hy), gN_t (r := 73) (by decide), r_73_0 hy, r_73_1 hy, r_73_2 hy, r_73_5 hy, r_73_6 hy, r_73_7 hy, r_73_8 hy, r_73_9 hy, r_73_10 hy, r_73_11 hy, r_73_12 hy, r_73_13 hy, r_73_14 hy, r_73_28 hy, r_73_29 hy, r_73_30 hy, r_73_38 hy, r_73_39 hy, r_73_40 hy, r_73_42 hy, r_73_43 hy, r_73_44 hy, r_73_45 hy, r_73_46 hy, r_73_47 hy, r_73_48 hy, r_73_49 hy, r_73_50 hy, r_73_51 hy, r_73_53 hy, r_73_58 hy, r_73_59 hy, r_73_60 hy, r_73_61 hy, r_73_62 hy, r_73_63 hy, gN_t (r := 87) (by decide), extreme_1 hy g, extreme_0 hy g]
  generalize deP (M.1 73 34) (M.1 87) (w * h) = o at h1 h3 ⊢
  generalize paP (M.1 73 34) (M.1 87) (w * h) = q at h2 h3 ⊢
  cases o with
  | none => rw [h3.mpr rfl]; exact bR_t rfl
  | some a =>
    cases q with
    | none => cases h3.mp rfl
    | some b =>
      have := h1 a rfl
      have := h2 b rfl
      rw [bR_f (fun e => by cases (enc_m1 (fun k hk => by have := h1 k hk; omega)).mp e)]
      show gA y 87 1 (n2 a) (gA y 87 1 (n2 b) (some (M.1 87 (n2 a).toNatClampNeg - M.1 87 (n2 b).toNatClampNeg))) = _
      rw [gA_n (k_87 hy) (by omega) (by omega), gA_n (k_87 hy) (by omega) (by omega), n2_nat (by omega), n2_nat (by omega)]
theorem allBlueM {y : Lay} (hy : LY y) {M : Mem} {w h : Nat} (g : GEO w h (M.1 77 0) (M.1 77 1)) : f_X12_allBlue y 73 M = some (it (fun k a => a + M.1 87 k) 0 (w * h)) := by
  unfold f_X12_allBlue
  have h30 := g.n30
  simp only [lT_s, jn_s, c0_s, cp_s, cx_s, cx_t, gK_t (k_73 hy), gN_t (r := 73) (by decide), r_73_0 hy, r_73_1 hy, r_73_2 hy, r_73_5 hy, r_73_6 hy, r_73_7 hy, r_73_8 hy, r_73_9 hy, r_73_10 hy, r_73_11 hy, r_73_12 hy, r_73_13 hy, r_73_14 hy, r_73_28 hy, r_73_29 hy, r_73_30 hy, r_73_38 hy, r_73_39 hy, r_73_40 hy, r_73_42 hy, r_73_43 hy, r_73_44 hy, r_73_45 hy, r_73_46 hy, r_73_47 hy, r_73_48 hy, r_73_49 hy, r_73_50 hy, r_73_51 hy, r_73_53 hy, r_73_58 hy, r_73_59 hy, r_73_60 hy, r_73_61 hy, r_73_62 hy, r_73_63 hy, gN_t (r := 87) (by decide), cellsG hy g]
  refine wp_eq ?_
  refine wp_for2 (i0 := 0) (w * h) (fun i s => s = it (fun k a => a + M.1 87 k) 0 i) (by have : FUEL = 100000 := rfl; omega) rfl (by omega) rfl ?_ ?_
  · intro f i s hi hI hk
    subst hI
    refine wp_brf (by rw [n2_le (by omega) (by omega)]; omega) ?_
    rw [gA_n (k_87 hy) (by omega) (by omega)]
    simp only [n2_nat (show i < 2147483648 by omega), n2_s]
    exact hk _ rfl
  · intro f s hI
    subst hI
    exact wp_brt (Int32.le_refl _) (wp_some rfl)
theorem abs_eq {n : Nat} {B : Row} (h : BOK n B) (hn : n ≤ 30) : it (fun k a => a + B k) 0 30 = it (fun k a => a + B k) 0 n := by
  have key : ∀ j, it (fun k a => a + B k) (0 : Int32) (n + j) = it (fun k a => a + B k) 0 n := by
    intro j
    induction j with
    | zero => rfl
    | succ j ih =>
      show it (fun k a => a + B k) 0 (n + j) + B (n + j) = _
      rw [ih, h.2 (n + j) (by omega)]
      exact Int32.add_zero _
  rw [← key (30 - n), show n + (30 - n) = 30 by omega]
