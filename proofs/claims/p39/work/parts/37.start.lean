/-! ===== the law's start ===== -/
section STR
variable {args : Array Value} {s : State} {A : Nat → Prop}
def st_t (own : String) (idx : Nat) : Term := .string own idx
def st_v (own : String) (idx : Nat) : Term := .field (.string own idx) "java/lang/String" "value" "[B"
theorem str_of {own tx : String} {idx : Nat} {bl : List Int32} (hn : bl.length < 2 ^ 31) (h1 : (Cond.exactly (st_t own idx) "java/lang/String").before args s = true) (h2 : (Cond.eq (.field (st_t own idx) "java/lang/String" "coder" "B") (.int 0)).before args s = true) (h3 : (Cond.arrayOf (st_v own idx) .byte).before args s = true) (h4 : (Cond.eq (.length (st_v own idx)) (.int (Int32.ofNat bl.length))).before args s = true) (h5 : ∀ j, j < bl.length → (Cond.eq (.elem (st_v own idx) (.int (Int32.ofNat j))) (.int (bl.getD j 0))).before args s = true) (h6 : (Cond.stringRef own idx tx).before args s = true) (hA : ∀ a : Nat, a < s.heap.size → ¬ A a) :
    ∃ q : Nat × Nat, va_O "java/lang/String" q.1 A s s.heap ∧ va_OF "java/lang/String" "coder" "B" (.int 0) q.1 A s s.heap ∧ va_OF "java/lang/String" "value" "[B" (.ref q.2) q.1 A s s.heap ∧ va_T .byte q.2 bl.length (fun j => .int (bl.getD j 0)) A s s.heap ∧ vk_R own idx tx q.1 s := by
  obtain ⟨a, cA, cc, kA, q1, -⟩ := Cond.exactly_spec (args := args) (first := s) (o := none) (s := s) (idx := []) (t := st_t own idx) (cls := "java/lang/String") h1
  obtain ⟨t, e2, hT⟩ := va_Tof (args := args) (A := A) (f := fun j => .int (bl.getD j 0)) hn h3 (va_eqt h4) (fun j hj => va_eqt (h5 j hj)) hA
  have hR : (Term.string own idx).eval args s none [] s = some (.ref a) := q1
  have hR0 : (Term.string own idx).eval #[] s none [] s = some (.ref a) := by rw [← hR]; rfl
  exact ⟨(a, t), va_Oof h1 q1 hA, vk_OFof q1 (va_eqt h2) hA, vk_OFof q1 e2 hA, hT, ⟨h6, hR⟩⟩
end STR

def nwS_0 : List Cond := [.exactly (.string "BlueBag$CoastReader" 80) "java/lang/String", .eq (.field (.string "BlueBag$CoastReader" 80) "java/lang/String" "coder" "B") (.int 0), .arrayOf (.field (.string "BlueBag$CoastReader" 80) "java/lang/String" "value" "[B") .byte, .eq (.length (.field (.string "BlueBag$CoastReader" 80) "java/lang/String" "value" "[B")) (.int 3), .eq (.elem (.field (.string "BlueBag$CoastReader" 80) "java/lang/String" "value" "[B") (.int 0)) (.int 115), .eq (.elem (.field (.string "BlueBag$CoastReader" 80) "java/lang/String" "value" "[B") (.int 1)) (.int 107), .eq (.elem (.field (.string "BlueBag$CoastReader" 80) "java/lang/String" "value" "[B") (.int 2)) (.int 121), .exactly (.string "BlueBag$CoastReader" 89) "java/lang/String", .eq (.field (.string "BlueBag$CoastReader" 89) "java/lang/String" "coder" "B") (.int 0), .arrayOf (.field (.string "BlueBag$CoastReader" 89) "java/lang/String" "value" "[B") .byte, .eq (.length (.field (.string "BlueBag$CoastReader" 89) "java/lang/String" "value" "[B")) (.int 4), .eq (.elem (.field (.string "BlueBag$CoastReader" 89) "java/lang/String" "value" "[B") (.int 0)) (.int 98), .eq (.elem (.field (.string "BlueBag$CoastReader" 89) "java/lang/String" "value" "[B") (.int 1)) (.int 108), .eq (.elem (.field (.string "BlueBag$CoastReader" 89) "java/lang/String" "value" "[B") (.int 2)) (.int 117), .eq (.elem (.field (.string "BlueBag$CoastReader" 89) "java/lang/String" "value" "[B") (.int 3)) (.int 101), .exactly (.string "BlueBag$CoastReader" 94) "java/lang/String", .eq (.field (.string "BlueBag$CoastReader" 94) "java/lang/String" "coder" "B") (.int 0), .arrayOf (.field (.string "BlueBag$CoastReader" 94) "java/lang/String" "value" "[B") .byte, .eq (.length (.field (.string "BlueBag$CoastReader" 94) "java/lang/String" "value" "[B")) (.int 4), .eq (.elem (.field (.string "BlueBag$CoastReader" 94) "java/lang/String" "value" "[B") (.int 0)) (.int 103), .eq (.elem (.field (.string "BlueBag$CoastReader" 94) "java/lang/String" "value" "[B") (.int 1)) (.int 105), .eq (.elem (.field (.string "BlueBag$CoastReader" 94) "java/lang/String" "value" "[B") (.int 2)) (.int 114), .eq (.elem (.field (.string "BlueBag$CoastReader" 94) "java/lang/String" "value" "[B") (.int 3)) (.int 108), .exactly (.string "BlueBag$CoastReader" 100) "java/lang/String", .eq (.field (.string "BlueBag$CoastReader" 100) "java/lang/String" "coder" "B") (.int 0), .arrayOf (.field (.string "BlueBag$CoastReader" 100) "java/lang/String" "value" "[B") .byte, .eq (.length (.field (.string "BlueBag$CoastReader" 100) "java/lang/String" "value" "[B")) (.int 3), .eq (.elem (.field (.string "BlueBag$CoastReader" 100) "java/lang/String" "value" "[B") (.int 0)) (.int 111), .eq (.elem (.field (.string "BlueBag$CoastReader" 100) "java/lang/String" "value" "[B") (.int 1)) (.int 108), .eq (.elem (.field (.string "BlueBag$CoastReader" 100) "java/lang/String" "value" "[B") (.int 2)) (.int 100), .exactly (.string "BlueBag$CoastReader" 102) "java/lang/String", .eq (.field (.string "BlueBag$CoastReader" 102) "java/lang/String" "coder" "B") (.int 0), .arrayOf (.field (.string "BlueBag$CoastReader" 102) "java/lang/String" "value" "[B") .byte, .eq (.length (.field (.string "BlueBag$CoastReader" 102) "java/lang/String" "value" "[B")) (.int 3), .eq (.elem (.field (.string "BlueBag$CoastReader" 102) "java/lang/String" "value" "[B") (.int 0)) (.int 112), .eq (.elem (.field (.string "BlueBag$CoastReader" 102) "java/lang/String" "value" "[B") (.int 1)) (.int 101), .eq (.elem (.field (.string "BlueBag$CoastReader" 102) "java/lang/String" "value" "[B") (.int 2)) (.int 103), .exactly (.string "BlueBag$CoastReader" 107) "java/lang/String", .eq (.field (.string "BlueBag$CoastReader" 107) "java/lang/String" "coder" "B") (.int 0), .arrayOf (.field (.string "BlueBag$CoastReader" 107) "java/lang/String" "value" "[B") .byte, .eq (.length (.field (.string "BlueBag$CoastReader" 107) "java/lang/String" "value" "[B")) (.int 5), .eq (.elem (.field (.string "BlueBag$CoastReader" 107) "java/lang/String" "value" "[B") (.int 0)) (.int 107), .eq (.elem (.field (.string "BlueBag$CoastReader" 107) "java/lang/String" "value" "[B") (.int 1)) (.int 110), .eq (.elem (.field (.string "BlueBag$CoastReader" 107) "java/lang/String" "value" "[B") (.int 2)) (.int 111), .eq (.elem (.field (.string "BlueBag$CoastReader" 107) "java/lang/String" "value" "[B") (.int 3)) (.int 98), .eq (.elem (.field (.string "BlueBag$CoastReader" 107) "java/lang/String" "value" "[B") (.int 4)) (.int 115), .exactly (.string "BlueBag$CoastReader" 112) "java/lang/String", .eq (.field (.string "BlueBag$CoastReader" 112) "java/lang/String" "coder" "B") (.int 0), .arrayOf (.field (.string "BlueBag$CoastReader" 112) "java/lang/String" "value" "[B") .byte, .eq (.length (.field (.string "BlueBag$CoastReader" 112) "java/lang/String" "value" "[B")) (.int 5), .eq (.elem (.field (.string "BlueBag$CoastReader" 112) "java/lang/String" "value" "[B") (.int 0)) (.int 114), .eq (.elem (.field (.string "BlueBag$CoastReader" 112) "java/lang/String" "value" "[B") (.int 1)) (.int 105), .eq (.elem (.field (.string "BlueBag$CoastReader" 112) "java/lang/String" "value" "[B") (.int 2)) (.int 110), .eq (.elem (.field (.string "BlueBag$CoastReader" 112) "java/lang/String" "value" "[B") (.int 3)) (.int 115), .eq (.elem (.field (.string "BlueBag$CoastReader" 112) "java/lang/String" "value" "[B") (.int 4)) (.int 101), .exactly (.string "BlueBag$CoastReader" 117) "java/lang/String", .eq (.field (.string "BlueBag$CoastReader" 117) "java/lang/String" "coder" "B") (.int 0), .arrayOf (.field (.string "BlueBag$CoastReader" 117) "java/lang/String" "value" "[B") .byte, .eq (.length (.field (.string "BlueBag$CoastReader" 117) "java/lang/String" "value" "[B")) (.int 5), .eq (.elem (.field (.string "BlueBag$CoastReader" 117) "java/lang/String" "value" "[B") (.int 0)) (.int 98), .eq (.elem (.field (.string "BlueBag$CoastReader" 117) "java/lang/String" "value" "[B") (.int 1)) (.int 111), .eq (.elem (.field (.string "BlueBag$CoastReader" 117) "java/lang/String" "value" "[B") (.int 2)) (.int 117), .eq (.elem (.field (.string "BlueBag$CoastReader" 117) "java/lang/String" "value" "[B") (.int 3)) (.int 110), .eq (.elem (.field (.string "BlueBag$CoastReader" 117) "java/lang/String" "value" "[B") (.int 4)) (.int 100)]
theorem nwS_0_ok : isSub nwS_0 (flatC (Cond.and given_1 narrow_1)) = true := by decide +kernel
def nwS_1 : List Cond := [.exactly (.string "BlueBag$CoastReader" 122) "java/lang/String", .eq (.field (.string "BlueBag$CoastReader" 122) "java/lang/String" "coder" "B") (.int 0), .arrayOf (.field (.string "BlueBag$CoastReader" 122) "java/lang/String" "value" "[B") .byte, .eq (.length (.field (.string "BlueBag$CoastReader" 122) "java/lang/String" "value" "[B")) (.int 4), .eq (.elem (.field (.string "BlueBag$CoastReader" 122) "java/lang/String" "value" "[B") (.int 0)) (.int 100), .eq (.elem (.field (.string "BlueBag$CoastReader" 122) "java/lang/String" "value" "[B") (.int 1)) (.int 121), .eq (.elem (.field (.string "BlueBag$CoastReader" 122) "java/lang/String" "value" "[B") (.int 2)) (.int 101), .eq (.elem (.field (.string "BlueBag$CoastReader" 122) "java/lang/String" "value" "[B") (.int 3)) (.int 115), .exactly (.string "BlueBag$RuleReader" 59) "java/lang/String", .eq (.field (.string "BlueBag$RuleReader" 59) "java/lang/String" "coder" "B") (.int 0), .arrayOf (.field (.string "BlueBag$RuleReader" 59) "java/lang/String" "value" "[B") .byte, .eq (.length (.field (.string "BlueBag$RuleReader" 59) "java/lang/String" "value" "[B")) (.int 3), .eq (.elem (.field (.string "BlueBag$RuleReader" 59) "java/lang/String" "value" "[B") (.int 0)) (.int 110), .eq (.elem (.field (.string "BlueBag$RuleReader" 59) "java/lang/String" "value" "[B") (.int 1)) (.int 111), .eq (.elem (.field (.string "BlueBag$RuleReader" 59) "java/lang/String" "value" "[B") (.int 2)) (.int 116), .exactly (.string "BlueBag$RuleReader" 93) "java/lang/String", .eq (.field (.string "BlueBag$RuleReader" 93) "java/lang/String" "coder" "B") (.int 0), .arrayOf (.field (.string "BlueBag$RuleReader" 93) "java/lang/String" "value" "[B") .byte, .eq (.length (.field (.string "BlueBag$RuleReader" 93) "java/lang/String" "value" "[B")) (.int 4), .eq (.elem (.field (.string "BlueBag$RuleReader" 93) "java/lang/String" "value" "[B") (.int 0)) (.int 98), .eq (.elem (.field (.string "BlueBag$RuleReader" 93) "java/lang/String" "value" "[B") (.int 1)) (.int 108), .eq (.elem (.field (.string "BlueBag$RuleReader" 93) "java/lang/String" "value" "[B") (.int 2)) (.int 117), .eq (.elem (.field (.string "BlueBag$RuleReader" 93) "java/lang/String" "value" "[B") (.int 3)) (.int 101), .exactly (.string "BlueBag$RuleReader" 95) "java/lang/String", .eq (.field (.string "BlueBag$RuleReader" 95) "java/lang/String" "coder" "B") (.int 0), .arrayOf (.field (.string "BlueBag$RuleReader" 95) "java/lang/String" "value" "[B") .byte, .eq (.length (.field (.string "BlueBag$RuleReader" 95) "java/lang/String" "value" "[B")) (.int 6), .eq (.elem (.field (.string "BlueBag$RuleReader" 95) "java/lang/String" "value" "[B") (.int 0)) (.int 98), .eq (.elem (.field (.string "BlueBag$RuleReader" 95) "java/lang/String" "value" "[B") (.int 1)) (.int 101), .eq (.elem (.field (.string "BlueBag$RuleReader" 95) "java/lang/String" "value" "[B") (.int 2)) (.int 115), .eq (.elem (.field (.string "BlueBag$RuleReader" 95) "java/lang/String" "value" "[B") (.int 3)) (.int 105), .eq (.elem (.field (.string "BlueBag$RuleReader" 95) "java/lang/String" "value" "[B") (.int 4)) (.int 100), .eq (.elem (.field (.string "BlueBag$RuleReader" 95) "java/lang/String" "value" "[B") (.int 5)) (.int 101), .exactly (.string "BlueBag$RuleReader" 97) "java/lang/String", .eq (.field (.string "BlueBag$RuleReader" 97) "java/lang/String" "coder" "B") (.int 0), .arrayOf (.field (.string "BlueBag$RuleReader" 97) "java/lang/String" "value" "[B") .byte, .eq (.length (.field (.string "BlueBag$RuleReader" 97) "java/lang/String" "value" "[B")) (.int 3), .eq (.elem (.field (.string "BlueBag$RuleReader" 97) "java/lang/String" "value" "[B") (.int 0)) (.int 114), .eq (.elem (.field (.string "BlueBag$RuleReader" 97) "java/lang/String" "value" "[B") (.int 1)) (.int 111), .eq (.elem (.field (.string "BlueBag$RuleReader" 97) "java/lang/String" "value" "[B") (.int 2)) (.int 119), .exactly (.string "BlueBag$RuleReader" 99) "java/lang/String", .eq (.field (.string "BlueBag$RuleReader" 99) "java/lang/String" "coder" "B") (.int 0), .arrayOf (.field (.string "BlueBag$RuleReader" 99) "java/lang/String" "value" "[B") .byte, .eq (.length (.field (.string "BlueBag$RuleReader" 99) "java/lang/String" "value" "[B")) (.int 3), .eq (.elem (.field (.string "BlueBag$RuleReader" 99) "java/lang/String" "value" "[B") (.int 0)) (.int 100), .eq (.elem (.field (.string "BlueBag$RuleReader" 99) "java/lang/String" "value" "[B") (.int 1)) (.int 97), .eq (.elem (.field (.string "BlueBag$RuleReader" 99) "java/lang/String" "value" "[B") (.int 2)) (.int 121), .exactly (.string "BlueBag$RuleReader" 101) "java/lang/String", .eq (.field (.string "BlueBag$RuleReader" 101) "java/lang/String" "coder" "B") (.int 0), .arrayOf (.field (.string "BlueBag$RuleReader" 101) "java/lang/String" "value" "[B") .byte, .eq (.length (.field (.string "BlueBag$RuleReader" 101) "java/lang/String" "value" "[B")) (.int 5), .eq (.elem (.field (.string "BlueBag$RuleReader" 101) "java/lang/String" "value" "[B") (.int 0)) (.int 115), .eq (.elem (.field (.string "BlueBag$RuleReader" 101) "java/lang/String" "value" "[B") (.int 1)) (.int 107), .eq (.elem (.field (.string "BlueBag$RuleReader" 101) "java/lang/String" "value" "[B") (.int 2)) (.int 105), .eq (.elem (.field (.string "BlueBag$RuleReader" 101) "java/lang/String" "value" "[B") (.int 3)) (.int 108), .eq (.elem (.field (.string "BlueBag$RuleReader" 101) "java/lang/String" "value" "[B") (.int 4)) (.int 108), .exactly (.string "BlueBag$RuleReader" 103) "java/lang/String", .eq (.field (.string "BlueBag$RuleReader" 103) "java/lang/String" "coder" "B") (.int 0), .arrayOf (.field (.string "BlueBag$RuleReader" 103) "java/lang/String" "value" "[B") .byte, .eq (.length (.field (.string "BlueBag$RuleReader" 103) "java/lang/String" "value" "[B")) (.int 4), .eq (.elem (.field (.string "BlueBag$RuleReader" 103) "java/lang/String" "value" "[B") (.int 0)) (.int 108), .eq (.elem (.field (.string "BlueBag$RuleReader" 103) "java/lang/String" "value" "[B") (.int 1)) (.int 101), .eq (.elem (.field (.string "BlueBag$RuleReader" 103) "java/lang/String" "value" "[B") (.int 2)) (.int 102), .eq (.elem (.field (.string "BlueBag$RuleReader" 103) "java/lang/String" "value" "[B") (.int 3)) (.int 116)]
theorem nwS_1_ok : isSub nwS_1 (flatC (Cond.and given_1 narrow_1)) = true := by decide +kernel
def nwS_2 : List Cond := [.exactly (.string "BlueBag$RuleReader" 57) "java/lang/String", .eq (.field (.string "BlueBag$RuleReader" 57) "java/lang/String" "coder" "B") (.int 0), .arrayOf (.field (.string "BlueBag$RuleReader" 57) "java/lang/String" "value" "[B") .byte, .eq (.length (.field (.string "BlueBag$RuleReader" 57) "java/lang/String" "value" "[B")) (.int 3), .eq (.elem (.field (.string "BlueBag$RuleReader" 57) "java/lang/String" "value" "[B") (.int 0)) (.int 97), .eq (.elem (.field (.string "BlueBag$RuleReader" 57) "java/lang/String" "value" "[B") (.int 1)) (.int 110), .eq (.elem (.field (.string "BlueBag$RuleReader" 57) "java/lang/String" "value" "[B") (.int 2)) (.int 100), .exactly (.string "BlueBag$RuleReader" 41) "java/lang/String", .eq (.field (.string "BlueBag$RuleReader" 41) "java/lang/String" "coder" "B") (.int 0), .arrayOf (.field (.string "BlueBag$RuleReader" 41) "java/lang/String" "value" "[B") .byte, .eq (.length (.field (.string "BlueBag$RuleReader" 41) "java/lang/String" "value" "[B")) (.int 2), .eq (.elem (.field (.string "BlueBag$RuleReader" 41) "java/lang/String" "value" "[B") (.int 0)) (.int 111), .eq (.elem (.field (.string "BlueBag$RuleReader" 41) "java/lang/String" "value" "[B") (.int 1)) (.int 114), .exactly (.string "BlueBag$CoastReader" 127) "java/lang/String", .eq (.field (.string "BlueBag$CoastReader" 127) "java/lang/String" "coder" "B") (.int 0), .arrayOf (.field (.string "BlueBag$CoastReader" 127) "java/lang/String" "value" "[B") .byte, .eq (.length (.field (.string "BlueBag$CoastReader" 127) "java/lang/String" "value" "[B")) (.int 5), .eq (.elem (.field (.string "BlueBag$CoastReader" 127) "java/lang/String" "value" "[B") (.int 0)) (.int 102), .eq (.elem (.field (.string "BlueBag$CoastReader" 127) "java/lang/String" "value" "[B") (.int 1)) (.int 97), .eq (.elem (.field (.string "BlueBag$CoastReader" 127) "java/lang/String" "value" "[B") (.int 2)) (.int 100), .eq (.elem (.field (.string "BlueBag$CoastReader" 127) "java/lang/String" "value" "[B") (.int 3)) (.int 101), .eq (.elem (.field (.string "BlueBag$CoastReader" 127) "java/lang/String" "value" "[B") (.int 4)) (.int 115), .exactly (.string "BlueBagModel" 11) "java/lang/String", .eq (.field (.string "BlueBagModel" 11) "java/lang/String" "coder" "B") (.int 0), .arrayOf (.field (.string "BlueBagModel" 11) "java/lang/String" "value" "[B") .byte, .eq (.length (.field (.string "BlueBagModel" 11) "java/lang/String" "value" "[B")) (.int 4), .eq (.elem (.field (.string "BlueBagModel" 11) "java/lang/String" "value" "[B") (.int 0)) (.int 103), .eq (.elem (.field (.string "BlueBagModel" 11) "java/lang/String" "value" "[B") (.int 1)) (.int 105), .eq (.elem (.field (.string "BlueBagModel" 11) "java/lang/String" "value" "[B") (.int 2)) (.int 114), .eq (.elem (.field (.string "BlueBagModel" 11) "java/lang/String" "value" "[B") (.int 3)) (.int 108), .exactly (.string "BlueBagModel" 13) "java/lang/String", .eq (.field (.string "BlueBagModel" 13) "java/lang/String" "coder" "B") (.int 0), .arrayOf (.field (.string "BlueBagModel" 13) "java/lang/String" "value" "[B") .byte, .eq (.length (.field (.string "BlueBagModel" 13) "java/lang/String" "value" "[B")) (.int 3), .eq (.elem (.field (.string "BlueBagModel" 13) "java/lang/String" "value" "[B") (.int 0)) (.int 111), .eq (.elem (.field (.string "BlueBagModel" 13) "java/lang/String" "value" "[B") (.int 1)) (.int 108), .eq (.elem (.field (.string "BlueBagModel" 13) "java/lang/String" "value" "[B") (.int 2)) (.int 100), .exactly (.string "BlueBagModel" 19) "java/lang/String", .eq (.field (.string "BlueBagModel" 19) "java/lang/String" "coder" "B") (.int 0), .arrayOf (.field (.string "BlueBagModel" 19) "java/lang/String" "value" "[B") .byte, .eq (.length (.field (.string "BlueBagModel" 19) "java/lang/String" "value" "[B")) (.int 4), .eq (.elem (.field (.string "BlueBagModel" 19) "java/lang/String" "value" "[B") (.int 0)) (.int 98), .eq (.elem (.field (.string "BlueBagModel" 19) "java/lang/String" "value" "[B") (.int 1)) (.int 108), .eq (.elem (.field (.string "BlueBagModel" 19) "java/lang/String" "value" "[B") (.int 2)) (.int 117), .eq (.elem (.field (.string "BlueBagModel" 19) "java/lang/String" "value" "[B") (.int 3)) (.int 101), .exactly (.string "BlueBagModel" 21) "java/lang/String", .eq (.field (.string "BlueBagModel" 21) "java/lang/String" "coder" "B") (.int 0), .arrayOf (.field (.string "BlueBagModel" 21) "java/lang/String" "value" "[B") .byte, .eq (.length (.field (.string "BlueBagModel" 21) "java/lang/String" "value" "[B")) (.int 6), .eq (.elem (.field (.string "BlueBagModel" 21) "java/lang/String" "value" "[B") (.int 0)) (.int 98), .eq (.elem (.field (.string "BlueBagModel" 21) "java/lang/String" "value" "[B") (.int 1)) (.int 101), .eq (.elem (.field (.string "BlueBagModel" 21) "java/lang/String" "value" "[B") (.int 2)) (.int 115), .eq (.elem (.field (.string "BlueBagModel" 21) "java/lang/String" "value" "[B") (.int 3)) (.int 105), .eq (.elem (.field (.string "BlueBagModel" 21) "java/lang/String" "value" "[B") (.int 4)) (.int 100), .eq (.elem (.field (.string "BlueBagModel" 21) "java/lang/String" "value" "[B") (.int 5)) (.int 101), .exactly (.string "BlueBagModel" 23) "java/lang/String", .eq (.field (.string "BlueBagModel" 23) "java/lang/String" "coder" "B") (.int 0), .arrayOf (.field (.string "BlueBagModel" 23) "java/lang/String" "value" "[B") .byte, .eq (.length (.field (.string "BlueBagModel" 23) "java/lang/String" "value" "[B")) (.int 3), .eq (.elem (.field (.string "BlueBagModel" 23) "java/lang/String" "value" "[B") (.int 0)) (.int 114), .eq (.elem (.field (.string "BlueBagModel" 23) "java/lang/String" "value" "[B") (.int 1)) (.int 111), .eq (.elem (.field (.string "BlueBagModel" 23) "java/lang/String" "value" "[B") (.int 2)) (.int 119)]
theorem nwS_2_ok : isSub nwS_2 (flatC (Cond.and given_1 narrow_1)) = true := by decide +kernel
def nwS_3 : List Cond := [.exactly (.string "BlueBagModel" 25) "java/lang/String", .eq (.field (.string "BlueBagModel" 25) "java/lang/String" "coder" "B") (.int 0), .arrayOf (.field (.string "BlueBagModel" 25) "java/lang/String" "value" "[B") .byte, .eq (.length (.field (.string "BlueBagModel" 25) "java/lang/String" "value" "[B")) (.int 3), .eq (.elem (.field (.string "BlueBagModel" 25) "java/lang/String" "value" "[B") (.int 0)) (.int 100), .eq (.elem (.field (.string "BlueBagModel" 25) "java/lang/String" "value" "[B") (.int 1)) (.int 97), .eq (.elem (.field (.string "BlueBagModel" 25) "java/lang/String" "value" "[B") (.int 2)) (.int 121), .exactly (.string "BlueBagModel" 27) "java/lang/String", .eq (.field (.string "BlueBagModel" 27) "java/lang/String" "coder" "B") (.int 0), .arrayOf (.field (.string "BlueBagModel" 27) "java/lang/String" "value" "[B") .byte, .eq (.length (.field (.string "BlueBagModel" 27) "java/lang/String" "value" "[B")) (.int 5), .eq (.elem (.field (.string "BlueBagModel" 27) "java/lang/String" "value" "[B") (.int 0)) (.int 115), .eq (.elem (.field (.string "BlueBagModel" 27) "java/lang/String" "value" "[B") (.int 1)) (.int 107), .eq (.elem (.field (.string "BlueBagModel" 27) "java/lang/String" "value" "[B") (.int 2)) (.int 105), .eq (.elem (.field (.string "BlueBagModel" 27) "java/lang/String" "value" "[B") (.int 3)) (.int 108), .eq (.elem (.field (.string "BlueBagModel" 27) "java/lang/String" "value" "[B") (.int 4)) (.int 108), .exactly (.string "BlueBagModel" 29) "java/lang/String", .eq (.field (.string "BlueBagModel" 29) "java/lang/String" "coder" "B") (.int 0), .arrayOf (.field (.string "BlueBagModel" 29) "java/lang/String" "value" "[B") .byte, .eq (.length (.field (.string "BlueBagModel" 29) "java/lang/String" "value" "[B")) (.int 4), .eq (.elem (.field (.string "BlueBagModel" 29) "java/lang/String" "value" "[B") (.int 0)) (.int 108), .eq (.elem (.field (.string "BlueBagModel" 29) "java/lang/String" "value" "[B") (.int 1)) (.int 101), .eq (.elem (.field (.string "BlueBagModel" 29) "java/lang/String" "value" "[B") (.int 2)) (.int 102), .eq (.elem (.field (.string "BlueBagModel" 29) "java/lang/String" "value" "[B") (.int 3)) (.int 116), .exactly (.string "BlueBagModel" 293) "java/lang/String", .eq (.field (.string "BlueBagModel" 293) "java/lang/String" "coder" "B") (.int 0), .arrayOf (.field (.string "BlueBagModel" 293) "java/lang/String" "value" "[B") .byte, .eq (.length (.field (.string "BlueBagModel" 293) "java/lang/String" "value" "[B")) (.int 3), .eq (.elem (.field (.string "BlueBagModel" 293) "java/lang/String" "value" "[B") (.int 0)) (.int 115), .eq (.elem (.field (.string "BlueBagModel" 293) "java/lang/String" "value" "[B") (.int 1)) (.int 107), .eq (.elem (.field (.string "BlueBagModel" 293) "java/lang/String" "value" "[B") (.int 2)) (.int 121), .exactly (.string "BlueBagModel" 295) "java/lang/String", .eq (.field (.string "BlueBagModel" 295) "java/lang/String" "coder" "B") (.int 0), .arrayOf (.field (.string "BlueBagModel" 295) "java/lang/String" "value" "[B") .byte, .eq (.length (.field (.string "BlueBagModel" 295) "java/lang/String" "value" "[B")) (.int 5), .eq (.elem (.field (.string "BlueBagModel" 295) "java/lang/String" "value" "[B") (.int 0)) (.int 107), .eq (.elem (.field (.string "BlueBagModel" 295) "java/lang/String" "value" "[B") (.int 1)) (.int 110), .eq (.elem (.field (.string "BlueBagModel" 295) "java/lang/String" "value" "[B") (.int 2)) (.int 111), .eq (.elem (.field (.string "BlueBagModel" 295) "java/lang/String" "value" "[B") (.int 3)) (.int 98), .eq (.elem (.field (.string "BlueBagModel" 295) "java/lang/String" "value" "[B") (.int 4)) (.int 115), .exactly (.string "BlueBagModel" 296) "java/lang/String", .eq (.field (.string "BlueBagModel" 296) "java/lang/String" "coder" "B") (.int 0), .arrayOf (.field (.string "BlueBagModel" 296) "java/lang/String" "value" "[B") .byte, .eq (.length (.field (.string "BlueBagModel" 296) "java/lang/String" "value" "[B")) (.int 5), .eq (.elem (.field (.string "BlueBagModel" 296) "java/lang/String" "value" "[B") (.int 0)) (.int 114), .eq (.elem (.field (.string "BlueBagModel" 296) "java/lang/String" "value" "[B") (.int 1)) (.int 105), .eq (.elem (.field (.string "BlueBagModel" 296) "java/lang/String" "value" "[B") (.int 2)) (.int 110), .eq (.elem (.field (.string "BlueBagModel" 296) "java/lang/String" "value" "[B") (.int 3)) (.int 115), .eq (.elem (.field (.string "BlueBagModel" 296) "java/lang/String" "value" "[B") (.int 4)) (.int 101), .exactly (.string "BlueBagModel" 298) "java/lang/String", .eq (.field (.string "BlueBagModel" 298) "java/lang/String" "coder" "B") (.int 0), .arrayOf (.field (.string "BlueBagModel" 298) "java/lang/String" "value" "[B") .byte, .eq (.length (.field (.string "BlueBagModel" 298) "java/lang/String" "value" "[B")) (.int 5), .eq (.elem (.field (.string "BlueBagModel" 298) "java/lang/String" "value" "[B") (.int 0)) (.int 98), .eq (.elem (.field (.string "BlueBagModel" 298) "java/lang/String" "value" "[B") (.int 1)) (.int 111), .eq (.elem (.field (.string "BlueBagModel" 298) "java/lang/String" "value" "[B") (.int 2)) (.int 117), .eq (.elem (.field (.string "BlueBagModel" 298) "java/lang/String" "value" "[B") (.int 3)) (.int 110), .eq (.elem (.field (.string "BlueBagModel" 298) "java/lang/String" "value" "[B") (.int 4)) (.int 100), .exactly (.string "BlueBagModel" 300) "java/lang/String", .eq (.field (.string "BlueBagModel" 300) "java/lang/String" "coder" "B") (.int 0), .arrayOf (.field (.string "BlueBagModel" 300) "java/lang/String" "value" "[B") .byte, .eq (.length (.field (.string "BlueBagModel" 300) "java/lang/String" "value" "[B")) (.int 4), .eq (.elem (.field (.string "BlueBagModel" 300) "java/lang/String" "value" "[B") (.int 0)) (.int 100), .eq (.elem (.field (.string "BlueBagModel" 300) "java/lang/String" "value" "[B") (.int 1)) (.int 121), .eq (.elem (.field (.string "BlueBagModel" 300) "java/lang/String" "value" "[B") (.int 2)) (.int 101), .eq (.elem (.field (.string "BlueBagModel" 300) "java/lang/String" "value" "[B") (.int 3)) (.int 115)]
theorem nwS_3_ok : isSub nwS_3 (flatC (Cond.and given_1 narrow_1)) = true := by decide +kernel
def nwS_4 : List Cond := [.exactly (.string "BlueBagModel" 302) "java/lang/String", .eq (.field (.string "BlueBagModel" 302) "java/lang/String" "coder" "B") (.int 0), .arrayOf (.field (.string "BlueBagModel" 302) "java/lang/String" "value" "[B") .byte, .eq (.length (.field (.string "BlueBagModel" 302) "java/lang/String" "value" "[B")) (.int 5), .eq (.elem (.field (.string "BlueBagModel" 302) "java/lang/String" "value" "[B") (.int 0)) (.int 102), .eq (.elem (.field (.string "BlueBagModel" 302) "java/lang/String" "value" "[B") (.int 1)) (.int 97), .eq (.elem (.field (.string "BlueBagModel" 302) "java/lang/String" "value" "[B") (.int 2)) (.int 100), .eq (.elem (.field (.string "BlueBagModel" 302) "java/lang/String" "value" "[B") (.int 3)) (.int 101), .eq (.elem (.field (.string "BlueBagModel" 302) "java/lang/String" "value" "[B") (.int 4)) (.int 115), .exactly (.string "BlueBagModel" 265) "java/lang/String", .eq (.field (.string "BlueBagModel" 265) "java/lang/String" "coder" "B") (.int 0), .arrayOf (.field (.string "BlueBagModel" 265) "java/lang/String" "value" "[B") .byte, .eq (.length (.field (.string "BlueBagModel" 265) "java/lang/String" "value" "[B")) (.int 3), .eq (.elem (.field (.string "BlueBagModel" 265) "java/lang/String" "value" "[B") (.int 0)) (.int 110), .eq (.elem (.field (.string "BlueBagModel" 265) "java/lang/String" "value" "[B") (.int 1)) (.int 111), .eq (.elem (.field (.string "BlueBagModel" 265) "java/lang/String" "value" "[B") (.int 2)) (.int 116), .exactly (.string "BlueBagModel" 273) "java/lang/String", .eq (.field (.string "BlueBagModel" 273) "java/lang/String" "coder" "B") (.int 0), .arrayOf (.field (.string "BlueBagModel" 273) "java/lang/String" "value" "[B") .byte, .eq (.length (.field (.string "BlueBagModel" 273) "java/lang/String" "value" "[B")) (.int 3), .eq (.elem (.field (.string "BlueBagModel" 273) "java/lang/String" "value" "[B") (.int 0)) (.int 97), .eq (.elem (.field (.string "BlueBagModel" 273) "java/lang/String" "value" "[B") (.int 1)) (.int 110), .eq (.elem (.field (.string "BlueBagModel" 273) "java/lang/String" "value" "[B") (.int 2)) (.int 100), .exactly (.string "BlueBagModel" 278) "java/lang/String", .eq (.field (.string "BlueBagModel" 278) "java/lang/String" "coder" "B") (.int 0), .arrayOf (.field (.string "BlueBagModel" 278) "java/lang/String" "value" "[B") .byte, .eq (.length (.field (.string "BlueBagModel" 278) "java/lang/String" "value" "[B")) (.int 2), .eq (.elem (.field (.string "BlueBagModel" 278) "java/lang/String" "value" "[B") (.int 0)) (.int 111), .eq (.elem (.field (.string "BlueBagModel" 278) "java/lang/String" "value" "[B") (.int 1)) (.int 114), .exactly (.string "BlueBagModel" 313) "java/lang/String", .eq (.field (.string "BlueBagModel" 313) "java/lang/String" "coder" "B") (.int 0), .arrayOf (.field (.string "BlueBagModel" 313) "java/lang/String" "value" "[B") .byte, .eq (.length (.field (.string "BlueBagModel" 313) "java/lang/String" "value" "[B")) (.int 3), .eq (.elem (.field (.string "BlueBagModel" 313) "java/lang/String" "value" "[B") (.int 0)) (.int 112), .eq (.elem (.field (.string "BlueBagModel" 313) "java/lang/String" "value" "[B") (.int 1)) (.int 101), .eq (.elem (.field (.string "BlueBagModel" 313) "java/lang/String" "value" "[B") (.int 2)) (.int 103)]
theorem nwS_4_ok : isSub nwS_4 (flatC (Cond.and given_1 narrow_1)) = true := by decide +kernel
def nwSR : List Cond := [.stringRef "BlueBag$CoastReader" 80 "sky", .stringRef "BlueBag$CoastReader" 89 "blue", .stringRef "BlueBag$CoastReader" 94 "girl", .stringRef "BlueBag$CoastReader" 100 "old", .stringRef "BlueBag$CoastReader" 102 "peg", .stringRef "BlueBag$CoastReader" 107 "knobs", .stringRef "BlueBag$CoastReader" 112 "rinse", .stringRef "BlueBag$CoastReader" 117 "bound", .stringRef "BlueBag$CoastReader" 122 "dyes", .stringRef "BlueBag$RuleReader" 59 "not", .stringRef "BlueBag$RuleReader" 93 "blue", .stringRef "BlueBag$RuleReader" 95 "beside", .stringRef "BlueBag$RuleReader" 97 "row", .stringRef "BlueBag$RuleReader" 99 "day", .stringRef "BlueBag$RuleReader" 101 "skill", .stringRef "BlueBag$RuleReader" 103 "left", .stringRef "BlueBag$RuleReader" 57 "and", .stringRef "BlueBag$RuleReader" 41 "or", .stringRef "BlueBag$CoastReader" 127 "fades", .stringRef "BlueBagModel" 11 "girl", .stringRef "BlueBagModel" 13 "old", .stringRef "BlueBagModel" 19 "blue", .stringRef "BlueBagModel" 21 "beside", .stringRef "BlueBagModel" 23 "row", .stringRef "BlueBagModel" 25 "day", .stringRef "BlueBagModel" 27 "skill", .stringRef "BlueBagModel" 29 "left", .stringRef "BlueBagModel" 293 "sky", .stringRef "BlueBagModel" 295 "knobs", .stringRef "BlueBagModel" 296 "rinse", .stringRef "BlueBagModel" 298 "bound", .stringRef "BlueBagModel" 300 "dyes", .stringRef "BlueBagModel" 302 "fades", .stringRef "BlueBagModel" 265 "not", .stringRef "BlueBagModel" 273 "and", .stringRef "BlueBagModel" 278 "or", .stringRef "BlueBagModel" 313 "peg"]
theorem nwSR_ok : isSub nwSR tables_1 = true := by decide +kernel
theorem tb_in {w : Cond} (h : w ∈ tables_1) : w ∈ lw_tbl := List.mem_append_right _ h
theorem str_0 {args : Array Value} {s : State} {A : Nat → Prop} (hs : ∀ c ∈ flatC (Cond.and given_1 narrow_1), c.before args s = true) (hts : ∀ w ∈ lw_tbl, w.before args s = true) (hA : ∀ a : Nat, a < s.heap.size → ¬ A a) :
    ∃ q : Nat × Nat, va_O "java/lang/String" q.1 A s s.heap ∧ va_OF "java/lang/String" "coder" "B" (.int 0) q.1 A s s.heap ∧ va_OF "java/lang/String" "value" "[B" (.ref q.2) q.1 A s s.heap ∧ va_T .byte q.2 (strB 0).length (fun j => .int ((strB 0).getD j 0)) A s s.heap ∧ vk_R (strOwn 0) (strIdx 0) (strTx 0) q.1 s := by
  have m : ∀ (i : Nat) (c : Cond), nwS_0[i]? = some c → c.before args s = true := fun i c h => hs c (isSub_mem _ _ nwS_0_ok c (List.mem_of_getElem? h))
  refine str_of (own := "BlueBag$CoastReader") (idx := 80) (tx := "sky") (bl := [115, 107, 121]) (by decide) (m 0 _ rfl) (m 1 _ rfl) (m 2 _ rfl) (m 3 _ rfl) (fun j hj => ?_) (hts _ (tb_in (isSub_mem _ _ nwSR_ok _ (List.mem_of_getElem? (i := 0) rfl)))) hA
  match j, hj with
  | 0, _ => exact m 4 _ rfl
  | 1, _ => exact m 5 _ rfl
  | 2, _ => exact m 6 _ rfl
  | j + 3, hj => exact absurd hj (by simp)
theorem str_1 {args : Array Value} {s : State} {A : Nat → Prop} (hs : ∀ c ∈ flatC (Cond.and given_1 narrow_1), c.before args s = true) (hts : ∀ w ∈ lw_tbl, w.before args s = true) (hA : ∀ a : Nat, a < s.heap.size → ¬ A a) :
    ∃ q : Nat × Nat, va_O "java/lang/String" q.1 A s s.heap ∧ va_OF "java/lang/String" "coder" "B" (.int 0) q.1 A s s.heap ∧ va_OF "java/lang/String" "value" "[B" (.ref q.2) q.1 A s s.heap ∧ va_T .byte q.2 (strB 1).length (fun j => .int ((strB 1).getD j 0)) A s s.heap ∧ vk_R (strOwn 1) (strIdx 1) (strTx 1) q.1 s := by
  have m : ∀ (i : Nat) (c : Cond), nwS_0[i]? = some c → c.before args s = true := fun i c h => hs c (isSub_mem _ _ nwS_0_ok c (List.mem_of_getElem? h))
  refine str_of (own := "BlueBag$CoastReader") (idx := 89) (tx := "blue") (bl := [98, 108, 117, 101]) (by decide) (m 7 _ rfl) (m 8 _ rfl) (m 9 _ rfl) (m 10 _ rfl) (fun j hj => ?_) (hts _ (tb_in (isSub_mem _ _ nwSR_ok _ (List.mem_of_getElem? (i := 1) rfl)))) hA
  match j, hj with
  | 0, _ => exact m 11 _ rfl
  | 1, _ => exact m 12 _ rfl
  | 2, _ => exact m 13 _ rfl
  | 3, _ => exact m 14 _ rfl
  | j + 4, hj => exact absurd hj (by simp)
theorem str_2 {args : Array Value} {s : State} {A : Nat → Prop} (hs : ∀ c ∈ flatC (Cond.and given_1 narrow_1), c.before args s = true) (hts : ∀ w ∈ lw_tbl, w.before args s = true) (hA : ∀ a : Nat, a < s.heap.size → ¬ A a) :
    ∃ q : Nat × Nat, va_O "java/lang/String" q.1 A s s.heap ∧ va_OF "java/lang/String" "coder" "B" (.int 0) q.1 A s s.heap ∧ va_OF "java/lang/String" "value" "[B" (.ref q.2) q.1 A s s.heap ∧ va_T .byte q.2 (strB 2).length (fun j => .int ((strB 2).getD j 0)) A s s.heap ∧ vk_R (strOwn 2) (strIdx 2) (strTx 2) q.1 s := by
  have m : ∀ (i : Nat) (c : Cond), nwS_0[i]? = some c → c.before args s = true := fun i c h => hs c (isSub_mem _ _ nwS_0_ok c (List.mem_of_getElem? h))
  refine str_of (own := "BlueBag$CoastReader") (idx := 94) (tx := "girl") (bl := [103, 105, 114, 108]) (by decide) (m 15 _ rfl) (m 16 _ rfl) (m 17 _ rfl) (m 18 _ rfl) (fun j hj => ?_) (hts _ (tb_in (isSub_mem _ _ nwSR_ok _ (List.mem_of_getElem? (i := 2) rfl)))) hA
  match j, hj with
  | 0, _ => exact m 19 _ rfl
  | 1, _ => exact m 20 _ rfl
  | 2, _ => exact m 21 _ rfl
  | 3, _ => exact m 22 _ rfl
  | j + 4, hj => exact absurd hj (by simp)
theorem str_3 {args : Array Value} {s : State} {A : Nat → Prop} (hs : ∀ c ∈ flatC (Cond.and given_1 narrow_1), c.before args s = true) (hts : ∀ w ∈ lw_tbl, w.before args s = true) (hA : ∀ a : Nat, a < s.heap.size → ¬ A a) :
    ∃ q : Nat × Nat, va_O "java/lang/String" q.1 A s s.heap ∧ va_OF "java/lang/String" "coder" "B" (.int 0) q.1 A s s.heap ∧ va_OF "java/lang/String" "value" "[B" (.ref q.2) q.1 A s s.heap ∧ va_T .byte q.2 (strB 3).length (fun j => .int ((strB 3).getD j 0)) A s s.heap ∧ vk_R (strOwn 3) (strIdx 3) (strTx 3) q.1 s := by
  have m : ∀ (i : Nat) (c : Cond), nwS_0[i]? = some c → c.before args s = true := fun i c h => hs c (isSub_mem _ _ nwS_0_ok c (List.mem_of_getElem? h))
  refine str_of (own := "BlueBag$CoastReader") (idx := 100) (tx := "old") (bl := [111, 108, 100]) (by decide) (m 23 _ rfl) (m 24 _ rfl) (m 25 _ rfl) (m 26 _ rfl) (fun j hj => ?_) (hts _ (tb_in (isSub_mem _ _ nwSR_ok _ (List.mem_of_getElem? (i := 3) rfl)))) hA
  match j, hj with
  | 0, _ => exact m 27 _ rfl
  | 1, _ => exact m 28 _ rfl
  | 2, _ => exact m 29 _ rfl
  | j + 3, hj => exact absurd hj (by simp)
theorem str_4 {args : Array Value} {s : State} {A : Nat → Prop} (hs : ∀ c ∈ flatC (Cond.and given_1 narrow_1), c.before args s = true) (hts : ∀ w ∈ lw_tbl, w.before args s = true) (hA : ∀ a : Nat, a < s.heap.size → ¬ A a) :
    ∃ q : Nat × Nat, va_O "java/lang/String" q.1 A s s.heap ∧ va_OF "java/lang/String" "coder" "B" (.int 0) q.1 A s s.heap ∧ va_OF "java/lang/String" "value" "[B" (.ref q.2) q.1 A s s.heap ∧ va_T .byte q.2 (strB 4).length (fun j => .int ((strB 4).getD j 0)) A s s.heap ∧ vk_R (strOwn 4) (strIdx 4) (strTx 4) q.1 s := by
  have m : ∀ (i : Nat) (c : Cond), nwS_0[i]? = some c → c.before args s = true := fun i c h => hs c (isSub_mem _ _ nwS_0_ok c (List.mem_of_getElem? h))
  refine str_of (own := "BlueBag$CoastReader") (idx := 102) (tx := "peg") (bl := [112, 101, 103]) (by decide) (m 30 _ rfl) (m 31 _ rfl) (m 32 _ rfl) (m 33 _ rfl) (fun j hj => ?_) (hts _ (tb_in (isSub_mem _ _ nwSR_ok _ (List.mem_of_getElem? (i := 4) rfl)))) hA
  match j, hj with
  | 0, _ => exact m 34 _ rfl
  | 1, _ => exact m 35 _ rfl
  | 2, _ => exact m 36 _ rfl
  | j + 3, hj => exact absurd hj (by simp)
theorem str_5 {args : Array Value} {s : State} {A : Nat → Prop} (hs : ∀ c ∈ flatC (Cond.and given_1 narrow_1), c.before args s = true) (hts : ∀ w ∈ lw_tbl, w.before args s = true) (hA : ∀ a : Nat, a < s.heap.size → ¬ A a) :
    ∃ q : Nat × Nat, va_O "java/lang/String" q.1 A s s.heap ∧ va_OF "java/lang/String" "coder" "B" (.int 0) q.1 A s s.heap ∧ va_OF "java/lang/String" "value" "[B" (.ref q.2) q.1 A s s.heap ∧ va_T .byte q.2 (strB 5).length (fun j => .int ((strB 5).getD j 0)) A s s.heap ∧ vk_R (strOwn 5) (strIdx 5) (strTx 5) q.1 s := by
  have m : ∀ (i : Nat) (c : Cond), nwS_0[i]? = some c → c.before args s = true := fun i c h => hs c (isSub_mem _ _ nwS_0_ok c (List.mem_of_getElem? h))
  refine str_of (own := "BlueBag$CoastReader") (idx := 107) (tx := "knobs") (bl := [107, 110, 111, 98, 115]) (by decide) (m 37 _ rfl) (m 38 _ rfl) (m 39 _ rfl) (m 40 _ rfl) (fun j hj => ?_) (hts _ (tb_in (isSub_mem _ _ nwSR_ok _ (List.mem_of_getElem? (i := 5) rfl)))) hA
  match j, hj with
  | 0, _ => exact m 41 _ rfl
  | 1, _ => exact m 42 _ rfl
  | 2, _ => exact m 43 _ rfl
  | 3, _ => exact m 44 _ rfl
  | 4, _ => exact m 45 _ rfl
  | j + 5, hj => exact absurd hj (by simp)
theorem str_6 {args : Array Value} {s : State} {A : Nat → Prop} (hs : ∀ c ∈ flatC (Cond.and given_1 narrow_1), c.before args s = true) (hts : ∀ w ∈ lw_tbl, w.before args s = true) (hA : ∀ a : Nat, a < s.heap.size → ¬ A a) :
    ∃ q : Nat × Nat, va_O "java/lang/String" q.1 A s s.heap ∧ va_OF "java/lang/String" "coder" "B" (.int 0) q.1 A s s.heap ∧ va_OF "java/lang/String" "value" "[B" (.ref q.2) q.1 A s s.heap ∧ va_T .byte q.2 (strB 6).length (fun j => .int ((strB 6).getD j 0)) A s s.heap ∧ vk_R (strOwn 6) (strIdx 6) (strTx 6) q.1 s := by
  have m : ∀ (i : Nat) (c : Cond), nwS_0[i]? = some c → c.before args s = true := fun i c h => hs c (isSub_mem _ _ nwS_0_ok c (List.mem_of_getElem? h))
  refine str_of (own := "BlueBag$CoastReader") (idx := 112) (tx := "rinse") (bl := [114, 105, 110, 115, 101]) (by decide) (m 46 _ rfl) (m 47 _ rfl) (m 48 _ rfl) (m 49 _ rfl) (fun j hj => ?_) (hts _ (tb_in (isSub_mem _ _ nwSR_ok _ (List.mem_of_getElem? (i := 6) rfl)))) hA
  match j, hj with
  | 0, _ => exact m 50 _ rfl
  | 1, _ => exact m 51 _ rfl
  | 2, _ => exact m 52 _ rfl
  | 3, _ => exact m 53 _ rfl
  | 4, _ => exact m 54 _ rfl
  | j + 5, hj => exact absurd hj (by simp)
theorem str_7 {args : Array Value} {s : State} {A : Nat → Prop} (hs : ∀ c ∈ flatC (Cond.and given_1 narrow_1), c.before args s = true) (hts : ∀ w ∈ lw_tbl, w.before args s = true) (hA : ∀ a : Nat, a < s.heap.size → ¬ A a) :
    ∃ q : Nat × Nat, va_O "java/lang/String" q.1 A s s.heap ∧ va_OF "java/lang/String" "coder" "B" (.int 0) q.1 A s s.heap ∧ va_OF "java/lang/String" "value" "[B" (.ref q.2) q.1 A s s.heap ∧ va_T .byte q.2 (strB 7).length (fun j => .int ((strB 7).getD j 0)) A s s.heap ∧ vk_R (strOwn 7) (strIdx 7) (strTx 7) q.1 s := by
  have m : ∀ (i : Nat) (c : Cond), nwS_0[i]? = some c → c.before args s = true := fun i c h => hs c (isSub_mem _ _ nwS_0_ok c (List.mem_of_getElem? h))
  refine str_of (own := "BlueBag$CoastReader") (idx := 117) (tx := "bound") (bl := [98, 111, 117, 110, 100]) (by decide) (m 55 _ rfl) (m 56 _ rfl) (m 57 _ rfl) (m 58 _ rfl) (fun j hj => ?_) (hts _ (tb_in (isSub_mem _ _ nwSR_ok _ (List.mem_of_getElem? (i := 7) rfl)))) hA
  match j, hj with
  | 0, _ => exact m 59 _ rfl
  | 1, _ => exact m 60 _ rfl
  | 2, _ => exact m 61 _ rfl
  | 3, _ => exact m 62 _ rfl
  | 4, _ => exact m 63 _ rfl
  | j + 5, hj => exact absurd hj (by simp)
theorem str_8 {args : Array Value} {s : State} {A : Nat → Prop} (hs : ∀ c ∈ flatC (Cond.and given_1 narrow_1), c.before args s = true) (hts : ∀ w ∈ lw_tbl, w.before args s = true) (hA : ∀ a : Nat, a < s.heap.size → ¬ A a) :
    ∃ q : Nat × Nat, va_O "java/lang/String" q.1 A s s.heap ∧ va_OF "java/lang/String" "coder" "B" (.int 0) q.1 A s s.heap ∧ va_OF "java/lang/String" "value" "[B" (.ref q.2) q.1 A s s.heap ∧ va_T .byte q.2 (strB 8).length (fun j => .int ((strB 8).getD j 0)) A s s.heap ∧ vk_R (strOwn 8) (strIdx 8) (strTx 8) q.1 s := by
  have m : ∀ (i : Nat) (c : Cond), nwS_1[i]? = some c → c.before args s = true := fun i c h => hs c (isSub_mem _ _ nwS_1_ok c (List.mem_of_getElem? h))
  refine str_of (own := "BlueBag$CoastReader") (idx := 122) (tx := "dyes") (bl := [100, 121, 101, 115]) (by decide) (m 0 _ rfl) (m 1 _ rfl) (m 2 _ rfl) (m 3 _ rfl) (fun j hj => ?_) (hts _ (tb_in (isSub_mem _ _ nwSR_ok _ (List.mem_of_getElem? (i := 8) rfl)))) hA
  match j, hj with
  | 0, _ => exact m 4 _ rfl
  | 1, _ => exact m 5 _ rfl
  | 2, _ => exact m 6 _ rfl
  | 3, _ => exact m 7 _ rfl
  | j + 4, hj => exact absurd hj (by simp)
theorem str_9 {args : Array Value} {s : State} {A : Nat → Prop} (hs : ∀ c ∈ flatC (Cond.and given_1 narrow_1), c.before args s = true) (hts : ∀ w ∈ lw_tbl, w.before args s = true) (hA : ∀ a : Nat, a < s.heap.size → ¬ A a) :
    ∃ q : Nat × Nat, va_O "java/lang/String" q.1 A s s.heap ∧ va_OF "java/lang/String" "coder" "B" (.int 0) q.1 A s s.heap ∧ va_OF "java/lang/String" "value" "[B" (.ref q.2) q.1 A s s.heap ∧ va_T .byte q.2 (strB 9).length (fun j => .int ((strB 9).getD j 0)) A s s.heap ∧ vk_R (strOwn 9) (strIdx 9) (strTx 9) q.1 s := by
  have m : ∀ (i : Nat) (c : Cond), nwS_1[i]? = some c → c.before args s = true := fun i c h => hs c (isSub_mem _ _ nwS_1_ok c (List.mem_of_getElem? h))
  refine str_of (own := "BlueBag$RuleReader") (idx := 59) (tx := "not") (bl := [110, 111, 116]) (by decide) (m 8 _ rfl) (m 9 _ rfl) (m 10 _ rfl) (m 11 _ rfl) (fun j hj => ?_) (hts _ (tb_in (isSub_mem _ _ nwSR_ok _ (List.mem_of_getElem? (i := 9) rfl)))) hA
  match j, hj with
  | 0, _ => exact m 12 _ rfl
  | 1, _ => exact m 13 _ rfl
  | 2, _ => exact m 14 _ rfl
  | j + 3, hj => exact absurd hj (by simp)
theorem str_10 {args : Array Value} {s : State} {A : Nat → Prop} (hs : ∀ c ∈ flatC (Cond.and given_1 narrow_1), c.before args s = true) (hts : ∀ w ∈ lw_tbl, w.before args s = true) (hA : ∀ a : Nat, a < s.heap.size → ¬ A a) :
    ∃ q : Nat × Nat, va_O "java/lang/String" q.1 A s s.heap ∧ va_OF "java/lang/String" "coder" "B" (.int 0) q.1 A s s.heap ∧ va_OF "java/lang/String" "value" "[B" (.ref q.2) q.1 A s s.heap ∧ va_T .byte q.2 (strB 10).length (fun j => .int ((strB 10).getD j 0)) A s s.heap ∧ vk_R (strOwn 10) (strIdx 10) (strTx 10) q.1 s := by
  have m : ∀ (i : Nat) (c : Cond), nwS_1[i]? = some c → c.before args s = true := fun i c h => hs c (isSub_mem _ _ nwS_1_ok c (List.mem_of_getElem? h))
  refine str_of (own := "BlueBag$RuleReader") (idx := 93) (tx := "blue") (bl := [98, 108, 117, 101]) (by decide) (m 15 _ rfl) (m 16 _ rfl) (m 17 _ rfl) (m 18 _ rfl) (fun j hj => ?_) (hts _ (tb_in (isSub_mem _ _ nwSR_ok _ (List.mem_of_getElem? (i := 10) rfl)))) hA
  match j, hj with
  | 0, _ => exact m 19 _ rfl
  | 1, _ => exact m 20 _ rfl
  | 2, _ => exact m 21 _ rfl
  | 3, _ => exact m 22 _ rfl
  | j + 4, hj => exact absurd hj (by simp)
theorem str_11 {args : Array Value} {s : State} {A : Nat → Prop} (hs : ∀ c ∈ flatC (Cond.and given_1 narrow_1), c.before args s = true) (hts : ∀ w ∈ lw_tbl, w.before args s = true) (hA : ∀ a : Nat, a < s.heap.size → ¬ A a) :
    ∃ q : Nat × Nat, va_O "java/lang/String" q.1 A s s.heap ∧ va_OF "java/lang/String" "coder" "B" (.int 0) q.1 A s s.heap ∧ va_OF "java/lang/String" "value" "[B" (.ref q.2) q.1 A s s.heap ∧ va_T .byte q.2 (strB 11).length (fun j => .int ((strB 11).getD j 0)) A s s.heap ∧ vk_R (strOwn 11) (strIdx 11) (strTx 11) q.1 s := by
  have m : ∀ (i : Nat) (c : Cond), nwS_1[i]? = some c → c.before args s = true := fun i c h => hs c (isSub_mem _ _ nwS_1_ok c (List.mem_of_getElem? h))
  refine str_of (own := "BlueBag$RuleReader") (idx := 95) (tx := "beside") (bl := [98, 101, 115, 105, 100, 101]) (by decide) (m 23 _ rfl) (m 24 _ rfl) (m 25 _ rfl) (m 26 _ rfl) (fun j hj => ?_) (hts _ (tb_in (isSub_mem _ _ nwSR_ok _ (List.mem_of_getElem? (i := 11) rfl)))) hA
  match j, hj with
  | 0, _ => exact m 27 _ rfl
  | 1, _ => exact m 28 _ rfl
  | 2, _ => exact m 29 _ rfl
  | 3, _ => exact m 30 _ rfl
  | 4, _ => exact m 31 _ rfl
  | 5, _ => exact m 32 _ rfl
  | j + 6, hj => exact absurd hj (by simp)
theorem str_12 {args : Array Value} {s : State} {A : Nat → Prop} (hs : ∀ c ∈ flatC (Cond.and given_1 narrow_1), c.before args s = true) (hts : ∀ w ∈ lw_tbl, w.before args s = true) (hA : ∀ a : Nat, a < s.heap.size → ¬ A a) :
    ∃ q : Nat × Nat, va_O "java/lang/String" q.1 A s s.heap ∧ va_OF "java/lang/String" "coder" "B" (.int 0) q.1 A s s.heap ∧ va_OF "java/lang/String" "value" "[B" (.ref q.2) q.1 A s s.heap ∧ va_T .byte q.2 (strB 12).length (fun j => .int ((strB 12).getD j 0)) A s s.heap ∧ vk_R (strOwn 12) (strIdx 12) (strTx 12) q.1 s := by
  have m : ∀ (i : Nat) (c : Cond), nwS_1[i]? = some c → c.before args s = true := fun i c h => hs c (isSub_mem _ _ nwS_1_ok c (List.mem_of_getElem? h))
  refine str_of (own := "BlueBag$RuleReader") (idx := 97) (tx := "row") (bl := [114, 111, 119]) (by decide) (m 33 _ rfl) (m 34 _ rfl) (m 35 _ rfl) (m 36 _ rfl) (fun j hj => ?_) (hts _ (tb_in (isSub_mem _ _ nwSR_ok _ (List.mem_of_getElem? (i := 12) rfl)))) hA
  match j, hj with
  | 0, _ => exact m 37 _ rfl
  | 1, _ => exact m 38 _ rfl
  | 2, _ => exact m 39 _ rfl
  | j + 3, hj => exact absurd hj (by simp)
theorem str_13 {args : Array Value} {s : State} {A : Nat → Prop} (hs : ∀ c ∈ flatC (Cond.and given_1 narrow_1), c.before args s = true) (hts : ∀ w ∈ lw_tbl, w.before args s = true) (hA : ∀ a : Nat, a < s.heap.size → ¬ A a) :
    ∃ q : Nat × Nat, va_O "java/lang/String" q.1 A s s.heap ∧ va_OF "java/lang/String" "coder" "B" (.int 0) q.1 A s s.heap ∧ va_OF "java/lang/String" "value" "[B" (.ref q.2) q.1 A s s.heap ∧ va_T .byte q.2 (strB 13).length (fun j => .int ((strB 13).getD j 0)) A s s.heap ∧ vk_R (strOwn 13) (strIdx 13) (strTx 13) q.1 s := by
  have m : ∀ (i : Nat) (c : Cond), nwS_1[i]? = some c → c.before args s = true := fun i c h => hs c (isSub_mem _ _ nwS_1_ok c (List.mem_of_getElem? h))
  refine str_of (own := "BlueBag$RuleReader") (idx := 99) (tx := "day") (bl := [100, 97, 121]) (by decide) (m 40 _ rfl) (m 41 _ rfl) (m 42 _ rfl) (m 43 _ rfl) (fun j hj => ?_) (hts _ (tb_in (isSub_mem _ _ nwSR_ok _ (List.mem_of_getElem? (i := 13) rfl)))) hA
  match j, hj with
  | 0, _ => exact m 44 _ rfl
  | 1, _ => exact m 45 _ rfl
  | 2, _ => exact m 46 _ rfl
  | j + 3, hj => exact absurd hj (by simp)
theorem str_14 {args : Array Value} {s : State} {A : Nat → Prop} (hs : ∀ c ∈ flatC (Cond.and given_1 narrow_1), c.before args s = true) (hts : ∀ w ∈ lw_tbl, w.before args s = true) (hA : ∀ a : Nat, a < s.heap.size → ¬ A a) :
    ∃ q : Nat × Nat, va_O "java/lang/String" q.1 A s s.heap ∧ va_OF "java/lang/String" "coder" "B" (.int 0) q.1 A s s.heap ∧ va_OF "java/lang/String" "value" "[B" (.ref q.2) q.1 A s s.heap ∧ va_T .byte q.2 (strB 14).length (fun j => .int ((strB 14).getD j 0)) A s s.heap ∧ vk_R (strOwn 14) (strIdx 14) (strTx 14) q.1 s := by
  have m : ∀ (i : Nat) (c : Cond), nwS_1[i]? = some c → c.before args s = true := fun i c h => hs c (isSub_mem _ _ nwS_1_ok c (List.mem_of_getElem? h))
  refine str_of (own := "BlueBag$RuleReader") (idx := 101) (tx := "skill") (bl := [115, 107, 105, 108, 108]) (by decide) (m 47 _ rfl) (m 48 _ rfl) (m 49 _ rfl) (m 50 _ rfl) (fun j hj => ?_) (hts _ (tb_in (isSub_mem _ _ nwSR_ok _ (List.mem_of_getElem? (i := 14) rfl)))) hA
  match j, hj with
  | 0, _ => exact m 51 _ rfl
  | 1, _ => exact m 52 _ rfl
  | 2, _ => exact m 53 _ rfl
  | 3, _ => exact m 54 _ rfl
  | 4, _ => exact m 55 _ rfl
  | j + 5, hj => exact absurd hj (by simp)
theorem str_15 {args : Array Value} {s : State} {A : Nat → Prop} (hs : ∀ c ∈ flatC (Cond.and given_1 narrow_1), c.before args s = true) (hts : ∀ w ∈ lw_tbl, w.before args s = true) (hA : ∀ a : Nat, a < s.heap.size → ¬ A a) :
    ∃ q : Nat × Nat, va_O "java/lang/String" q.1 A s s.heap ∧ va_OF "java/lang/String" "coder" "B" (.int 0) q.1 A s s.heap ∧ va_OF "java/lang/String" "value" "[B" (.ref q.2) q.1 A s s.heap ∧ va_T .byte q.2 (strB 15).length (fun j => .int ((strB 15).getD j 0)) A s s.heap ∧ vk_R (strOwn 15) (strIdx 15) (strTx 15) q.1 s := by
  have m : ∀ (i : Nat) (c : Cond), nwS_1[i]? = some c → c.before args s = true := fun i c h => hs c (isSub_mem _ _ nwS_1_ok c (List.mem_of_getElem? h))
  refine str_of (own := "BlueBag$RuleReader") (idx := 103) (tx := "left") (bl := [108, 101, 102, 116]) (by decide) (m 56 _ rfl) (m 57 _ rfl) (m 58 _ rfl) (m 59 _ rfl) (fun j hj => ?_) (hts _ (tb_in (isSub_mem _ _ nwSR_ok _ (List.mem_of_getElem? (i := 15) rfl)))) hA
  match j, hj with
  | 0, _ => exact m 60 _ rfl
  | 1, _ => exact m 61 _ rfl
  | 2, _ => exact m 62 _ rfl
  | 3, _ => exact m 63 _ rfl
  | j + 4, hj => exact absurd hj (by simp)
theorem str_16 {args : Array Value} {s : State} {A : Nat → Prop} (hs : ∀ c ∈ flatC (Cond.and given_1 narrow_1), c.before args s = true) (hts : ∀ w ∈ lw_tbl, w.before args s = true) (hA : ∀ a : Nat, a < s.heap.size → ¬ A a) :
    ∃ q : Nat × Nat, va_O "java/lang/String" q.1 A s s.heap ∧ va_OF "java/lang/String" "coder" "B" (.int 0) q.1 A s s.heap ∧ va_OF "java/lang/String" "value" "[B" (.ref q.2) q.1 A s s.heap ∧ va_T .byte q.2 (strB 16).length (fun j => .int ((strB 16).getD j 0)) A s s.heap ∧ vk_R (strOwn 16) (strIdx 16) (strTx 16) q.1 s := by
  have m : ∀ (i : Nat) (c : Cond), nwS_2[i]? = some c → c.before args s = true := fun i c h => hs c (isSub_mem _ _ nwS_2_ok c (List.mem_of_getElem? h))
  refine str_of (own := "BlueBag$RuleReader") (idx := 57) (tx := "and") (bl := [97, 110, 100]) (by decide) (m 0 _ rfl) (m 1 _ rfl) (m 2 _ rfl) (m 3 _ rfl) (fun j hj => ?_) (hts _ (tb_in (isSub_mem _ _ nwSR_ok _ (List.mem_of_getElem? (i := 16) rfl)))) hA
  match j, hj with
  | 0, _ => exact m 4 _ rfl
  | 1, _ => exact m 5 _ rfl
  | 2, _ => exact m 6 _ rfl
  | j + 3, hj => exact absurd hj (by simp)
theorem str_17 {args : Array Value} {s : State} {A : Nat → Prop} (hs : ∀ c ∈ flatC (Cond.and given_1 narrow_1), c.before args s = true) (hts : ∀ w ∈ lw_tbl, w.before args s = true) (hA : ∀ a : Nat, a < s.heap.size → ¬ A a) :
    ∃ q : Nat × Nat, va_O "java/lang/String" q.1 A s s.heap ∧ va_OF "java/lang/String" "coder" "B" (.int 0) q.1 A s s.heap ∧ va_OF "java/lang/String" "value" "[B" (.ref q.2) q.1 A s s.heap ∧ va_T .byte q.2 (strB 17).length (fun j => .int ((strB 17).getD j 0)) A s s.heap ∧ vk_R (strOwn 17) (strIdx 17) (strTx 17) q.1 s := by
  have m : ∀ (i : Nat) (c : Cond), nwS_2[i]? = some c → c.before args s = true := fun i c h => hs c (isSub_mem _ _ nwS_2_ok c (List.mem_of_getElem? h))
  refine str_of (own := "BlueBag$RuleReader") (idx := 41) (tx := "or") (bl := [111, 114]) (by decide) (m 7 _ rfl) (m 8 _ rfl) (m 9 _ rfl) (m 10 _ rfl) (fun j hj => ?_) (hts _ (tb_in (isSub_mem _ _ nwSR_ok _ (List.mem_of_getElem? (i := 17) rfl)))) hA
  match j, hj with
  | 0, _ => exact m 11 _ rfl
  | 1, _ => exact m 12 _ rfl
  | j + 2, hj => exact absurd hj (by simp)
theorem str_18 {args : Array Value} {s : State} {A : Nat → Prop} (hs : ∀ c ∈ flatC (Cond.and given_1 narrow_1), c.before args s = true) (hts : ∀ w ∈ lw_tbl, w.before args s = true) (hA : ∀ a : Nat, a < s.heap.size → ¬ A a) :
    ∃ q : Nat × Nat, va_O "java/lang/String" q.1 A s s.heap ∧ va_OF "java/lang/String" "coder" "B" (.int 0) q.1 A s s.heap ∧ va_OF "java/lang/String" "value" "[B" (.ref q.2) q.1 A s s.heap ∧ va_T .byte q.2 (strB 18).length (fun j => .int ((strB 18).getD j 0)) A s s.heap ∧ vk_R (strOwn 18) (strIdx 18) (strTx 18) q.1 s := by
  have m : ∀ (i : Nat) (c : Cond), nwS_2[i]? = some c → c.before args s = true := fun i c h => hs c (isSub_mem _ _ nwS_2_ok c (List.mem_of_getElem? h))
  refine str_of (own := "BlueBag$CoastReader") (idx := 127) (tx := "fades") (bl := [102, 97, 100, 101, 115]) (by decide) (m 13 _ rfl) (m 14 _ rfl) (m 15 _ rfl) (m 16 _ rfl) (fun j hj => ?_) (hts _ (tb_in (isSub_mem _ _ nwSR_ok _ (List.mem_of_getElem? (i := 18) rfl)))) hA
  match j, hj with
  | 0, _ => exact m 17 _ rfl
  | 1, _ => exact m 18 _ rfl
  | 2, _ => exact m 19 _ rfl
  | 3, _ => exact m 20 _ rfl
  | 4, _ => exact m 21 _ rfl
  | j + 5, hj => exact absurd hj (by simp)
theorem str_19 {args : Array Value} {s : State} {A : Nat → Prop} (hs : ∀ c ∈ flatC (Cond.and given_1 narrow_1), c.before args s = true) (hts : ∀ w ∈ lw_tbl, w.before args s = true) (hA : ∀ a : Nat, a < s.heap.size → ¬ A a) :
    ∃ q : Nat × Nat, va_O "java/lang/String" q.1 A s s.heap ∧ va_OF "java/lang/String" "coder" "B" (.int 0) q.1 A s s.heap ∧ va_OF "java/lang/String" "value" "[B" (.ref q.2) q.1 A s s.heap ∧ va_T .byte q.2 (strB 19).length (fun j => .int ((strB 19).getD j 0)) A s s.heap ∧ vk_R (strOwn 19) (strIdx 19) (strTx 19) q.1 s := by
  have m : ∀ (i : Nat) (c : Cond), nwS_2[i]? = some c → c.before args s = true := fun i c h => hs c (isSub_mem _ _ nwS_2_ok c (List.mem_of_getElem? h))
  refine str_of (own := "BlueBagModel") (idx := 11) (tx := "girl") (bl := [103, 105, 114, 108]) (by decide) (m 22 _ rfl) (m 23 _ rfl) (m 24 _ rfl) (m 25 _ rfl) (fun j hj => ?_) (hts _ (tb_in (isSub_mem _ _ nwSR_ok _ (List.mem_of_getElem? (i := 19) rfl)))) hA
  match j, hj with
  | 0, _ => exact m 26 _ rfl
  | 1, _ => exact m 27 _ rfl
  | 2, _ => exact m 28 _ rfl
  | 3, _ => exact m 29 _ rfl
  | j + 4, hj => exact absurd hj (by simp)
theorem str_20 {args : Array Value} {s : State} {A : Nat → Prop} (hs : ∀ c ∈ flatC (Cond.and given_1 narrow_1), c.before args s = true) (hts : ∀ w ∈ lw_tbl, w.before args s = true) (hA : ∀ a : Nat, a < s.heap.size → ¬ A a) :
    ∃ q : Nat × Nat, va_O "java/lang/String" q.1 A s s.heap ∧ va_OF "java/lang/String" "coder" "B" (.int 0) q.1 A s s.heap ∧ va_OF "java/lang/String" "value" "[B" (.ref q.2) q.1 A s s.heap ∧ va_T .byte q.2 (strB 20).length (fun j => .int ((strB 20).getD j 0)) A s s.heap ∧ vk_R (strOwn 20) (strIdx 20) (strTx 20) q.1 s := by
  have m : ∀ (i : Nat) (c : Cond), nwS_2[i]? = some c → c.before args s = true := fun i c h => hs c (isSub_mem _ _ nwS_2_ok c (List.mem_of_getElem? h))
  refine str_of (own := "BlueBagModel") (idx := 13) (tx := "old") (bl := [111, 108, 100]) (by decide) (m 30 _ rfl) (m 31 _ rfl) (m 32 _ rfl) (m 33 _ rfl) (fun j hj => ?_) (hts _ (tb_in (isSub_mem _ _ nwSR_ok _ (List.mem_of_getElem? (i := 20) rfl)))) hA
  match j, hj with
  | 0, _ => exact m 34 _ rfl
  | 1, _ => exact m 35 _ rfl
  | 2, _ => exact m 36 _ rfl
  | j + 3, hj => exact absurd hj (by simp)
theorem str_21 {args : Array Value} {s : State} {A : Nat → Prop} (hs : ∀ c ∈ flatC (Cond.and given_1 narrow_1), c.before args s = true) (hts : ∀ w ∈ lw_tbl, w.before args s = true) (hA : ∀ a : Nat, a < s.heap.size → ¬ A a) :
    ∃ q : Nat × Nat, va_O "java/lang/String" q.1 A s s.heap ∧ va_OF "java/lang/String" "coder" "B" (.int 0) q.1 A s s.heap ∧ va_OF "java/lang/String" "value" "[B" (.ref q.2) q.1 A s s.heap ∧ va_T .byte q.2 (strB 21).length (fun j => .int ((strB 21).getD j 0)) A s s.heap ∧ vk_R (strOwn 21) (strIdx 21) (strTx 21) q.1 s := by
  have m : ∀ (i : Nat) (c : Cond), nwS_2[i]? = some c → c.before args s = true := fun i c h => hs c (isSub_mem _ _ nwS_2_ok c (List.mem_of_getElem? h))
  refine str_of (own := "BlueBagModel") (idx := 19) (tx := "blue") (bl := [98, 108, 117, 101]) (by decide) (m 37 _ rfl) (m 38 _ rfl) (m 39 _ rfl) (m 40 _ rfl) (fun j hj => ?_) (hts _ (tb_in (isSub_mem _ _ nwSR_ok _ (List.mem_of_getElem? (i := 21) rfl)))) hA
  match j, hj with
  | 0, _ => exact m 41 _ rfl
  | 1, _ => exact m 42 _ rfl
  | 2, _ => exact m 43 _ rfl
  | 3, _ => exact m 44 _ rfl
  | j + 4, hj => exact absurd hj (by simp)
theorem str_22 {args : Array Value} {s : State} {A : Nat → Prop} (hs : ∀ c ∈ flatC (Cond.and given_1 narrow_1), c.before args s = true) (hts : ∀ w ∈ lw_tbl, w.before args s = true) (hA : ∀ a : Nat, a < s.heap.size → ¬ A a) :
    ∃ q : Nat × Nat, va_O "java/lang/String" q.1 A s s.heap ∧ va_OF "java/lang/String" "coder" "B" (.int 0) q.1 A s s.heap ∧ va_OF "java/lang/String" "value" "[B" (.ref q.2) q.1 A s s.heap ∧ va_T .byte q.2 (strB 22).length (fun j => .int ((strB 22).getD j 0)) A s s.heap ∧ vk_R (strOwn 22) (strIdx 22) (strTx 22) q.1 s := by
  have m : ∀ (i : Nat) (c : Cond), nwS_2[i]? = some c → c.before args s = true := fun i c h => hs c (isSub_mem _ _ nwS_2_ok c (List.mem_of_getElem? h))
  refine str_of (own := "BlueBagModel") (idx := 21) (tx := "beside") (bl := [98, 101, 115, 105, 100, 101]) (by decide) (m 45 _ rfl) (m 46 _ rfl) (m 47 _ rfl) (m 48 _ rfl) (fun j hj => ?_) (hts _ (tb_in (isSub_mem _ _ nwSR_ok _ (List.mem_of_getElem? (i := 22) rfl)))) hA
  match j, hj with
  | 0, _ => exact m 49 _ rfl
  | 1, _ => exact m 50 _ rfl
  | 2, _ => exact m 51 _ rfl
  | 3, _ => exact m 52 _ rfl
  | 4, _ => exact m 53 _ rfl
  | 5, _ => exact m 54 _ rfl
  | j + 6, hj => exact absurd hj (by simp)
theorem str_23 {args : Array Value} {s : State} {A : Nat → Prop} (hs : ∀ c ∈ flatC (Cond.and given_1 narrow_1), c.before args s = true) (hts : ∀ w ∈ lw_tbl, w.before args s = true) (hA : ∀ a : Nat, a < s.heap.size → ¬ A a) :
    ∃ q : Nat × Nat, va_O "java/lang/String" q.1 A s s.heap ∧ va_OF "java/lang/String" "coder" "B" (.int 0) q.1 A s s.heap ∧ va_OF "java/lang/String" "value" "[B" (.ref q.2) q.1 A s s.heap ∧ va_T .byte q.2 (strB 23).length (fun j => .int ((strB 23).getD j 0)) A s s.heap ∧ vk_R (strOwn 23) (strIdx 23) (strTx 23) q.1 s := by
  have m : ∀ (i : Nat) (c : Cond), nwS_2[i]? = some c → c.before args s = true := fun i c h => hs c (isSub_mem _ _ nwS_2_ok c (List.mem_of_getElem? h))
  refine str_of (own := "BlueBagModel") (idx := 23) (tx := "row") (bl := [114, 111, 119]) (by decide) (m 55 _ rfl) (m 56 _ rfl) (m 57 _ rfl) (m 58 _ rfl) (fun j hj => ?_) (hts _ (tb_in (isSub_mem _ _ nwSR_ok _ (List.mem_of_getElem? (i := 23) rfl)))) hA
  match j, hj with
  | 0, _ => exact m 59 _ rfl
  | 1, _ => exact m 60 _ rfl
  | 2, _ => exact m 61 _ rfl
  | j + 3, hj => exact absurd hj (by simp)
theorem str_24 {args : Array Value} {s : State} {A : Nat → Prop} (hs : ∀ c ∈ flatC (Cond.and given_1 narrow_1), c.before args s = true) (hts : ∀ w ∈ lw_tbl, w.before args s = true) (hA : ∀ a : Nat, a < s.heap.size → ¬ A a) :
    ∃ q : Nat × Nat, va_O "java/lang/String" q.1 A s s.heap ∧ va_OF "java/lang/String" "coder" "B" (.int 0) q.1 A s s.heap ∧ va_OF "java/lang/String" "value" "[B" (.ref q.2) q.1 A s s.heap ∧ va_T .byte q.2 (strB 24).length (fun j => .int ((strB 24).getD j 0)) A s s.heap ∧ vk_R (strOwn 24) (strIdx 24) (strTx 24) q.1 s := by
  have m : ∀ (i : Nat) (c : Cond), nwS_3[i]? = some c → c.before args s = true := fun i c h => hs c (isSub_mem _ _ nwS_3_ok c (List.mem_of_getElem? h))
  refine str_of (own := "BlueBagModel") (idx := 25) (tx := "day") (bl := [100, 97, 121]) (by decide) (m 0 _ rfl) (m 1 _ rfl) (m 2 _ rfl) (m 3 _ rfl) (fun j hj => ?_) (hts _ (tb_in (isSub_mem _ _ nwSR_ok _ (List.mem_of_getElem? (i := 24) rfl)))) hA
  match j, hj with
  | 0, _ => exact m 4 _ rfl
  | 1, _ => exact m 5 _ rfl
  | 2, _ => exact m 6 _ rfl
  | j + 3, hj => exact absurd hj (by simp)
theorem str_25 {args : Array Value} {s : State} {A : Nat → Prop} (hs : ∀ c ∈ flatC (Cond.and given_1 narrow_1), c.before args s = true) (hts : ∀ w ∈ lw_tbl, w.before args s = true) (hA : ∀ a : Nat, a < s.heap.size → ¬ A a) :
    ∃ q : Nat × Nat, va_O "java/lang/String" q.1 A s s.heap ∧ va_OF "java/lang/String" "coder" "B" (.int 0) q.1 A s s.heap ∧ va_OF "java/lang/String" "value" "[B" (.ref q.2) q.1 A s s.heap ∧ va_T .byte q.2 (strB 25).length (fun j => .int ((strB 25).getD j 0)) A s s.heap ∧ vk_R (strOwn 25) (strIdx 25) (strTx 25) q.1 s := by
  have m : ∀ (i : Nat) (c : Cond), nwS_3[i]? = some c → c.before args s = true := fun i c h => hs c (isSub_mem _ _ nwS_3_ok c (List.mem_of_getElem? h))
  refine str_of (own := "BlueBagModel") (idx := 27) (tx := "skill") (bl := [115, 107, 105, 108, 108]) (by decide) (m 7 _ rfl) (m 8 _ rfl) (m 9 _ rfl) (m 10 _ rfl) (fun j hj => ?_) (hts _ (tb_in (isSub_mem _ _ nwSR_ok _ (List.mem_of_getElem? (i := 25) rfl)))) hA
  match j, hj with
  | 0, _ => exact m 11 _ rfl
  | 1, _ => exact m 12 _ rfl
  | 2, _ => exact m 13 _ rfl
  | 3, _ => exact m 14 _ rfl
  | 4, _ => exact m 15 _ rfl
  | j + 5, hj => exact absurd hj (by simp)
theorem str_26 {args : Array Value} {s : State} {A : Nat → Prop} (hs : ∀ c ∈ flatC (Cond.and given_1 narrow_1), c.before args s = true) (hts : ∀ w ∈ lw_tbl, w.before args s = true) (hA : ∀ a : Nat, a < s.heap.size → ¬ A a) :
    ∃ q : Nat × Nat, va_O "java/lang/String" q.1 A s s.heap ∧ va_OF "java/lang/String" "coder" "B" (.int 0) q.1 A s s.heap ∧ va_OF "java/lang/String" "value" "[B" (.ref q.2) q.1 A s s.heap ∧ va_T .byte q.2 (strB 26).length (fun j => .int ((strB 26).getD j 0)) A s s.heap ∧ vk_R (strOwn 26) (strIdx 26) (strTx 26) q.1 s := by
  have m : ∀ (i : Nat) (c : Cond), nwS_3[i]? = some c → c.before args s = true := fun i c h => hs c (isSub_mem _ _ nwS_3_ok c (List.mem_of_getElem? h))
  refine str_of (own := "BlueBagModel") (idx := 29) (tx := "left") (bl := [108, 101, 102, 116]) (by decide) (m 16 _ rfl) (m 17 _ rfl) (m 18 _ rfl) (m 19 _ rfl) (fun j hj => ?_) (hts _ (tb_in (isSub_mem _ _ nwSR_ok _ (List.mem_of_getElem? (i := 26) rfl)))) hA
  match j, hj with
  | 0, _ => exact m 20 _ rfl
  | 1, _ => exact m 21 _ rfl
  | 2, _ => exact m 22 _ rfl
  | 3, _ => exact m 23 _ rfl
  | j + 4, hj => exact absurd hj (by simp)
theorem str_27 {args : Array Value} {s : State} {A : Nat → Prop} (hs : ∀ c ∈ flatC (Cond.and given_1 narrow_1), c.before args s = true) (hts : ∀ w ∈ lw_tbl, w.before args s = true) (hA : ∀ a : Nat, a < s.heap.size → ¬ A a) :
    ∃ q : Nat × Nat, va_O "java/lang/String" q.1 A s s.heap ∧ va_OF "java/lang/String" "coder" "B" (.int 0) q.1 A s s.heap ∧ va_OF "java/lang/String" "value" "[B" (.ref q.2) q.1 A s s.heap ∧ va_T .byte q.2 (strB 27).length (fun j => .int ((strB 27).getD j 0)) A s s.heap ∧ vk_R (strOwn 27) (strIdx 27) (strTx 27) q.1 s := by
  have m : ∀ (i : Nat) (c : Cond), nwS_3[i]? = some c → c.before args s = true := fun i c h => hs c (isSub_mem _ _ nwS_3_ok c (List.mem_of_getElem? h))
  refine str_of (own := "BlueBagModel") (idx := 293) (tx := "sky") (bl := [115, 107, 121]) (by decide) (m 24 _ rfl) (m 25 _ rfl) (m 26 _ rfl) (m 27 _ rfl) (fun j hj => ?_) (hts _ (tb_in (isSub_mem _ _ nwSR_ok _ (List.mem_of_getElem? (i := 27) rfl)))) hA
  match j, hj with
  | 0, _ => exact m 28 _ rfl
  | 1, _ => exact m 29 _ rfl
  | 2, _ => exact m 30 _ rfl
  | j + 3, hj => exact absurd hj (by simp)
theorem str_28 {args : Array Value} {s : State} {A : Nat → Prop} (hs : ∀ c ∈ flatC (Cond.and given_1 narrow_1), c.before args s = true) (hts : ∀ w ∈ lw_tbl, w.before args s = true) (hA : ∀ a : Nat, a < s.heap.size → ¬ A a) :
    ∃ q : Nat × Nat, va_O "java/lang/String" q.1 A s s.heap ∧ va_OF "java/lang/String" "coder" "B" (.int 0) q.1 A s s.heap ∧ va_OF "java/lang/String" "value" "[B" (.ref q.2) q.1 A s s.heap ∧ va_T .byte q.2 (strB 28).length (fun j => .int ((strB 28).getD j 0)) A s s.heap ∧ vk_R (strOwn 28) (strIdx 28) (strTx 28) q.1 s := by
  have m : ∀ (i : Nat) (c : Cond), nwS_3[i]? = some c → c.before args s = true := fun i c h => hs c (isSub_mem _ _ nwS_3_ok c (List.mem_of_getElem? h))
  refine str_of (own := "BlueBagModel") (idx := 295) (tx := "knobs") (bl := [107, 110, 111, 98, 115]) (by decide) (m 31 _ rfl) (m 32 _ rfl) (m 33 _ rfl) (m 34 _ rfl) (fun j hj => ?_) (hts _ (tb_in (isSub_mem _ _ nwSR_ok _ (List.mem_of_getElem? (i := 28) rfl)))) hA
  match j, hj with
  | 0, _ => exact m 35 _ rfl
  | 1, _ => exact m 36 _ rfl
  | 2, _ => exact m 37 _ rfl
  | 3, _ => exact m 38 _ rfl
  | 4, _ => exact m 39 _ rfl
  | j + 5, hj => exact absurd hj (by simp)
theorem str_29 {args : Array Value} {s : State} {A : Nat → Prop} (hs : ∀ c ∈ flatC (Cond.and given_1 narrow_1), c.before args s = true) (hts : ∀ w ∈ lw_tbl, w.before args s = true) (hA : ∀ a : Nat, a < s.heap.size → ¬ A a) :
    ∃ q : Nat × Nat, va_O "java/lang/String" q.1 A s s.heap ∧ va_OF "java/lang/String" "coder" "B" (.int 0) q.1 A s s.heap ∧ va_OF "java/lang/String" "value" "[B" (.ref q.2) q.1 A s s.heap ∧ va_T .byte q.2 (strB 29).length (fun j => .int ((strB 29).getD j 0)) A s s.heap ∧ vk_R (strOwn 29) (strIdx 29) (strTx 29) q.1 s := by
  have m : ∀ (i : Nat) (c : Cond), nwS_3[i]? = some c → c.before args s = true := fun i c h => hs c (isSub_mem _ _ nwS_3_ok c (List.mem_of_getElem? h))
  refine str_of (own := "BlueBagModel") (idx := 296) (tx := "rinse") (bl := [114, 105, 110, 115, 101]) (by decide) (m 40 _ rfl) (m 41 _ rfl) (m 42 _ rfl) (m 43 _ rfl) (fun j hj => ?_) (hts _ (tb_in (isSub_mem _ _ nwSR_ok _ (List.mem_of_getElem? (i := 29) rfl)))) hA
  match j, hj with
  | 0, _ => exact m 44 _ rfl
  | 1, _ => exact m 45 _ rfl
  | 2, _ => exact m 46 _ rfl
  | 3, _ => exact m 47 _ rfl
  | 4, _ => exact m 48 _ rfl
  | j + 5, hj => exact absurd hj (by simp)
theorem str_30 {args : Array Value} {s : State} {A : Nat → Prop} (hs : ∀ c ∈ flatC (Cond.and given_1 narrow_1), c.before args s = true) (hts : ∀ w ∈ lw_tbl, w.before args s = true) (hA : ∀ a : Nat, a < s.heap.size → ¬ A a) :
    ∃ q : Nat × Nat, va_O "java/lang/String" q.1 A s s.heap ∧ va_OF "java/lang/String" "coder" "B" (.int 0) q.1 A s s.heap ∧ va_OF "java/lang/String" "value" "[B" (.ref q.2) q.1 A s s.heap ∧ va_T .byte q.2 (strB 30).length (fun j => .int ((strB 30).getD j 0)) A s s.heap ∧ vk_R (strOwn 30) (strIdx 30) (strTx 30) q.1 s := by
  have m : ∀ (i : Nat) (c : Cond), nwS_3[i]? = some c → c.before args s = true := fun i c h => hs c (isSub_mem _ _ nwS_3_ok c (List.mem_of_getElem? h))
  refine str_of (own := "BlueBagModel") (idx := 298) (tx := "bound") (bl := [98, 111, 117, 110, 100]) (by decide) (m 49 _ rfl) (m 50 _ rfl) (m 51 _ rfl) (m 52 _ rfl) (fun j hj => ?_) (hts _ (tb_in (isSub_mem _ _ nwSR_ok _ (List.mem_of_getElem? (i := 30) rfl)))) hA
  match j, hj with
  | 0, _ => exact m 53 _ rfl
  | 1, _ => exact m 54 _ rfl
  | 2, _ => exact m 55 _ rfl
  | 3, _ => exact m 56 _ rfl
  | 4, _ => exact m 57 _ rfl
  | j + 5, hj => exact absurd hj (by simp)
theorem str_31 {args : Array Value} {s : State} {A : Nat → Prop} (hs : ∀ c ∈ flatC (Cond.and given_1 narrow_1), c.before args s = true) (hts : ∀ w ∈ lw_tbl, w.before args s = true) (hA : ∀ a : Nat, a < s.heap.size → ¬ A a) :
    ∃ q : Nat × Nat, va_O "java/lang/String" q.1 A s s.heap ∧ va_OF "java/lang/String" "coder" "B" (.int 0) q.1 A s s.heap ∧ va_OF "java/lang/String" "value" "[B" (.ref q.2) q.1 A s s.heap ∧ va_T .byte q.2 (strB 31).length (fun j => .int ((strB 31).getD j 0)) A s s.heap ∧ vk_R (strOwn 31) (strIdx 31) (strTx 31) q.1 s := by
  have m : ∀ (i : Nat) (c : Cond), nwS_3[i]? = some c → c.before args s = true := fun i c h => hs c (isSub_mem _ _ nwS_3_ok c (List.mem_of_getElem? h))
  refine str_of (own := "BlueBagModel") (idx := 300) (tx := "dyes") (bl := [100, 121, 101, 115]) (by decide) (m 58 _ rfl) (m 59 _ rfl) (m 60 _ rfl) (m 61 _ rfl) (fun j hj => ?_) (hts _ (tb_in (isSub_mem _ _ nwSR_ok _ (List.mem_of_getElem? (i := 31) rfl)))) hA
  match j, hj with
  | 0, _ => exact m 62 _ rfl
  | 1, _ => exact m 63 _ rfl
  | 2, _ => exact m 64 _ rfl
  | 3, _ => exact m 65 _ rfl
  | j + 4, hj => exact absurd hj (by simp)
theorem str_32 {args : Array Value} {s : State} {A : Nat → Prop} (hs : ∀ c ∈ flatC (Cond.and given_1 narrow_1), c.before args s = true) (hts : ∀ w ∈ lw_tbl, w.before args s = true) (hA : ∀ a : Nat, a < s.heap.size → ¬ A a) :
    ∃ q : Nat × Nat, va_O "java/lang/String" q.1 A s s.heap ∧ va_OF "java/lang/String" "coder" "B" (.int 0) q.1 A s s.heap ∧ va_OF "java/lang/String" "value" "[B" (.ref q.2) q.1 A s s.heap ∧ va_T .byte q.2 (strB 32).length (fun j => .int ((strB 32).getD j 0)) A s s.heap ∧ vk_R (strOwn 32) (strIdx 32) (strTx 32) q.1 s := by
  have m : ∀ (i : Nat) (c : Cond), nwS_4[i]? = some c → c.before args s = true := fun i c h => hs c (isSub_mem _ _ nwS_4_ok c (List.mem_of_getElem? h))
  refine str_of (own := "BlueBagModel") (idx := 302) (tx := "fades") (bl := [102, 97, 100, 101, 115]) (by decide) (m 0 _ rfl) (m 1 _ rfl) (m 2 _ rfl) (m 3 _ rfl) (fun j hj => ?_) (hts _ (tb_in (isSub_mem _ _ nwSR_ok _ (List.mem_of_getElem? (i := 32) rfl)))) hA
  match j, hj with
  | 0, _ => exact m 4 _ rfl
  | 1, _ => exact m 5 _ rfl
  | 2, _ => exact m 6 _ rfl
  | 3, _ => exact m 7 _ rfl
  | 4, _ => exact m 8 _ rfl
  | j + 5, hj => exact absurd hj (by simp)
theorem str_33 {args : Array Value} {s : State} {A : Nat → Prop} (hs : ∀ c ∈ flatC (Cond.and given_1 narrow_1), c.before args s = true) (hts : ∀ w ∈ lw_tbl, w.before args s = true) (hA : ∀ a : Nat, a < s.heap.size → ¬ A a) :
    ∃ q : Nat × Nat, va_O "java/lang/String" q.1 A s s.heap ∧ va_OF "java/lang/String" "coder" "B" (.int 0) q.1 A s s.heap ∧ va_OF "java/lang/String" "value" "[B" (.ref q.2) q.1 A s s.heap ∧ va_T .byte q.2 (strB 33).length (fun j => .int ((strB 33).getD j 0)) A s s.heap ∧ vk_R (strOwn 33) (strIdx 33) (strTx 33) q.1 s := by
  have m : ∀ (i : Nat) (c : Cond), nwS_4[i]? = some c → c.before args s = true := fun i c h => hs c (isSub_mem _ _ nwS_4_ok c (List.mem_of_getElem? h))
  refine str_of (own := "BlueBagModel") (idx := 265) (tx := "not") (bl := [110, 111, 116]) (by decide) (m 9 _ rfl) (m 10 _ rfl) (m 11 _ rfl) (m 12 _ rfl) (fun j hj => ?_) (hts _ (tb_in (isSub_mem _ _ nwSR_ok _ (List.mem_of_getElem? (i := 33) rfl)))) hA
  match j, hj with
  | 0, _ => exact m 13 _ rfl
  | 1, _ => exact m 14 _ rfl
  | 2, _ => exact m 15 _ rfl
  | j + 3, hj => exact absurd hj (by simp)
theorem str_34 {args : Array Value} {s : State} {A : Nat → Prop} (hs : ∀ c ∈ flatC (Cond.and given_1 narrow_1), c.before args s = true) (hts : ∀ w ∈ lw_tbl, w.before args s = true) (hA : ∀ a : Nat, a < s.heap.size → ¬ A a) :
    ∃ q : Nat × Nat, va_O "java/lang/String" q.1 A s s.heap ∧ va_OF "java/lang/String" "coder" "B" (.int 0) q.1 A s s.heap ∧ va_OF "java/lang/String" "value" "[B" (.ref q.2) q.1 A s s.heap ∧ va_T .byte q.2 (strB 34).length (fun j => .int ((strB 34).getD j 0)) A s s.heap ∧ vk_R (strOwn 34) (strIdx 34) (strTx 34) q.1 s := by
  have m : ∀ (i : Nat) (c : Cond), nwS_4[i]? = some c → c.before args s = true := fun i c h => hs c (isSub_mem _ _ nwS_4_ok c (List.mem_of_getElem? h))
  refine str_of (own := "BlueBagModel") (idx := 273) (tx := "and") (bl := [97, 110, 100]) (by decide) (m 16 _ rfl) (m 17 _ rfl) (m 18 _ rfl) (m 19 _ rfl) (fun j hj => ?_) (hts _ (tb_in (isSub_mem _ _ nwSR_ok _ (List.mem_of_getElem? (i := 34) rfl)))) hA
  match j, hj with
  | 0, _ => exact m 20 _ rfl
  | 1, _ => exact m 21 _ rfl
  | 2, _ => exact m 22 _ rfl
  | j + 3, hj => exact absurd hj (by simp)
theorem str_35 {args : Array Value} {s : State} {A : Nat → Prop} (hs : ∀ c ∈ flatC (Cond.and given_1 narrow_1), c.before args s = true) (hts : ∀ w ∈ lw_tbl, w.before args s = true) (hA : ∀ a : Nat, a < s.heap.size → ¬ A a) :
    ∃ q : Nat × Nat, va_O "java/lang/String" q.1 A s s.heap ∧ va_OF "java/lang/String" "coder" "B" (.int 0) q.1 A s s.heap ∧ va_OF "java/lang/String" "value" "[B" (.ref q.2) q.1 A s s.heap ∧ va_T .byte q.2 (strB 35).length (fun j => .int ((strB 35).getD j 0)) A s s.heap ∧ vk_R (strOwn 35) (strIdx 35) (strTx 35) q.1 s := by
  have m : ∀ (i : Nat) (c : Cond), nwS_4[i]? = some c → c.before args s = true := fun i c h => hs c (isSub_mem _ _ nwS_4_ok c (List.mem_of_getElem? h))
  refine str_of (own := "BlueBagModel") (idx := 278) (tx := "or") (bl := [111, 114]) (by decide) (m 23 _ rfl) (m 24 _ rfl) (m 25 _ rfl) (m 26 _ rfl) (fun j hj => ?_) (hts _ (tb_in (isSub_mem _ _ nwSR_ok _ (List.mem_of_getElem? (i := 35) rfl)))) hA
  match j, hj with
  | 0, _ => exact m 27 _ rfl
  | 1, _ => exact m 28 _ rfl
  | j + 2, hj => exact absurd hj (by simp)
theorem str_36 {args : Array Value} {s : State} {A : Nat → Prop} (hs : ∀ c ∈ flatC (Cond.and given_1 narrow_1), c.before args s = true) (hts : ∀ w ∈ lw_tbl, w.before args s = true) (hA : ∀ a : Nat, a < s.heap.size → ¬ A a) :
    ∃ q : Nat × Nat, va_O "java/lang/String" q.1 A s s.heap ∧ va_OF "java/lang/String" "coder" "B" (.int 0) q.1 A s s.heap ∧ va_OF "java/lang/String" "value" "[B" (.ref q.2) q.1 A s s.heap ∧ va_T .byte q.2 (strB 36).length (fun j => .int ((strB 36).getD j 0)) A s s.heap ∧ vk_R (strOwn 36) (strIdx 36) (strTx 36) q.1 s := by
  have m : ∀ (i : Nat) (c : Cond), nwS_4[i]? = some c → c.before args s = true := fun i c h => hs c (isSub_mem _ _ nwS_4_ok c (List.mem_of_getElem? h))
  refine str_of (own := "BlueBagModel") (idx := 313) (tx := "peg") (bl := [112, 101, 103]) (by decide) (m 29 _ rfl) (m 30 _ rfl) (m 31 _ rfl) (m 32 _ rfl) (fun j hj => ?_) (hts _ (tb_in (isSub_mem _ _ nwSR_ok _ (List.mem_of_getElem? (i := 36) rfl)))) hA
  match j, hj with
  | 0, _ => exact m 33 _ rfl
  | 1, _ => exact m 34 _ rfl
  | 2, _ => exact m 35 _ rfl
  | j + 3, hj => exact absurd hj (by simp)
theorem strs_of {args : Array Value} {s : State} {A : Nat → Prop} (hs : ∀ c ∈ flatC (Cond.and given_1 narrow_1), c.before args s = true) (hts : ∀ w ∈ lw_tbl, w.before args s = true) (hA : ∀ a : Nat, a < s.heap.size → ¬ A a) :
    ∀ k, ∃ q : Nat × Nat, k < nStr → va_O "java/lang/String" q.1 A s s.heap ∧ va_OF "java/lang/String" "coder" "B" (.int 0) q.1 A s s.heap ∧ va_OF "java/lang/String" "value" "[B" (.ref q.2) q.1 A s s.heap ∧ va_T .byte q.2 (strB k).length (fun j => .int ((strB k).getD j 0)) A s s.heap ∧ vk_R (strOwn k) (strIdx k) (strTx k) q.1 s := by
  intro k
  match k with
  | 0 => obtain ⟨q, h⟩ := str_0 (A := A) hs hts hA; exact ⟨q, fun _ => h⟩
  | 1 => obtain ⟨q, h⟩ := str_1 (A := A) hs hts hA; exact ⟨q, fun _ => h⟩
  | 2 => obtain ⟨q, h⟩ := str_2 (A := A) hs hts hA; exact ⟨q, fun _ => h⟩
  | 3 => obtain ⟨q, h⟩ := str_3 (A := A) hs hts hA; exact ⟨q, fun _ => h⟩
  | 4 => obtain ⟨q, h⟩ := str_4 (A := A) hs hts hA; exact ⟨q, fun _ => h⟩
  | 5 => obtain ⟨q, h⟩ := str_5 (A := A) hs hts hA; exact ⟨q, fun _ => h⟩
  | 6 => obtain ⟨q, h⟩ := str_6 (A := A) hs hts hA; exact ⟨q, fun _ => h⟩
  | 7 => obtain ⟨q, h⟩ := str_7 (A := A) hs hts hA; exact ⟨q, fun _ => h⟩
  | 8 => obtain ⟨q, h⟩ := str_8 (A := A) hs hts hA; exact ⟨q, fun _ => h⟩
  | 9 => obtain ⟨q, h⟩ := str_9 (A := A) hs hts hA; exact ⟨q, fun _ => h⟩
  | 10 => obtain ⟨q, h⟩ := str_10 (A := A) hs hts hA; exact ⟨q, fun _ => h⟩
  | 11 => obtain ⟨q, h⟩ := str_11 (A := A) hs hts hA; exact ⟨q, fun _ => h⟩
  | 12 => obtain ⟨q, h⟩ := str_12 (A := A) hs hts hA; exact ⟨q, fun _ => h⟩
  | 13 => obtain ⟨q, h⟩ := str_13 (A := A) hs hts hA; exact ⟨q, fun _ => h⟩
  | 14 => obtain ⟨q, h⟩ := str_14 (A := A) hs hts hA; exact ⟨q, fun _ => h⟩
  | 15 => obtain ⟨q, h⟩ := str_15 (A := A) hs hts hA; exact ⟨q, fun _ => h⟩
  | 16 => obtain ⟨q, h⟩ := str_16 (A := A) hs hts hA; exact ⟨q, fun _ => h⟩
  | 17 => obtain ⟨q, h⟩ := str_17 (A := A) hs hts hA; exact ⟨q, fun _ => h⟩
  | 18 => obtain ⟨q, h⟩ := str_18 (A := A) hs hts hA; exact ⟨q, fun _ => h⟩
  | 19 => obtain ⟨q, h⟩ := str_19 (A := A) hs hts hA; exact ⟨q, fun _ => h⟩
  | 20 => obtain ⟨q, h⟩ := str_20 (A := A) hs hts hA; exact ⟨q, fun _ => h⟩
  | 21 => obtain ⟨q, h⟩ := str_21 (A := A) hs hts hA; exact ⟨q, fun _ => h⟩
  | 22 => obtain ⟨q, h⟩ := str_22 (A := A) hs hts hA; exact ⟨q, fun _ => h⟩
  | 23 => obtain ⟨q, h⟩ := str_23 (A := A) hs hts hA; exact ⟨q, fun _ => h⟩
  | 24 => obtain ⟨q, h⟩ := str_24 (A := A) hs hts hA; exact ⟨q, fun _ => h⟩
  | 25 => obtain ⟨q, h⟩ := str_25 (A := A) hs hts hA; exact ⟨q, fun _ => h⟩
  | 26 => obtain ⟨q, h⟩ := str_26 (A := A) hs hts hA; exact ⟨q, fun _ => h⟩
  | 27 => obtain ⟨q, h⟩ := str_27 (A := A) hs hts hA; exact ⟨q, fun _ => h⟩
  | 28 => obtain ⟨q, h⟩ := str_28 (A := A) hs hts hA; exact ⟨q, fun _ => h⟩
  | 29 => obtain ⟨q, h⟩ := str_29 (A := A) hs hts hA; exact ⟨q, fun _ => h⟩
  | 30 => obtain ⟨q, h⟩ := str_30 (A := A) hs hts hA; exact ⟨q, fun _ => h⟩
  | 31 => obtain ⟨q, h⟩ := str_31 (A := A) hs hts hA; exact ⟨q, fun _ => h⟩
  | 32 => obtain ⟨q, h⟩ := str_32 (A := A) hs hts hA; exact ⟨q, fun _ => h⟩
  | 33 => obtain ⟨q, h⟩ := str_33 (A := A) hs hts hA; exact ⟨q, fun _ => h⟩
  | 34 => obtain ⟨q, h⟩ := str_34 (A := A) hs hts hA; exact ⟨q, fun _ => h⟩
  | 35 => obtain ⟨q, h⟩ := str_35 (A := A) hs hts hA; exact ⟨q, fun _ => h⟩
  | 36 => obtain ⟨q, h⟩ := str_36 (A := A) hs hts hA; exact ⟨q, fun _ => h⟩
  | k + 37 => exact ⟨(0, 0), fun h => absurd (show k + 37 < 37 from h) (by omega)⟩
theorem kn_of {b : Nat} {s : State} (hts : ∀ w ∈ lw_tbl, w.before #[Value.ref b] s = true) : ∀ k : Nat, ∃ q : ClassId × (Nat → Nat), ∀ z : vw_C, vwCl[k]? = some z → u_Kn s z.1 z.2.1 z.2.2 q.1 q.2 := by
  intro k
  match k with
  | 0 => obtain ⟨c, i, h⟩ := u_known (C := RX0) (T := TX0) (N := 2) (n := 2) hts in_X0 (hts _ ins_0); exact ⟨(c, i), fun z hz => by cases hz; exact h⟩
  | 1 => obtain ⟨c, i, h⟩ := u_known (C := RX1) (T := TX1) (N := 9) (n := 9) hts in_X1 (hts _ ins_1); exact ⟨(c, i), fun z hz => by cases hz; exact h⟩
  | 2 => obtain ⟨c, i, h⟩ := u_known (C := RX2) (T := TX2) (N := 7) (n := 7) hts in_X2 (hts _ ins_2); exact ⟨(c, i), fun z hz => by cases hz; exact h⟩
  | 3 => obtain ⟨c, i, h⟩ := u_known (C := RX3) (T := TX3) (N := 1) (n := 1) hts in_X3 (hts _ ins_3); exact ⟨(c, i), fun z hz => by cases hz; exact h⟩
  | 4 => obtain ⟨c, i, h⟩ := u_known (C := RX4) (T := TX4) (N := 7) (n := 7) hts in_X4 (hts _ ins_4); exact ⟨(c, i), fun z hz => by cases hz; exact h⟩
  | 5 => obtain ⟨c, i, h⟩ := u_known (C := RX5) (T := TX5) (N := 3) (n := 3) hts in_X5 (hts _ ins_5); exact ⟨(c, i), fun z hz => by cases hz; exact h⟩
  | 6 => obtain ⟨c, i, h⟩ := u_known (C := RX6) (T := TX6) (N := 3) (n := 3) hts in_X6 (hts _ ins_6); exact ⟨(c, i), fun z hz => by cases hz; exact h⟩
  | 7 => obtain ⟨c, i, h⟩ := u_known (C := RX7) (T := TX7) (N := 6) (n := 6) hts in_X7 (hts _ ins_7); exact ⟨(c, i), fun z hz => by cases hz; exact h⟩
  | 8 => obtain ⟨c, i, h⟩ := u_known (C := RX8) (T := TX8) (N := 13) (n := 13) hts in_X8 (hts _ ins_8); exact ⟨(c, i), fun z hz => by cases hz; exact h⟩
  | 9 => obtain ⟨c, i, h⟩ := u_known (C := RX9) (T := TX9) (N := 2) (n := 2) hts in_X9 (hts _ ins_9); exact ⟨(c, i), fun z hz => by cases hz; exact h⟩
  | 10 => obtain ⟨c, i, h⟩ := u_known (C := RX10) (T := TX10) (N := 8) (n := 8) hts in_X10 (hts _ ins_10); exact ⟨(c, i), fun z hz => by cases hz; exact h⟩
  | 11 => obtain ⟨c, i, h⟩ := u_known (C := RX11) (T := TX11) (N := 13) (n := 13) hts in_X11 (hts _ ins_11); exact ⟨(c, i), fun z hz => by cases hz; exact h⟩
  | 12 => obtain ⟨c, i, h⟩ := u_known (C := RX12) (T := TX12) (N := 64) (n := 64) hts in_X12 (hts _ ins_12); exact ⟨(c, i), fun z hz => by cases hz; exact h⟩
  | k + 13 => exact ⟨(0, fun _ => 0), fun z hz => by simp [vwCl] at hz⟩
theorem acl_of {b : Nat} {s : State} (hts : ∀ w ∈ lw_tbl, w.before #[Value.ref b] s = true) : ∃ f : Nat → ClassId, ∀ (k : Nat) (q : ClassId × FieldType), [(f 0, FieldType.int), (f 1, .byte), (f 2, .long), (f 3, .object "java/lang/String")][k]? = some q → ArrOfT s q.1 q.2 ∧ va_RA s q.1 q.2 := by
  obtain ⟨c0, k0, p0, a0, b0, d0⟩ := Cond.arrayClass_spec (hts _ acl_int)
  obtain ⟨c1, k1, p1, a1, b1, d1⟩ := Cond.arrayClass_spec (hts _ acl_byte)
  obtain ⟨c2, k2, p2, a2, b2, d2⟩ := Cond.arrayClass_spec (hts _ acl_long)
  obtain ⟨p3, c3, k3, a3, -, b3, d3, e3⟩ := Cond.arrayOver_spec (hts _ aov)
  refine ⟨fun k => if k = 0 then c0 else if k = 1 then c1 else if k = 2 then c2 else c3, fun k q h => ?_⟩
  match k, h with
  | 0, h => cases h; exact ⟨fun n z => ⟨(fun k h => by cases h), k0, b0, p0, d0⟩, a0⟩
  | 1, h => cases h; exact ⟨fun n z => ⟨(fun k h => by cases h), k1, b1, p1, d1⟩, a1⟩
  | 2, h => cases h; exact ⟨fun n z => ⟨(fun k h => by cases h), k2, b2, p2, d2⟩, a2⟩
  | 3, h => cases h; exact ⟨fun n z => ⟨(fun k h => by cases h), k3, b3, p3, d3⟩, ⟨k3, p3, b3, d3, a3, e3⟩⟩
  | k + 4, h => simp at h
theorem sw_1 : Cond.laysStatic "java/lang/String" "COMPACT_STRINGS" "Z" ∈ lw_tbl := by decide +kernel
theorem sw_2 : Cond.initialized "java/lang/String" ∈ lw_tbl := by decide +kernel
theorem sw_3 : Cond.laysStatic "jdk/internal/util/Preconditions" "SIOOBE_FORMATTER" "Ljava/util/function/BiFunction;" ∈ lw_tbl := by decide +kernel
theorem sw_4 : Cond.initialized "jdk/internal/util/Preconditions" ∈ lw_tbl := by decide +kernel
theorem sw_5 : Cond.laysStatic Bundle.tN "UNASSIGNED_STACK" Bundle.steD ∈ lw_tbl := by decide +kernel
theorem sw_6 : Cond.laysStatic Bundle.tN "SUPPRESSED_SENTINEL" Bundle.listD ∈ lw_tbl := by decide +kernel
theorem sw_7 : Cond.initialized Bundle.tN ∈ lw_tbl := by decide +kernel
def nwM : List Cond := [.isRef (.static Bundle.tN "UNASSIGNED_STACK" Bundle.steD), .isRef (.static Bundle.tN "SUPPRESSED_SENTINEL" Bundle.listD), .eq (.static "java/lang/String" "COMPACT_STRINGS" "Z") (.int 1), .isRef (.static "jdk/internal/util/Preconditions" "SIOOBE_FORMATTER" "Ljava/util/function/BiFunction;"), .not (.castable "java/lang/IllegalArgumentException" "java/util/NoSuchElementException")]
theorem nwM_ok : isSub nwM (flatC (Cond.and given_1 narrow_1)) = true := by decide +kernel
set_option maxRecDepth 10000 in
/-- the law's start: what stands there -/
theorem gf_of {b L : Nat} {xs : Nat → Int32} {s : State} {l : Launch} (hflags : l.flags = flags0) (hts : ∀ w ∈ lw_tbl, w.before #[Value.ref b] s = true) (hX : va_X b L xs s s.heap) (hbl : b < s.heap.size) (hgv : (Cond.and given_1 narrow_1).before #[Value.ref b] s = true) :
    ∃ g : GX, GF g l ∧ g.1 = s ∧ g.2.2.2.2.1 = b ∧ g.2.2.2.2.2.1 = L ∧ g.2.2.2.2.2.2 = xs := by
  have hs := flat_of_before _ hgv
  have m : ∀ (i : Nat) (c : Cond), nwM[i]? = some c → c.before #[Value.ref b] s = true := fun i c h => hs c (isSub_mem _ _ nwM_ok c (List.mem_of_getElem? h))
  have hA : ∀ a : Nat, a < s.heap.size → ¬ (fun q : Nat => s.heap.size ≤ q) a := fun a h1 h2 => Nat.lt_irrefl _ (Nat.lt_of_lt_of_le h1 h2)
  obtain ⟨fa, hfa⟩ := acl_of hts
  have h1 := strs_of (A := fun q : Nat => s.heap.size ≤ q) hs hts hA
  have h2 := kn_of hts
  obtain ⟨fm, hfm⟩ : ∃ t : Nat, va_Z "jdk/internal/util/Preconditions" "SIOOBE_FORMATTER" "Ljava/util/function/BiFunction;" .null (fun q : Nat => s.heap.size ≤ q) s s.heap ∨ va_Z "jdk/internal/util/Preconditions" "SIOOBE_FORMATTER" "Ljava/util/function/BiFunction;" (.ref t) (fun q : Nat => s.heap.size ≤ q) s s.heap := by
    rcases va_Zqof (A := fun q : Nat => s.heap.size ≤ q) (hts _ sw_3) (hts _ sw_4) (m 3 _ rfl) hA with h | ⟨t, h⟩
    · exact ⟨0, Or.inl h⟩
    · exact ⟨t, Or.inr h⟩
  let sa : Nat → Nat := fun k => if k = 998 then fm else if k < 1000 then (Classical.choose (h1 k)).1 else (Classical.choose (h1 (k - 1000))).2
  let g : GX := (s, (fun k => (Classical.choose (h2 k)).1, fun k => (Classical.choose (h2 k)).2), fa, sa, b, L, xs)
  refine ⟨g, ⟨hts, ⟨fun k z hz => Classical.choose_spec (h2 k) z hz, hfa⟩, hflags, ⟨fun k hk => ?_, va_Zof (hts _ sw_1) (hts _ sw_2) (va_eqt (m 2 _ rfl)) hA, ?_⟩, ⟨vx_Zqof (hts _ sw_5) (hts _ sw_7) (m 0 _ rfl) hA, vx_Zqof (hts _ sw_6) (hts _ sw_7) (m 1 _ rfl) hA⟩, ⟨hX, hbl, va_Nc.of (m 4 _ rfl)⟩⟩, rfl, rfl, rfl, rfl⟩
  · have hk37 : k < 37 := hk
    have e1 : sa k = (Classical.choose (h1 k)).1 := by
      show (if k = 998 then fm else if k < 1000 then _ else _) = _
      rw [if_neg (by omega), if_pos (by omega)]
    have e2 : sa (1000 + k) = (Classical.choose (h1 k)).2 := by
      show (if 1000 + k = 998 then fm else if 1000 + k < 1000 then _ else (Classical.choose (h1 (1000 + k - 1000))).2) = _
      have h9 : ¬ (1000 + k = 998) := by omega
      have h8 : ¬ (1000 + k < 1000) := by omega
      have e3 : 1000 + k - 1000 = k := Nat.add_sub_cancel_left 1000 k
      refine (if_neg h9).trans ((if_neg h8).trans ?_)
      rw [e3]
    have h := Classical.choose_spec (h1 k) hk
    rw [← e1, ← e2] at h
    exact h
  · have e1 : sa 998 = fm := if_pos rfl
    show va_Z _ _ _ .null _ s s.heap ∨ va_Z _ _ _ (.ref (sa 998)) _ s s.heap
    rw [e1]
    exact hfm
def y_0 : Lay := (fun _ => (9, 0), fun _ _ => 0, 0)
def M_0 : Mem := (fun _ _ => 0, fun _ _ => 0, fun _ _ => 0)
/-- the walk of the law, from its entry: what Layer P owes is f_L_law = 1 -/
theorem start_of (law1 : ∀ (L : Nat) (xs : Nat → Int32), L ≤ 3072 → f_L_law y_0 M_0 L xs = some 1) {p : Program} {e : Env} {s : State} {m : MethodId} {below : List Frame} {meth : Method} {c : Code} (l : Launch) (hflags : l.flags = flags0) {b L : Nat} {xs : Nat → Int32} (hL : L ≤ 3072) (C0 : lw_At p s m meth c b L xs) : W p l e room_1 s m #[Value.ref b] below meth c s.heap [] 0 0 (lw_Z below #[Value.ref b] s) (entryFrame m ([Value.ref b] : List Value).toArray 7) := by
  obtain ⟨hx, hb, hr, hml, hown, hts, hX, hbl, hlocks, hgv⟩ := id C0
  obtain ⟨g, hG, eg, eb, eL, ex⟩ := gf_of hflags hts hX hbl hgv
  subst eg
  subst eb
  have C : CX g (p, l, e, room_1, g.1, m, #[Value.ref g.2.2.2.2.1], below, meth, c) RL code 7 837 601024 7293034 := ⟨hx, hb, hml, hown, hlocks, ⟨Nat.le_of_ble_eq_true rfl, Nat.le_of_ble_eq_true rfl, rfl, rfl⟩, hG, State.WarmedH.refl g.1, Nat.le_refl _, fun _ _ => rfl⟩
  have k := w_L_law (Q := lw_Z below #[Value.ref g.2.2.2.2.1] g.1) y_0 M_0 eL ex C ⟨rfl, rfl, rfl, hr, rfl⟩ rfl (law1 L xs hL) rfl
  rw [lg_entry_eq]
  have h1 : RelH g y_0 M_0 g.1.heap := ⟨fun k q h => by simp [wld, y_0] at h, Nat.le_of_ble_eq_true rfl⟩
  have e1 : ([Value.ref 1999] : List Value).map (va g) = [Value.ref g.2.2.2.2.1] := by
    show [Value.ref (ad g 1999)] = _
    rw [adX]
  have h2 := start_LV (g := g) (av := [.ref 1999]) (maxL := 7) (L0 := [some (.ref 1999), none, none, none, none, none, none]) rfl (Nat.le_of_ble_eq_true rfl)
  rw [e1] at h2
  exact k g.1.heap [] _ h1 va_S.rf h2

