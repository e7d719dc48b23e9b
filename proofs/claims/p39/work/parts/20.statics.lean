def isSub : List Cond → List Cond → Bool
  | [], _ => true
  | _ :: _, [] => false
  | a :: as, b :: bs => if a = b then isSub as bs else isSub (a :: as) bs
theorem isSub_mem : ∀ (bs as : List Cond), isSub as bs = true → ∀ w ∈ as, w ∈ bs := by
  intro bs
  induction bs with
  | nil =>
    intro as h w hw
    cases as with
    | nil => exact hw
    | cons a as => exact absurd h (by simp [isSub])
  | cons b bs ih =>
    intro as h w hw
    cases as with
    | nil => exact absurd hw List.not_mem_nil
    | cons a as =>
      simp only [isSub] at h
      by_cases e : a = b
      · rw [if_pos e] at h
        rcases List.mem_cons.mp hw with r | r
        · rw [r, e]; exact List.mem_cons_self
        · exact List.mem_cons_of_mem _ (ih as h w r)
      · rw [if_neg e] at h
        exact List.mem_cons_of_mem _ (ih (a :: as) h w hw)
theorem tin_0 {w : Cond} (h : w ∈ k2_sels lw_privs) : w ∈ lw_tbl := List.mem_append_left _ h
theorem tin_1 {w : Cond} (h : w ∈ tables_1_1) : w ∈ lw_tbl := List.mem_append_right _ (List.mem_append_left _ h)
theorem tin_2 {w : Cond} (h : w ∈ tables_1_2) : w ∈ lw_tbl := List.mem_append_right _ (List.mem_append_right _ (List.mem_append_left _ h))
theorem tin_3 {w : Cond} (h : w ∈ tables_1_3) : w ∈ lw_tbl := List.mem_append_right _ (List.mem_append_right _ (List.mem_append_right _ (List.mem_append_left _ h)))
theorem tin_4 {w : Cond} (h : w ∈ tables_1_4) : w ∈ lw_tbl := List.mem_append_right _ (List.mem_append_right _ (List.mem_append_right _ (List.mem_append_right _ (List.mem_append_left _ h))))
theorem tin_5 {w : Cond} (h : w ∈ tables_1_5) : w ∈ lw_tbl := List.mem_append_right _ (List.mem_append_right _ (List.mem_append_right _ (List.mem_append_right _ (List.mem_append_right _ (List.mem_append_left _ h)))))
theorem tin_6 {w : Cond} (h : w ∈ tables_1_6) : w ∈ lw_tbl := List.mem_append_right _ (List.mem_append_right _ (List.mem_append_right _ (List.mem_append_right _ (List.mem_append_right _ (List.mem_append_right _ (List.mem_append_left _ h))))))
theorem tin_7 {w : Cond} (h : w ∈ tables_1_7) : w ∈ lw_tbl := List.mem_append_right _ (List.mem_append_right _ (List.mem_append_right _ (List.mem_append_right _ (List.mem_append_right _ (List.mem_append_right _ (List.mem_append_right _ (List.mem_append_left _ h)))))))
theorem tin_8 {w : Cond} (h : w ∈ tables_1_8) : w ∈ lw_tbl := List.mem_append_right _ (List.mem_append_right _ (List.mem_append_right _ (List.mem_append_right _ (List.mem_append_right _ (List.mem_append_right _ (List.mem_append_right _ (List.mem_append_right _ (List.mem_append_left _ h))))))))
theorem tin_9 {w : Cond} (h : w ∈ tables_1_9) : w ∈ lw_tbl := List.mem_append_right _ (List.mem_append_right _ (List.mem_append_right _ (List.mem_append_right _ (List.mem_append_right _ (List.mem_append_right _ (List.mem_append_right _ (List.mem_append_right _ (List.mem_append_right _ h))))))))
def nd_0 : List Cond := [(Jvm.Cond.selects "BlueBag$Coast" ({ cls := "BlueBag$Coast", name := "bitsBeside", desc := "(I)I" } : Jvm.MethodName) ({ cls := "BlueBag$Coast", name := "bitsBeside", desc := "(I)I" } : Jvm.MethodName)), (Jvm.Cond.selects "BlueBag" ({ cls := "BlueBag", name := "refuseAct", desc := "()I" } : Jvm.MethodName) ({ cls := "BlueBag", name := "refuseAct", desc := "()I" } : Jvm.MethodName)), (Jvm.Cond.selects "BlueBag$Sky" ({ cls := "BlueBag$Sky", name := "setValues", desc := "(I)V" } : Jvm.MethodName) ({ cls := "BlueBag$Sky", name := "setValues", desc := "(I)V" } : Jvm.MethodName)), (Jvm.Cond.selects "BlueBag$Sky" ({ cls := "BlueBag$Sky", name := "drip", desc := "(II)V" } : Jvm.MethodName) ({ cls := "BlueBag$Sky", name := "drip", desc := "(II)V" } : Jvm.MethodName)), (Jvm.Cond.selects "BlueBag$Sky" ({ cls := "BlueBag$Sky", name := "markOverdone", desc := "()V" } : Jvm.MethodName) ({ cls := "BlueBag$Sky", name := "markOverdone", desc := "()V" } : Jvm.MethodName)), (Jvm.Cond.selects "BlueBag$Sky" ({ cls := "BlueBag$Sky", name := "fade", desc := "()V" } : Jvm.MethodName) ({ cls := "BlueBag$Sky", name := "fade", desc := "()V" } : Jvm.MethodName)), (Jvm.Cond.selects "BlueBag$Sky" ({ cls := "BlueBag$Sky", name := "fadeOf", desc := "(I)I" } : Jvm.MethodName) ({ cls := "BlueBag$Sky", name := "fadeOf", desc := "(I)I" } : Jvm.MethodName)), (Jvm.Cond.selects "BlueBag" ({ cls := "BlueBag", name := "lookAhead", desc := "(I)V" } : Jvm.MethodName) ({ cls := "BlueBag", name := "lookAhead", desc := "(I)V" } : Jvm.MethodName)), (Jvm.Cond.selects "BlueBag" ({ cls := "BlueBag", name := "lookAheadIfResting", desc := "(IZ)V" } : Jvm.MethodName) ({ cls := "BlueBag", name := "lookAheadIfResting", desc := "(IZ)V" } : Jvm.MethodName)), (Jvm.Cond.selects "BlueBag$CoastReader" ({ cls := "BlueBag$CoastReader", name := "readLine", desc := "()Z" } : Jvm.MethodName) ({ cls := "BlueBag$CoastReader", name := "readLine", desc := "()Z" } : Jvm.MethodName)), (Jvm.Cond.selects "BlueBag$CoastReader" ({ cls := "BlueBag$CoastReader", name := "readSky", desc := "()Z" } : Jvm.MethodName) ({ cls := "BlueBag$CoastReader", name := "readSky", desc := "()Z" } : Jvm.MethodName)), (Jvm.Cond.selects "BlueBag$CoastReader" ({ cls := "BlueBag$CoastReader", name := "passesOnce", desc := "(I)Z" } : Jvm.MethodName) ({ cls := "BlueBag$CoastReader", name := "passesOnce", desc := "(I)Z" } : Jvm.MethodName)), (Jvm.Cond.selects "BlueBag$CoastReader" ({ cls := "BlueBag$CoastReader", name := "readNumber", desc := "(II)I" } : Jvm.MethodName) ({ cls := "BlueBag$CoastReader", name := "readNumber", desc := "(II)I" } : Jvm.MethodName)), (Jvm.Cond.selects "BlueBag$CoastReader" ({ cls := "BlueBag$CoastReader", name := "refuseNumber", desc := "(I)I" } : Jvm.MethodName) ({ cls := "BlueBag$CoastReader", name := "refuseNumber", desc := "(I)I" } : Jvm.MethodName)), (Jvm.Cond.selects "BlueBag$CoastReader" ({ cls := "BlueBag$CoastReader", name := "readBlue", desc := "()Z" } : Jvm.MethodName) ({ cls := "BlueBag$CoastReader", name := "readBlue", desc := "()Z" } : Jvm.MethodName)), (Jvm.Cond.selects "BlueBag$CoastReader" ({ cls := "BlueBag$CoastReader", name := "readCell", desc := "(I)I" } : Jvm.MethodName) ({ cls := "BlueBag$CoastReader", name := "readCell", desc := "(I)I" } : Jvm.MethodName)), (Jvm.Cond.selects "BlueBag$CoastReader" ({ cls := "BlueBag$CoastReader", name := "readGirl", desc := "(Z)Z" } : Jvm.MethodName) ({ cls := "BlueBag$CoastReader", name := "readGirl", desc := "(Z)Z" } : Jvm.MethodName)), (Jvm.Cond.selects "BlueBag$CoastReader" ({ cls := "BlueBag$CoastReader", name := "readPegs", desc := "()Z" } : Jvm.MethodName) ({ cls := "BlueBag$CoastReader", name := "readPegs", desc := "()Z" } : Jvm.MethodName)), (Jvm.Cond.selects "BlueBag$CoastReader" ({ cls := "BlueBag$CoastReader", name := "readKnobs", desc := "()Z" } : Jvm.MethodName) ({ cls := "BlueBag$CoastReader", name := "readKnobs", desc := "()Z" } : Jvm.MethodName)), (Jvm.Cond.selects "BlueBag$CoastReader" ({ cls := "BlueBag$CoastReader", name := "readRinse", desc := "()Z" } : Jvm.MethodName) ({ cls := "BlueBag$CoastReader", name := "readRinse", desc := "()Z" } : Jvm.MethodName)), (Jvm.Cond.selects "BlueBag$CoastReader" ({ cls := "BlueBag$CoastReader", name := "readBound", desc := "()Z" } : Jvm.MethodName) ({ cls := "BlueBag$CoastReader", name := "readBound", desc := "()Z" } : Jvm.MethodName)), (Jvm.Cond.selects "BlueBag$CoastReader" ({ cls := "BlueBag$CoastReader", name := "readRule", desc := "(ILBlueBag$Rule;)Z" } : Jvm.MethodName) ({ cls := "BlueBag$CoastReader", name := "readRule", desc := "(ILBlueBag$Rule;)Z" } : Jvm.MethodName)), (Jvm.Cond.selects "BlueBag$RuleReader" ({ cls := "BlueBag$RuleReader", name := "readExpr", desc := "(I)Z" } : Jvm.MethodName) ({ cls := "BlueBag$RuleReader", name := "readExpr", desc := "(I)Z" } : Jvm.MethodName)), (Jvm.Cond.selects "BlueBag$RuleReader" ({ cls := "BlueBag$RuleReader", name := "readAnd", desc := "(I)Z" } : Jvm.MethodName) ({ cls := "BlueBag$RuleReader", name := "readAnd", desc := "(I)Z" } : Jvm.MethodName)), (Jvm.Cond.selects "BlueBag$RuleReader" ({ cls := "BlueBag$RuleReader", name := "readNot", desc := "(I)Z" } : Jvm.MethodName) ({ cls := "BlueBag$RuleReader", name := "readNot", desc := "(I)Z" } : Jvm.MethodName)), (Jvm.Cond.selects "BlueBag$RuleReader" ({ cls := "BlueBag$RuleReader", name := "readTest", desc := "(I)Z" } : Jvm.MethodName) ({ cls := "BlueBag$RuleReader", name := "readTest", desc := "(I)Z" } : Jvm.MethodName)), (Jvm.Cond.selects "BlueBag$RuleReader" ({ cls := "BlueBag$RuleReader", name := "readSum", desc := "(I)Z" } : Jvm.MethodName) ({ cls := "BlueBag$RuleReader", name := "readSum", desc := "(I)Z" } : Jvm.MethodName)), (Jvm.Cond.selects "BlueBag$RuleReader" ({ cls := "BlueBag$RuleReader", name := "readProduct", desc := "(I)Z" } : Jvm.MethodName) ({ cls := "BlueBag$RuleReader", name := "readProduct", desc := "(I)Z" } : Jvm.MethodName)), (Jvm.Cond.selects "BlueBag$RuleReader" ({ cls := "BlueBag$RuleReader", name := "readPart", desc := "(I)Z" } : Jvm.MethodName) ({ cls := "BlueBag$RuleReader", name := "readPart", desc := "(I)Z" } : Jvm.MethodName)), (Jvm.Cond.selects "BlueBag$RuleReader" ({ cls := "BlueBag$RuleReader", name := "valueHere", desc := "()I" } : Jvm.MethodName) ({ cls := "BlueBag$RuleReader", name := "valueHere", desc := "()I" } : Jvm.MethodName)), (Jvm.Cond.selects "BlueBag" ({ cls := "BlueBag", name := "needCell", desc := "(I)V" } : Jvm.MethodName) ({ cls := "BlueBag", name := "needCell", desc := "(I)V" } : Jvm.MethodName)), (Jvm.Cond.selects "BlueBag$Sky" ({ cls := "BlueBag$Sky", name := "besideWithin", desc := "(II)I" } : Jvm.MethodName) ({ cls := "BlueBag$Sky", name := "besideWithin", desc := "(II)I" } : Jvm.MethodName)), (Jvm.Cond.selects "BlueBag" ({ cls := "BlueBag", name := "needGirl", desc := "(I)V" } : Jvm.MethodName) ({ cls := "BlueBag", name := "needGirl", desc := "(I)V" } : Jvm.MethodName)), (Jvm.Cond.selects "BlueBag" ({ cls := "BlueBag", name := "needWithin", desc := "(III)V" } : Jvm.MethodName) ({ cls := "BlueBag", name := "needWithin", desc := "(III)V" } : Jvm.MethodName)), (Jvm.Cond.selects "BlueBag" ({ cls := "BlueBag", name := "needWhat", desc := "(II)V" } : Jvm.MethodName) ({ cls := "BlueBag", name := "needWhat", desc := "(II)V" } : Jvm.MethodName)), (Jvm.Cond.selects "BlueBag$Sending" ({ cls := "BlueBag$Sending", name := "fill", desc := "(III)V" } : Jvm.MethodName) ({ cls := "BlueBag$Sending", name := "fill", desc := "(III)V" } : Jvm.MethodName)), (Jvm.Cond.selects "BlueBag" ({ cls := "BlueBag", name := "wouldFit", desc := "(II)Z" } : Jvm.MethodName) ({ cls := "BlueBag", name := "wouldFit", desc := "(II)Z" } : Jvm.MethodName)), (Jvm.Cond.selects "BlueBag" ({ cls := "BlueBag", name := "clearBlues", desc := "()V" } : Jvm.MethodName) ({ cls := "BlueBag", name := "clearBlues", desc := "()V" } : Jvm.MethodName)), (Jvm.Cond.selects "BlueBag" ({ cls := "BlueBag", name := "gatherBlues", desc := "(II)V" } : Jvm.MethodName) ({ cls := "BlueBag", name := "gatherBlues", desc := "(II)V" } : Jvm.MethodName)), (Jvm.Cond.selects "BlueBag" ({ cls := "BlueBag", name := "unlikeBlues", desc := "(I)I" } : Jvm.MethodName) ({ cls := "BlueBag", name := "unlikeBlues", desc := "(I)I" } : Jvm.MethodName)), (Jvm.Cond.selects "BlueBag" ({ cls := "BlueBag", name := "playAll", desc := "(II)V" } : Jvm.MethodName) ({ cls := "BlueBag", name := "playAll", desc := "(II)V" } : Jvm.MethodName)), (Jvm.Cond.selects "BlueBag" ({ cls := "BlueBag", name := "gainAt", desc := "(III)I" } : Jvm.MethodName) ({ cls := "BlueBag", name := "gainAt", desc := "(III)I" } : Jvm.MethodName)), (Jvm.Cond.selects "BlueBag" ({ cls := "BlueBag", name := "drawAhead", desc := "()V" } : Jvm.MethodName) ({ cls := "BlueBag", name := "drawAhead", desc := "()V" } : Jvm.MethodName)), (Jvm.Cond.selects "BlueBagModel" ({ cls := "BlueBagModel", name := "begin", desc := "(I)V" } : Jvm.MethodName) ({ cls := "BlueBagModel", name := "begin", desc := "(I)V" } : Jvm.MethodName)), (Jvm.Cond.selects "BlueBagModel" ({ cls := "BlueBagModel", name := "fail", desc := "(I)I" } : Jvm.MethodName) ({ cls := "BlueBagModel", name := "fail", desc := "(I)I" } : Jvm.MethodName)), (Jvm.Cond.selects "BlueBagModel" ({ cls := "BlueBagModel", name := "stepOn", desc := "()V" } : Jvm.MethodName) ({ cls := "BlueBagModel", name := "stepOn", desc := "()V" } : Jvm.MethodName)), (Jvm.Cond.selects "BlueBagModel" ({ cls := "BlueBagModel", name := "byteAt", desc := "(I)I" } : Jvm.MethodName) ({ cls := "BlueBagModel", name := "byteAt", desc := "(I)I" } : Jvm.MethodName)), (Jvm.Cond.selects "BlueBagModel" ({ cls := "BlueBagModel", name := "readLine", desc := "(I)I" } : Jvm.MethodName) ({ cls := "BlueBagModel", name := "readLine", desc := "(I)I" } : Jvm.MethodName)), (Jvm.Cond.selects "BlueBagModel" ({ cls := "BlueBagModel", name := "which", desc := "([Ljava/lang/String;)I" } : Jvm.MethodName) ({ cls := "BlueBagModel", name := "which", desc := "([Ljava/lang/String;)I" } : Jvm.MethodName)), (Jvm.Cond.selects "BlueBagModel" ({ cls := "BlueBagModel", name := "is", desc := "(Ljava/lang/String;)Z" } : Jvm.MethodName) ({ cls := "BlueBagModel", name := "is", desc := "(Ljava/lang/String;)Z" } : Jvm.MethodName)), (Jvm.Cond.selects "BlueBagModel" ({ cls := "BlueBagModel", name := "wrong", desc := "(I)V" } : Jvm.MethodName) ({ cls := "BlueBagModel", name := "wrong", desc := "(I)V" } : Jvm.MethodName)), (Jvm.Cond.selects "BlueBagModel" ({ cls := "BlueBagModel", name := "sayOnce", desc := "(I)V" } : Jvm.MethodName) ({ cls := "BlueBagModel", name := "sayOnce", desc := "(I)V" } : Jvm.MethodName)), (Jvm.Cond.selects "BlueBagModel" ({ cls := "BlueBagModel", name := "saySky", desc := "()V" } : Jvm.MethodName) ({ cls := "BlueBagModel", name := "saySky", desc := "()V" } : Jvm.MethodName)), (Jvm.Cond.selects "BlueBagModel" ({ cls := "BlueBagModel", name := "readNumber", desc := "(II)I" } : Jvm.MethodName) ({ cls := "BlueBagModel", name := "readNumber", desc := "(II)I" } : Jvm.MethodName)), (Jvm.Cond.selects "BlueBagModel" ({ cls := "BlueBagModel", name := "numberNow", desc := "(II)I" } : Jvm.MethodName) ({ cls := "BlueBagModel", name := "numberNow", desc := "(II)I" } : Jvm.MethodName)), (Jvm.Cond.selects "BlueBagModel" ({ cls := "BlueBagModel", name := "sayRule", desc := "(Z)V" } : Jvm.MethodName) ({ cls := "BlueBagModel", name := "sayRule", desc := "(Z)V" } : Jvm.MethodName)), (Jvm.Cond.selects "BlueBagModel" ({ cls := "BlueBagModel", name := "readExpression", desc := "(I)V" } : Jvm.MethodName) ({ cls := "BlueBagModel", name := "readExpression", desc := "(I)V" } : Jvm.MethodName)), (Jvm.Cond.selects "BlueBagModel" ({ cls := "BlueBagModel", name := "isMarked", desc := "(I)Z" } : Jvm.MethodName) ({ cls := "BlueBagModel", name := "isMarked", desc := "(I)Z" } : Jvm.MethodName)), (Jvm.Cond.selects "BlueBagModel" ({ cls := "BlueBagModel", name := "readAnd", desc := "(I)V" } : Jvm.MethodName) ({ cls := "BlueBagModel", name := "readAnd", desc := "(I)V" } : Jvm.MethodName)), (Jvm.Cond.selects "BlueBagModel" ({ cls := "BlueBagModel", name := "readNot", desc := "(I)V" } : Jvm.MethodName) ({ cls := "BlueBagModel", name := "readNot", desc := "(I)V" } : Jvm.MethodName))]
set_option maxRecDepth 100000 in
theorem sb_0 : isSub nd_0 ((k2_sels lw_privs).drop 0) = true := by decide +kernel
theorem im_0 {i : Nat} {w : Cond} (h : nd_0[i]? = some w) : w ∈ lw_tbl := tin_0 (List.mem_of_mem_drop (isSub_mem _ _ sb_0 w (List.mem_of_getElem? h)))
def nd_1 : List Cond := [(Jvm.Cond.selects "BlueBagModel" ({ cls := "BlueBagModel", name := "readSum", desc := "(I)V" } : Jvm.MethodName) ({ cls := "BlueBagModel", name := "readSum", desc := "(I)V" } : Jvm.MethodName)), (Jvm.Cond.selects "BlueBagModel" ({ cls := "BlueBagModel", name := "readProduct", desc := "(I)V" } : Jvm.MethodName) ({ cls := "BlueBagModel", name := "readProduct", desc := "(I)V" } : Jvm.MethodName)), (Jvm.Cond.selects "BlueBagModel" ({ cls := "BlueBagModel", name := "readPart", desc := "(I)V" } : Jvm.MethodName) ({ cls := "BlueBagModel", name := "readPart", desc := "(I)V" } : Jvm.MethodName)), (Jvm.Cond.selects "BlueBagModel" ({ cls := "BlueBagModel", name := "lay", desc := "(I)V" } : Jvm.MethodName) ({ cls := "BlueBagModel", name := "lay", desc := "(I)V" } : Jvm.MethodName)), (Jvm.Cond.selects "BlueBagModel" ({ cls := "BlueBagModel", name := "mark", desc := "(I)V" } : Jvm.MethodName) ({ cls := "BlueBagModel", name := "mark", desc := "(I)V" } : Jvm.MethodName)), (Jvm.Cond.selects "BlueBagModel" ({ cls := "BlueBagModel", name := "sayWoman", desc := "(I)V" } : Jvm.MethodName) ({ cls := "BlueBagModel", name := "sayWoman", desc := "(I)V" } : Jvm.MethodName)), (Jvm.Cond.selects "BlueBagModel" ({ cls := "BlueBagModel", name := "cellNow", desc := "(I)I" } : Jvm.MethodName) ({ cls := "BlueBagModel", name := "cellNow", desc := "(I)I" } : Jvm.MethodName)), (Jvm.Cond.selects "BlueBagModel" ({ cls := "BlueBagModel", name := "sayBlue", desc := "()V" } : Jvm.MethodName) ({ cls := "BlueBagModel", name := "sayBlue", desc := "()V" } : Jvm.MethodName)), (Jvm.Cond.selects "BlueBagModel" ({ cls := "BlueBagModel", name := "sayPegs", desc := "()V" } : Jvm.MethodName) ({ cls := "BlueBagModel", name := "sayPegs", desc := "()V" } : Jvm.MethodName)), (Jvm.Cond.selects "BlueBagModel" ({ cls := "BlueBagModel", name := "takeOver", desc := "()V" } : Jvm.MethodName) ({ cls := "BlueBagModel", name := "takeOver", desc := "()V" } : Jvm.MethodName)), (Jvm.Cond.selects "BlueBagModel" ({ cls := "BlueBagModel", name := "cells", desc := "()I" } : Jvm.MethodName) ({ cls := "BlueBagModel", name := "cells", desc := "()I" } : Jvm.MethodName)), (Jvm.Cond.selects "BlueBagModel" ({ cls := "BlueBagModel", name := "allBlue", desc := "()I" } : Jvm.MethodName) ({ cls := "BlueBagModel", name := "allBlue", desc := "()I" } : Jvm.MethodName)), (Jvm.Cond.selects "BlueBagModel" ({ cls := "BlueBagModel", name := "isCell", desc := "(I)Z" } : Jvm.MethodName) ({ cls := "BlueBagModel", name := "isCell", desc := "(I)Z" } : Jvm.MethodName)), (Jvm.Cond.selects "BlueBagModel" ({ cls := "BlueBagModel", name := "besideOf", desc := "(I)I" } : Jvm.MethodName) ({ cls := "BlueBagModel", name := "besideOf", desc := "(I)I" } : Jvm.MethodName)), (Jvm.Cond.selects "BlueBagModel" ({ cls := "BlueBagModel", name := "farOf", desc := "(II)I" } : Jvm.MethodName) ({ cls := "BlueBagModel", name := "farOf", desc := "(II)I" } : Jvm.MethodName)), (Jvm.Cond.selects "BlueBagModel" ({ cls := "BlueBagModel", name := "columnOf", desc := "(I)I" } : Jvm.MethodName) ({ cls := "BlueBagModel", name := "columnOf", desc := "(I)I" } : Jvm.MethodName)), (Jvm.Cond.selects "BlueBagModel" ({ cls := "BlueBagModel", name := "rowOf", desc := "(I)I" } : Jvm.MethodName) ({ cls := "BlueBagModel", name := "rowOf", desc := "(I)I" } : Jvm.MethodName)), (Jvm.Cond.selects "BlueBagModel" ({ cls := "BlueBagModel", name := "girlsAt", desc := "(I)I" } : Jvm.MethodName) ({ cls := "BlueBagModel", name := "girlsAt", desc := "(I)I" } : Jvm.MethodName)), (Jvm.Cond.selects "BlueBagModel" ({ cls := "BlueBagModel", name := "patchOf", desc := "(II)I" } : Jvm.MethodName) ({ cls := "BlueBagModel", name := "patchOf", desc := "(II)I" } : Jvm.MethodName)), (Jvm.Cond.selects "BlueBagModel" ({ cls := "BlueBagModel", name := "isGirl", desc := "(I)Z" } : Jvm.MethodName) ({ cls := "BlueBagModel", name := "isGirl", desc := "(I)Z" } : Jvm.MethodName)), (Jvm.Cond.selects "BlueBagModel" ({ cls := "BlueBagModel", name := "dyesOf", desc := "(II)I" } : Jvm.MethodName) ({ cls := "BlueBagModel", name := "dyesOf", desc := "(II)I" } : Jvm.MethodName)), (Jvm.Cond.selects "BlueBagModel" ({ cls := "BlueBagModel", name := "ask", desc := "(I)V" } : Jvm.MethodName) ({ cls := "BlueBagModel", name := "ask", desc := "(I)V" } : Jvm.MethodName)), (Jvm.Cond.selects "BlueBagModel" ({ cls := "BlueBagModel", name := "blueBeside", desc := "(I)I" } : Jvm.MethodName) ({ cls := "BlueBagModel", name := "blueBeside", desc := "(I)I" } : Jvm.MethodName)), (Jvm.Cond.selects "BlueBagModel" ({ cls := "BlueBagModel", name := "valueNow", desc := "([II)I" } : Jvm.MethodName) ({ cls := "BlueBagModel", name := "valueNow", desc := "([II)I" } : Jvm.MethodName)), (Jvm.Cond.selects "BlueBagModel" ({ cls := "BlueBagModel", name := "refuse", desc := "(I)I" } : Jvm.MethodName) ({ cls := "BlueBagModel", name := "refuse", desc := "(I)I" } : Jvm.MethodName)), (Jvm.Cond.selects "BlueBagModel" ({ cls := "BlueBagModel", name := "keep", desc := "()V" } : Jvm.MethodName) ({ cls := "BlueBagModel", name := "keep", desc := "()V" } : Jvm.MethodName)), (Jvm.Cond.selects "BlueBagModel" ({ cls := "BlueBagModel", name := "pack", desc := "([II)V" } : Jvm.MethodName) ({ cls := "BlueBagModel", name := "pack", desc := "([II)V" } : Jvm.MethodName)), (Jvm.Cond.selects "BlueBagModel" ({ cls := "BlueBagModel", name := "goOn", desc := "(I)V" } : Jvm.MethodName) ({ cls := "BlueBagModel", name := "goOn", desc := "(I)V" } : Jvm.MethodName)), (Jvm.Cond.selects "BlueBagModel" ({ cls := "BlueBagModel", name := "aDay", desc := "()V" } : Jvm.MethodName) ({ cls := "BlueBagModel", name := "aDay", desc := "()V" } : Jvm.MethodName)), (Jvm.Cond.selects "BlueBagModel" ({ cls := "BlueBagModel", name := "swish", desc := "(II)V" } : Jvm.MethodName) ({ cls := "BlueBagModel", name := "swish", desc := "(II)V" } : Jvm.MethodName)), (Jvm.Cond.selects "BlueBagModel" ({ cls := "BlueBagModel", name := "dye", desc := "(II)V" } : Jvm.MethodName) ({ cls := "BlueBagModel", name := "dye", desc := "(II)V" } : Jvm.MethodName)), (Jvm.Cond.selects "BlueBagModel" ({ cls := "BlueBagModel", name := "fadesOf", desc := "(I)I" } : Jvm.MethodName) ({ cls := "BlueBagModel", name := "fadesOf", desc := "(I)I" } : Jvm.MethodName)), (Jvm.Cond.selects "BlueBagModel" ({ cls := "BlueBagModel", name := "failing", desc := "(I)Z" } : Jvm.MethodName) ({ cls := "BlueBagModel", name := "failing", desc := "(I)Z" } : Jvm.MethodName)), (Jvm.Cond.selects "BlueBagModel" ({ cls := "BlueBagModel", name := "unpack", desc := "([II)V" } : Jvm.MethodName) ({ cls := "BlueBagModel", name := "unpack", desc := "([II)V" } : Jvm.MethodName)), (Jvm.Cond.selects "BlueBagModel" ({ cls := "BlueBagModel", name := "uneven", desc := "()I" } : Jvm.MethodName) ({ cls := "BlueBagModel", name := "uneven", desc := "()I" } : Jvm.MethodName)), (Jvm.Cond.selects "BlueBagModel" ({ cls := "BlueBagModel", name := "extreme", desc := "(Z)I" } : Jvm.MethodName) ({ cls := "BlueBagModel", name := "extreme", desc := "(Z)I" } : Jvm.MethodName)), (Jvm.Cond.selects "BlueBagModel" ({ cls := "BlueBagModel", name := "streakFrom", desc := "(I)I" } : Jvm.MethodName) ({ cls := "BlueBagModel", name := "streakFrom", desc := "(I)I" } : Jvm.MethodName)), (Jvm.Cond.selects "BlueBagModel" ({ cls := "BlueBagModel", name := "unevenNext", desc := "()I" } : Jvm.MethodName) ({ cls := "BlueBagModel", name := "unevenNext", desc := "()I" } : Jvm.MethodName)), (Jvm.Cond.selects "BlueBagModel" ({ cls := "BlueBagModel", name := "tellLeast", desc := "(I)V" } : Jvm.MethodName) ({ cls := "BlueBagModel", name := "tellLeast", desc := "(I)V" } : Jvm.MethodName)), (Jvm.Cond.selects "BlueBagModel" ({ cls := "BlueBagModel", name := "with", desc := "(III)I" } : Jvm.MethodName) ({ cls := "BlueBagModel", name := "with", desc := "(III)I" } : Jvm.MethodName)), (Jvm.Cond.selects "BlueBagModel" ({ cls := "BlueBagModel", name := "isAsSeen", desc := "()Z" } : Jvm.MethodName) ({ cls := "BlueBagModel", name := "isAsSeen", desc := "()Z" } : Jvm.MethodName)), (Jvm.Cond.selects "BlueBagModel" ({ cls := "BlueBagModel", name := "tellFits", desc := "()V" } : Jvm.MethodName) ({ cls := "BlueBagModel", name := "tellFits", desc := "()V" } : Jvm.MethodName)), (Jvm.Cond.selects "BlueBagModel" ({ cls := "BlueBagModel", name := "unlike", desc := "(I)I" } : Jvm.MethodName) ({ cls := "BlueBagModel", name := "unlike", desc := "(I)I" } : Jvm.MethodName)), (Jvm.Cond.selects "BlueBagModel" ({ cls := "BlueBagModel", name := "tellGains", desc := "(II)V" } : Jvm.MethodName) ({ cls := "BlueBagModel", name := "tellGains", desc := "(II)V" } : Jvm.MethodName)), (Jvm.Cond.selects "BlueBagModel" ({ cls := "BlueBagModel", name := "something", desc := "()V" } : Jvm.MethodName) ({ cls := "BlueBagModel", name := "something", desc := "()V" } : Jvm.MethodName)), (Jvm.Cond.selects "BlueBagModel" ({ cls := "BlueBagModel", name := "drawOf", desc := "(I)I" } : Jvm.MethodName) ({ cls := "BlueBagModel", name := "drawOf", desc := "(I)I" } : Jvm.MethodName))]
set_option maxRecDepth 100000 in
theorem sb_1 : isSub nd_1 ((k2_sels lw_privs).drop 61) = true := by decide +kernel
theorem im_1 {i : Nat} {w : Cond} (h : nd_1[i]? = some w) : w ∈ lw_tbl := tin_0 (List.mem_of_mem_drop (isSub_mem _ _ sb_1 w (List.mem_of_getElem? h)))
set_option maxRecDepth 100000 in
theorem cw_138 : (Jvm.Cond.code ({ cls := "BlueBag", name := "<init>", desc := "()V" } : Jvm.MethodName) prog_1_method_1_code (1 : Nat) (Option.none : Option Jvm.ClassFile.FieldType)) ∈ lw_tbl := tin_1 (List.mem_of_getElem? (i := 31) rfl)
set_option maxRecDepth 100000 in
theorem cw_141 : (Jvm.Cond.code ({ cls := "java/lang/Object", name := "<init>", desc := "()V" } : Jvm.MethodName) object_method_1_code (1 : Nat) (Option.none : Option Jvm.ClassFile.FieldType)) ∈ lw_tbl := tin_1 (List.mem_of_getElem? (i := 34) rfl)
set_option maxRecDepth 100000 in
theorem cw_146 : (Jvm.Cond.code ({ cls := "BlueBag$Tape", name := "<init>", desc := "()V" } : Jvm.MethodName) prog_11_method_1_code (1 : Nat) (Option.none : Option Jvm.ClassFile.FieldType)) ∈ lw_tbl := tin_1 (List.mem_of_getElem? (i := 39) rfl)
set_option maxRecDepth 100000 in
theorem cw_161 : (Jvm.Cond.code ({ cls := "BlueBag$Coast", name := "<init>", desc := "()V" } : Jvm.MethodName) prog_3_method_1_code (1 : Nat) (Option.none : Option Jvm.ClassFile.FieldType)) ∈ lw_tbl := tin_1 (List.mem_of_getElem? (i := 54) rfl)
set_option maxRecDepth 100000 in
theorem cw_167 : (Jvm.Cond.code ({ cls := "BlueBag$Rule", name := "<init>", desc := "()V" } : Jvm.MethodName) prog_7_method_1_code (1 : Nat) (Option.none : Option Jvm.ClassFile.FieldType)) ∈ lw_tbl := tin_1 (List.mem_of_getElem? (i := 60) rfl)
set_option maxRecDepth 100000 in
theorem cw_183 : (Jvm.Cond.code ({ cls := "BlueBag$Coast", name := "begin", desc := "()V" } : Jvm.MethodName) prog_3_method_2_code (1 : Nat) (Option.none : Option Jvm.ClassFile.FieldType)) ∈ lw_tbl := tin_1 (List.mem_of_getElem? (i := 76) rfl)
set_option maxRecDepth 100000 in
theorem cw_187 : (Jvm.Cond.code ({ cls := "BlueBag$Coast", name := "shape", desc := "(II)V" } : Jvm.MethodName) prog_3_method_3_code (4 : Nat) (Option.none : Option Jvm.ClassFile.FieldType)) ∈ lw_tbl := tin_1 (List.mem_of_getElem? (i := 80) rfl)
set_option maxRecDepth 100000 in
theorem cw_191 : (Jvm.Cond.code ({ cls := "BlueBag$Coast", name := "cells", desc := "()I" } : Jvm.MethodName) prog_3_method_6_code (1 : Nat) (Option.some Jvm.ClassFile.FieldType.int)) ∈ lw_tbl := tin_1 (List.mem_of_getElem? (i := 84) rfl)
set_option maxRecDepth 100000 in
theorem cw_195 : (Jvm.Cond.code ({ cls := "BlueBag$Coast", name := "bitsBeside", desc := "(I)I" } : Jvm.MethodName) prog_3_method_4_code (3 : Nat) (Option.some Jvm.ClassFile.FieldType.int)) ∈ lw_tbl := tin_1 (List.mem_of_getElem? (i := 88) rfl)
set_option maxRecDepth 100000 in
theorem cw_199 : (Jvm.Cond.code ({ cls := "BlueBag$Coast", name := "columnOf", desc := "(I)I" } : Jvm.MethodName) prog_3_method_8_code (2 : Nat) (Option.some Jvm.ClassFile.FieldType.int)) ∈ lw_tbl := tin_1 (List.mem_of_getElem? (i := 92) rfl)
set_option maxRecDepth 100000 in
theorem cw_203 : (Jvm.Cond.code ({ cls := "BlueBag$Rule", name := "clear", desc := "()V" } : Jvm.MethodName) prog_7_method_2_code (1 : Nat) (Option.none : Option Jvm.ClassFile.FieldType)) ∈ lw_tbl := tin_1 (List.mem_of_getElem? (i := 96) rfl)
set_option maxRecDepth 100000 in
theorem cw_253 : (Jvm.Cond.code ({ cls := "BlueBag$CoastReader", name := "<init>", desc := "(LBlueBag$Tape;)V" } : Jvm.MethodName) prog_4_method_1_code (2 : Nat) (Option.none : Option Jvm.ClassFile.FieldType)) ∈ lw_tbl := tin_1 (List.mem_of_getElem? (i := 146) rfl)
set_option maxRecDepth 100000 in
theorem cw_261 : (Jvm.Cond.code ({ cls := "BlueBag$Sky", name := "<init>", desc := "(LBlueBag$Coast;)V" } : Jvm.MethodName) prog_10_method_1_code (2 : Nat) (Option.none : Option Jvm.ClassFile.FieldType)) ∈ lw_tbl := tin_1 (List.mem_of_getElem? (i := 154) rfl)
set_option maxRecDepth 100000 in
theorem cw_266 : (Jvm.Cond.code ({ cls := "BlueBag$Sky", name := "begin", desc := "()V" } : Jvm.MethodName) prog_10_method_2_code (2 : Nat) (Option.none : Option Jvm.ClassFile.FieldType)) ∈ lw_tbl := tin_1 (List.mem_of_getElem? (i := 159) rfl)
set_option maxRecDepth 100000 in
theorem cw_320 : (Jvm.Cond.code ({ cls := "BlueBag$Tokens", name := "<init>", desc := "(LBlueBag$Tape;)V" } : Jvm.MethodName) prog_12_method_1_code (2 : Nat) (Option.none : Option Jvm.ClassFile.FieldType)) ∈ lw_tbl := tin_1 (List.mem_of_getElem? (i := 213) rfl)
def nd_2 : List Cond := [(Jvm.Cond.initialized "BlueBagLaw"), (Jvm.Cond.initialized "BlueBag"), (Jvm.Cond.initialized "BlueBag$Tape"), (Jvm.Cond.initialized "BlueBag$Coast"), (Jvm.Cond.initialized "BlueBag$Rule"), (Jvm.Cond.initialized "BlueBag$CoastReader"), (Jvm.Cond.initialized "BlueBag$Sky"), (Jvm.Cond.initialized "BlueBag$Tokens"), (Jvm.Cond.initialized "BlueBag$RuleReader"), (Jvm.Cond.initialized "BlueBag$Memory"), (Jvm.Cond.initialized "BlueBag$Acts"), (Jvm.Cond.initialized "BlueBag$Sending"), (Jvm.Cond.initialized "BlueBag$Dice"), (Jvm.Cond.initialized "BlueBagModel"), (Jvm.Cond.initialized "java/lang/Throwable"), (Jvm.Cond.initialized "java/lang/Exception"), (Jvm.Cond.initialized "java/lang/RuntimeException"), (Jvm.Cond.initialized "java/lang/IllegalArgumentException"), (Jvm.Cond.initialized "java/lang/String"), (Jvm.Cond.initialized "java/lang/StringLatin1"), (Jvm.Cond.initialized "jdk/internal/util/Preconditions"), (Jvm.Cond.initialized "java/lang/Math"), (Jvm.Cond.initialized "java/lang/System"), (Jvm.Cond.initialized "java/util/NoSuchElementException"), (Jvm.Cond.initialized "java/lang/Integer"), (Jvm.Cond.initialized "java/lang/Long"), (Jvm.Cond.classLink "BlueBagLaw" (8 : Nat) "BlueBag"), (Jvm.Cond.instantiable "BlueBag" (13 : Nat)), (Jvm.Cond.methodLink "BlueBagLaw" (99 : Nat) ({ cls := "BlueBag", name := "<init>", desc := "()V" } : Jvm.MethodName)), (Jvm.Cond.instanceMethod ({ cls := "BlueBag", name := "<init>", desc := "()V" } : Jvm.MethodName)), (Jvm.Cond.methodLink "BlueBag" (1 : Nat) ({ cls := "java/lang/Object", name := "<init>", desc := "()V" } : Jvm.MethodName)), (Jvm.Cond.instanceMethod ({ cls := "java/lang/Object", name := "<init>", desc := "()V" } : Jvm.MethodName)), (Jvm.Cond.classLink "BlueBag" (7 : Nat) "BlueBag$Tape"), (Jvm.Cond.instantiable "BlueBag$Tape" (2 : Nat)), (Jvm.Cond.methodLinkNest "BlueBag" (9 : Nat) ({ cls := "BlueBag$Tape", name := "<init>", desc := "()V" } : Jvm.MethodName) "BlueBag"), (Jvm.Cond.instanceMethod ({ cls := "BlueBag$Tape", name := "<init>", desc := "()V" } : Jvm.MethodName)), (Jvm.Cond.methodLink "BlueBag$Tape" (3 : Nat) ({ cls := "java/lang/Object", name := "<init>", desc := "()V" } : Jvm.MethodName)), (Jvm.Cond.fieldLink "BlueBag$Tape" (9 : Nat) "BlueBag$Tape" "bytes" "[B"), (Jvm.Cond.fieldLink "BlueBag$Tape" (15 : Nat) "BlueBag$Tape" "length" "I"), (Jvm.Cond.fieldLinkNest "BlueBag" (93 : Nat) "BlueBag$Tape" "length" "I" "BlueBag"), (Jvm.Cond.laysFinal "BlueBag$Tape" "BlueBag$Tape" "bytes" "[B"), (Jvm.Cond.lays "BlueBag$Tape" "BlueBag$Tape" "length" "I"), (Jvm.Cond.arrayClass Jvm.ClassFile.FieldType.byte), (Jvm.Cond.classLink "BlueBag" (16 : Nat) "BlueBag$Coast"), (Jvm.Cond.instantiable "BlueBag$Coast" (9 : Nat)), (Jvm.Cond.methodLink "BlueBag" (18 : Nat) ({ cls := "BlueBag$Coast", name := "<init>", desc := "()V" } : Jvm.MethodName)), (Jvm.Cond.instanceMethod ({ cls := "BlueBag$Coast", name := "<init>", desc := "()V" } : Jvm.MethodName)), (Jvm.Cond.methodLink "BlueBag$Coast" (3 : Nat) ({ cls := "java/lang/Object", name := "<init>", desc := "()V" } : Jvm.MethodName)), (Jvm.Cond.classLink "BlueBag$Coast" (15 : Nat) "BlueBag$Rule"), (Jvm.Cond.instantiable "BlueBag$Rule" (3 : Nat)), (Jvm.Cond.methodLinkNest "BlueBag$Coast" (17 : Nat) ({ cls := "BlueBag$Rule", name := "<init>", desc := "()V" } : Jvm.MethodName) "BlueBag"), (Jvm.Cond.instanceMethod ({ cls := "BlueBag$Rule", name := "<init>", desc := "()V" } : Jvm.MethodName)), (Jvm.Cond.methodLink "BlueBag$Rule" (3 : Nat) ({ cls := "java/lang/Object", name := "<init>", desc := "()V" } : Jvm.MethodName)), (Jvm.Cond.fieldLink "BlueBag$Rule" (9 : Nat) "BlueBag$Rule" "code" "[I"), (Jvm.Cond.fieldLink "BlueBag$Rule" (15 : Nat) "BlueBag$Rule" "stack" "[I"), (Jvm.Cond.fieldLink "BlueBag$Rule" (18 : Nat) "BlueBag$Rule" "length" "I"), (Jvm.Cond.laysFinal "BlueBag$Rule" "BlueBag$Rule" "code" "[I"), (Jvm.Cond.laysFinal "BlueBag$Rule" "BlueBag$Rule" "stack" "[I"), (Jvm.Cond.lays "BlueBag$Rule" "BlueBag$Rule" "length" "I"), (Jvm.Cond.arrayClass Jvm.ClassFile.FieldType.int)]
set_option maxRecDepth 100000 in
theorem sb_2 : isSub nd_2 ((tables_1_1).drop 0) = true := by decide +kernel
theorem im_2 {i : Nat} {w : Cond} (h : nd_2[i]? = some w) : w ∈ lw_tbl := tin_1 (List.mem_of_mem_drop (isSub_mem _ _ sb_2 w (List.mem_of_getElem? h)))
def nd_3 : List Cond := [(Jvm.Cond.methodLink "BlueBag$Coast" (25 : Nat) ({ cls := "BlueBag$Coast", name := "begin", desc := "()V" } : Jvm.MethodName)), (Jvm.Cond.instanceMethod ({ cls := "BlueBag$Coast", name := "begin", desc := "()V" } : Jvm.MethodName)), (Jvm.Cond.selects "BlueBag$Coast" ({ cls := "BlueBag$Coast", name := "begin", desc := "()V" } : Jvm.MethodName) ({ cls := "BlueBag$Coast", name := "begin", desc := "()V" } : Jvm.MethodName)), (Jvm.Cond.methodLink "BlueBag$Coast" (28 : Nat) ({ cls := "BlueBag$Coast", name := "shape", desc := "(II)V" } : Jvm.MethodName)), (Jvm.Cond.instanceMethod ({ cls := "BlueBag$Coast", name := "shape", desc := "(II)V" } : Jvm.MethodName)), (Jvm.Cond.selects "BlueBag$Coast" ({ cls := "BlueBag$Coast", name := "shape", desc := "(II)V" } : Jvm.MethodName) ({ cls := "BlueBag$Coast", name := "shape", desc := "(II)V" } : Jvm.MethodName)), (Jvm.Cond.methodLink "BlueBag$Coast" (54 : Nat) ({ cls := "BlueBag$Coast", name := "cells", desc := "()I" } : Jvm.MethodName)), (Jvm.Cond.instanceMethod ({ cls := "BlueBag$Coast", name := "cells", desc := "()I" } : Jvm.MethodName)), (Jvm.Cond.selects "BlueBag$Coast" ({ cls := "BlueBag$Coast", name := "cells", desc := "()I" } : Jvm.MethodName) ({ cls := "BlueBag$Coast", name := "cells", desc := "()I" } : Jvm.MethodName)), (Jvm.Cond.methodLink "BlueBag$Coast" (58 : Nat) ({ cls := "BlueBag$Coast", name := "bitsBeside", desc := "(I)I" } : Jvm.MethodName)), (Jvm.Cond.instanceMethod ({ cls := "BlueBag$Coast", name := "bitsBeside", desc := "(I)I" } : Jvm.MethodName)), (Jvm.Cond.methodLink "BlueBag$Coast" (62 : Nat) ({ cls := "BlueBag$Coast", name := "columnOf", desc := "(I)I" } : Jvm.MethodName)), (Jvm.Cond.instanceMethod ({ cls := "BlueBag$Coast", name := "columnOf", desc := "(I)I" } : Jvm.MethodName)), (Jvm.Cond.selects "BlueBag$Coast" ({ cls := "BlueBag$Coast", name := "columnOf", desc := "(I)I" } : Jvm.MethodName) ({ cls := "BlueBag$Coast", name := "columnOf", desc := "(I)I" } : Jvm.MethodName)), (Jvm.Cond.methodLink "BlueBag$Coast" (45 : Nat) ({ cls := "BlueBag$Rule", name := "clear", desc := "()V" } : Jvm.MethodName)), (Jvm.Cond.instanceMethod ({ cls := "BlueBag$Rule", name := "clear", desc := "()V" } : Jvm.MethodName)), (Jvm.Cond.selects "BlueBag$Rule" ({ cls := "BlueBag$Rule", name := "clear", desc := "()V" } : Jvm.MethodName) ({ cls := "BlueBag$Rule", name := "clear", desc := "()V" } : Jvm.MethodName)), (Jvm.Cond.fieldLink "BlueBag$Coast" (48 : Nat) "BlueBag$Coast" "wide" "I"), (Jvm.Cond.fieldLinkNest "BlueBag" (131 : Nat) "BlueBag$Coast" "wide" "I" "BlueBag"), (Jvm.Cond.fieldLink "BlueBag$Coast" (51 : Nat) "BlueBag$Coast" "high" "I"), (Jvm.Cond.fieldLinkNest "BlueBag" (270 : Nat) "BlueBag$Coast" "high" "I" "BlueBag"), (Jvm.Cond.fieldLink "BlueBag$Coast" (32 : Nat) "BlueBag$Coast" "rinse" "I"), (Jvm.Cond.fieldLinkNest "BlueBag" (143 : Nat) "BlueBag$Coast" "rinse" "I" "BlueBag"), (Jvm.Cond.fieldLinkNest "BlueBag$CoastReader" (180 : Nat) "BlueBag$Coast" "rinse" "I" "BlueBag"), (Jvm.Cond.fieldLinkNest "BlueBag$Sky" (89 : Nat) "BlueBag$Coast" "rinse" "I" "BlueBag"), (Jvm.Cond.fieldLink "BlueBag$Coast" (36 : Nat) "BlueBag$Coast" "bound" "I"), (Jvm.Cond.fieldLinkNest "BlueBag" (146 : Nat) "BlueBag$Coast" "bound" "I" "BlueBag"), (Jvm.Cond.fieldLinkNest "BlueBag$CoastReader" (182 : Nat) "BlueBag$Coast" "bound" "I" "BlueBag"), (Jvm.Cond.fieldLinkNest "BlueBag$Sky" (98 : Nat) "BlueBag$Coast" "bound" "I" "BlueBag"), (Jvm.Cond.fieldLink "BlueBag$Coast" (39 : Nat) "BlueBag$Coast" "girls" "I"), (Jvm.Cond.fieldLinkNest "BlueBag$Sending" (35 : Nat) "BlueBag$Coast" "girls" "I" "BlueBag"), (Jvm.Cond.fieldLinkNest "BlueBag" (134 : Nat) "BlueBag$Coast" "girls" "I" "BlueBag"), (Jvm.Cond.fieldLinkNest "BlueBag$CoastReader" (159 : Nat) "BlueBag$Coast" "girls" "I" "BlueBag"), (Jvm.Cond.fieldLinkNest "BlueBag$Sky" (74 : Nat) "BlueBag$Coast" "girls" "I" "BlueBag"), (Jvm.Cond.fieldLink "BlueBag$Coast" (42 : Nat) "BlueBag$Coast" "olds" "I"), (Jvm.Cond.fieldLinkNest "BlueBag$CoastReader" (162 : Nat) "BlueBag$Coast" "olds" "I" "BlueBag"), (Jvm.Cond.fieldLink "BlueBag$Coast" (9 : Nat) "BlueBag$Coast" "beside" "[I"), (Jvm.Cond.fieldLink "BlueBag$Coast" (18 : Nat) "BlueBag$Coast" "dyes" "LBlueBag$Rule;"), (Jvm.Cond.fieldLinkNest "BlueBag$CoastReader" (38 : Nat) "BlueBag$Coast" "dyes" "LBlueBag$Rule;" "BlueBag"), (Jvm.Cond.fieldLinkNest "BlueBag$Sky" (154 : Nat) "BlueBag$Coast" "dyes" "LBlueBag$Rule;" "BlueBag"), (Jvm.Cond.fieldLink "BlueBag$Coast" (22 : Nat) "BlueBag$Coast" "fades" "LBlueBag$Rule;"), (Jvm.Cond.fieldLinkNest "BlueBag$CoastReader" (129 : Nat) "BlueBag$Coast" "fades" "LBlueBag$Rule;" "BlueBag"), (Jvm.Cond.fieldLinkNest "BlueBag$Sky" (110 : Nat) "BlueBag$Coast" "fades" "LBlueBag$Rule;" "BlueBag"), (Jvm.Cond.lays "BlueBag$Coast" "BlueBag$Coast" "wide" "I"), (Jvm.Cond.lays "BlueBag$Coast" "BlueBag$Coast" "high" "I"), (Jvm.Cond.lays "BlueBag$Coast" "BlueBag$Coast" "rinse" "I"), (Jvm.Cond.lays "BlueBag$Coast" "BlueBag$Coast" "bound" "I"), (Jvm.Cond.lays "BlueBag$Coast" "BlueBag$Coast" "girls" "I"), (Jvm.Cond.lays "BlueBag$Coast" "BlueBag$Coast" "olds" "I"), (Jvm.Cond.laysFinal "BlueBag$Coast" "BlueBag$Coast" "beside" "[I"), (Jvm.Cond.laysFinal "BlueBag$Coast" "BlueBag$Coast" "dyes" "LBlueBag$Rule;"), (Jvm.Cond.laysFinal "BlueBag$Coast" "BlueBag$Coast" "fades" "LBlueBag$Rule;"), (Jvm.Cond.classLink "BlueBag" (23 : Nat) "BlueBag$CoastReader"), (Jvm.Cond.instantiable "BlueBag$CoastReader" (7 : Nat)), (Jvm.Cond.methodLink "BlueBag" (25 : Nat) ({ cls := "BlueBag$CoastReader", name := "<init>", desc := "(LBlueBag$Tape;)V" } : Jvm.MethodName)), (Jvm.Cond.instanceMethod ({ cls := "BlueBag$CoastReader", name := "<init>", desc := "(LBlueBag$Tape;)V" } : Jvm.MethodName)), (Jvm.Cond.methodLink "BlueBag$CoastReader" (3 : Nat) ({ cls := "java/lang/Object", name := "<init>", desc := "()V" } : Jvm.MethodName)), (Jvm.Cond.classLink "BlueBag$CoastReader" (9 : Nat) "BlueBag$Coast"), (Jvm.Cond.methodLink "BlueBag$CoastReader" (11 : Nat) ({ cls := "BlueBag$Coast", name := "<init>", desc := "()V" } : Jvm.MethodName)), (Jvm.Cond.classLink "BlueBag$CoastReader" (18 : Nat) "BlueBag$Sky")]
set_option maxRecDepth 100000 in
theorem sb_3 : isSub nd_3 ((tables_1_1).drop 73) = true := by decide +kernel
theorem im_3 {i : Nat} {w : Cond} (h : nd_3[i]? = some w) : w ∈ lw_tbl := tin_1 (List.mem_of_mem_drop (isSub_mem _ _ sb_3 w (List.mem_of_getElem? h)))
def nd_4 : List Cond := [(Jvm.Cond.instantiable "BlueBag$Sky" (13 : Nat)), (Jvm.Cond.methodLink "BlueBag$CoastReader" (20 : Nat) ({ cls := "BlueBag$Sky", name := "<init>", desc := "(LBlueBag$Coast;)V" } : Jvm.MethodName)), (Jvm.Cond.instanceMethod ({ cls := "BlueBag$Sky", name := "<init>", desc := "(LBlueBag$Coast;)V" } : Jvm.MethodName)), (Jvm.Cond.methodLink "BlueBag$Sky" (3 : Nat) ({ cls := "java/lang/Object", name := "<init>", desc := "()V" } : Jvm.MethodName)), (Jvm.Cond.methodLink "BlueBag$Sky" (36 : Nat) ({ cls := "BlueBag$Sky", name := "begin", desc := "()V" } : Jvm.MethodName)), (Jvm.Cond.instanceMethod ({ cls := "BlueBag$Sky", name := "begin", desc := "()V" } : Jvm.MethodName)), (Jvm.Cond.selects "BlueBag$Sky" ({ cls := "BlueBag$Sky", name := "begin", desc := "()V" } : Jvm.MethodName) ({ cls := "BlueBag$Sky", name := "begin", desc := "()V" } : Jvm.MethodName)), (Jvm.Cond.fieldLink "BlueBag$Sky" (32 : Nat) "BlueBag$Sky" "coast" "LBlueBag$Coast;"), (Jvm.Cond.fieldLinkNest "BlueBag$Sending" (29 : Nat) "BlueBag$Sky" "coast" "LBlueBag$Coast;" "BlueBag"), (Jvm.Cond.fieldLink "BlueBag$Sky" (9 : Nat) "BlueBag$Sky" "blue" "[I"), (Jvm.Cond.fieldLink "BlueBag$Sky" (15 : Nat) "BlueBag$Sky" "morning" "[I"), (Jvm.Cond.fieldLink "BlueBag$Sky" (18 : Nat) "BlueBag$Sky" "less" "[I"), (Jvm.Cond.fieldLink "BlueBag$Sky" (21 : Nat) "BlueBag$Sky" "spot" "[I"), (Jvm.Cond.fieldLink "BlueBag$Sky" (24 : Nat) "BlueBag$Sky" "skill" "[I"), (Jvm.Cond.fieldLink "BlueBag$Sky" (29 : Nat) "BlueBag$Sky" "values" "[I"), (Jvm.Cond.fieldLink "BlueBag$Sky" (39 : Nat) "BlueBag$Sky" "pegs" "I"), (Jvm.Cond.fieldLinkNest "BlueBag" (152 : Nat) "BlueBag$Sky" "pegs" "I" "BlueBag"), (Jvm.Cond.fieldLinkNest "BlueBag$CoastReader" (171 : Nat) "BlueBag$Sky" "pegs" "I" "BlueBag"), (Jvm.Cond.fieldLink "BlueBag$Sky" (43 : Nat) "BlueBag$Sky" "resting" "I"), (Jvm.Cond.fieldLinkNest "BlueBag" (155 : Nat) "BlueBag$Sky" "resting" "I" "BlueBag"), (Jvm.Cond.fieldLink "BlueBag$Sky" (46 : Nat) "BlueBag$Sky" "knobs" "I"), (Jvm.Cond.fieldLinkNest "BlueBag" (140 : Nat) "BlueBag$Sky" "knobs" "I" "BlueBag"), (Jvm.Cond.fieldLinkNest "BlueBag$CoastReader" (178 : Nat) "BlueBag$Sky" "knobs" "I" "BlueBag"), (Jvm.Cond.fieldLink "BlueBag$Sky" (49 : Nat) "BlueBag$Sky" "martins" "I"), (Jvm.Cond.fieldLinkNest "BlueBag" (149 : Nat) "BlueBag$Sky" "martins" "I" "BlueBag"), (Jvm.Cond.fieldLink "BlueBag$Sky" (52 : Nat) "BlueBag$Sky" "day" "I"), (Jvm.Cond.fieldLinkNest "BlueBag" (137 : Nat) "BlueBag$Sky" "day" "I" "BlueBag"), (Jvm.Cond.fieldLink "BlueBag$Sky" (55 : Nat) "BlueBag$Sky" "overdone" "I"), (Jvm.Cond.fieldLinkNest "BlueBag" (267 : Nat) "BlueBag$Sky" "overdone" "I" "BlueBag"), (Jvm.Cond.laysFinal "BlueBag$Sky" "BlueBag$Sky" "coast" "LBlueBag$Coast;"), (Jvm.Cond.laysFinal "BlueBag$Sky" "BlueBag$Sky" "blue" "[I"), (Jvm.Cond.laysFinal "BlueBag$Sky" "BlueBag$Sky" "morning" "[I"), (Jvm.Cond.laysFinal "BlueBag$Sky" "BlueBag$Sky" "less" "[I"), (Jvm.Cond.laysFinal "BlueBag$Sky" "BlueBag$Sky" "spot" "[I"), (Jvm.Cond.laysFinal "BlueBag$Sky" "BlueBag$Sky" "skill" "[I"), (Jvm.Cond.laysFinal "BlueBag$Sky" "BlueBag$Sky" "values" "[I"), (Jvm.Cond.lays "BlueBag$Sky" "BlueBag$Sky" "pegs" "I"), (Jvm.Cond.lays "BlueBag$Sky" "BlueBag$Sky" "resting" "I"), (Jvm.Cond.lays "BlueBag$Sky" "BlueBag$Sky" "knobs" "I"), (Jvm.Cond.lays "BlueBag$Sky" "BlueBag$Sky" "martins" "I"), (Jvm.Cond.lays "BlueBag$Sky" "BlueBag$Sky" "day" "I"), (Jvm.Cond.lays "BlueBag$Sky" "BlueBag$Sky" "overdone" "I"), (Jvm.Cond.classLink "BlueBag$CoastReader" (27 : Nat) "BlueBag$Tokens"), (Jvm.Cond.instantiable "BlueBag$Tokens" (8 : Nat)), (Jvm.Cond.methodLink "BlueBag$CoastReader" (29 : Nat) ({ cls := "BlueBag$Tokens", name := "<init>", desc := "(LBlueBag$Tape;)V" } : Jvm.MethodName)), (Jvm.Cond.instanceMethod ({ cls := "BlueBag$Tokens", name := "<init>", desc := "(LBlueBag$Tape;)V" } : Jvm.MethodName)), (Jvm.Cond.methodLink "BlueBag$Tokens" (3 : Nat) ({ cls := "java/lang/Object", name := "<init>", desc := "()V" } : Jvm.MethodName)), (Jvm.Cond.fieldLink "BlueBag$Tokens" (9 : Nat) "BlueBag$Tokens" "tape" "LBlueBag$Tape;"), (Jvm.Cond.fieldLink "BlueBag$Tokens" (15 : Nat) "BlueBag$Tokens" "end" "I"), (Jvm.Cond.fieldLinkNest "BlueBag$CoastReader" (67 : Nat) "BlueBag$Tokens" "kind" "I" "BlueBag"), (Jvm.Cond.fieldLinkNest "BlueBag$RuleReader" (28 : Nat) "BlueBag$Tokens" "kind" "I" "BlueBag"), (Jvm.Cond.fieldLink "BlueBag$Tokens" (47 : Nat) "BlueBag$Tokens" "kind" "I"), (Jvm.Cond.fieldLink "BlueBag$Tokens" (31 : Nat) "BlueBag$Tokens" "start" "I"), (Jvm.Cond.fieldLink "BlueBag$Tokens" (19 : Nat) "BlueBag$Tokens" "next" "I"), (Jvm.Cond.fieldLink "BlueBag$Tokens" (44 : Nat) "BlueBag$Tokens" "number" "I"), (Jvm.Cond.fieldLinkNest "BlueBag$RuleReader" (77 : Nat) "BlueBag$Tokens" "number" "I" "BlueBag"), (Jvm.Cond.fieldLinkNest "BlueBag$CoastReader" (193 : Nat) "BlueBag$Tokens" "number" "I" "BlueBag"), (Jvm.Cond.fieldLink "BlueBag$Tokens" (22 : Nat) "BlueBag$Tokens" "fault" "I"), (Jvm.Cond.fieldLinkNest "BlueBag$CoastReader" (74 : Nat) "BlueBag$Tokens" "fault" "I" "BlueBag"), (Jvm.Cond.fieldLink "BlueBag$Tokens" (25 : Nat) "BlueBag$Tokens" "faultPlace" "I")]
set_option maxRecDepth 100000 in
theorem sb_4 : isSub nd_4 ((tables_1_1).drop 151) = true := by decide +kernel
theorem im_4 {i : Nat} {w : Cond} (h : nd_4[i]? = some w) : w ∈ lw_tbl := tin_1 (List.mem_of_mem_drop (isSub_mem _ _ sb_4 w (List.mem_of_getElem? h)))
def nd_5 : List Cond := [(Jvm.Cond.fieldLinkNest "BlueBag$CoastReader" (77 : Nat) "BlueBag$Tokens" "faultPlace" "I" "BlueBag"), (Jvm.Cond.laysFinal "BlueBag$Tokens" "BlueBag$Tokens" "tape" "LBlueBag$Tape;"), (Jvm.Cond.lays "BlueBag$Tokens" "BlueBag$Tokens" "end" "I"), (Jvm.Cond.lays "BlueBag$Tokens" "BlueBag$Tokens" "kind" "I"), (Jvm.Cond.lays "BlueBag$Tokens" "BlueBag$Tokens" "start" "I"), (Jvm.Cond.lays "BlueBag$Tokens" "BlueBag$Tokens" "next" "I"), (Jvm.Cond.lays "BlueBag$Tokens" "BlueBag$Tokens" "number" "I")]
set_option maxRecDepth 100000 in
theorem sb_5 : isSub nd_5 ((tables_1_1).drop 228) = true := by decide +kernel
theorem im_5 {i : Nat} {w : Cond} (h : nd_5[i]? = some w) : w ∈ lw_tbl := tin_1 (List.mem_of_mem_drop (isSub_mem _ _ sb_5 w (List.mem_of_getElem? h)))
set_option maxRecDepth 100000 in
theorem cw_357 : (Jvm.Cond.code ({ cls := "BlueBag$RuleReader", name := "<init>", desc := "(LBlueBag$Tokens;LBlueBag$Rule;)V" } : Jvm.MethodName) prog_8_method_1_code (3 : Nat) (Option.none : Option Jvm.ClassFile.FieldType)) ∈ lw_tbl := tin_2 (List.mem_of_getElem? (i := 10) rfl)
set_option maxRecDepth 100000 in
theorem cw_397 : (Jvm.Cond.code ({ cls := "BlueBag$Memory", name := "<init>", desc := "(LBlueBag$Coast;)V" } : Jvm.MethodName) prog_6_method_1_code (2 : Nat) (Option.none : Option Jvm.ClassFile.FieldType)) ∈ lw_tbl := tin_2 (List.mem_of_getElem? (i := 50) rfl)
set_option maxRecDepth 100000 in
theorem cw_403 : (Jvm.Cond.code ({ cls := "BlueBag$Acts", name := "<init>", desc := "()V" } : Jvm.MethodName) prog_2_method_1_code (1 : Nat) (Option.none : Option Jvm.ClassFile.FieldType)) ∈ lw_tbl := tin_2 (List.mem_of_getElem? (i := 56) rfl)
set_option maxRecDepth 100000 in
theorem cw_446 : (Jvm.Cond.code ({ cls := "BlueBag$Sending", name := "<init>", desc := "(LBlueBag$Sky;)V" } : Jvm.MethodName) prog_9_method_1_code (2 : Nat) (Option.none : Option Jvm.ClassFile.FieldType)) ∈ lw_tbl := tin_2 (List.mem_of_getElem? (i := 99) rfl)
set_option maxRecDepth 100000 in
theorem cw_472 : (Jvm.Cond.code ({ cls := "BlueBag$Dice", name := "<init>", desc := "()V" } : Jvm.MethodName) prog_5_method_1_code (1 : Nat) (Option.none : Option Jvm.ClassFile.FieldType)) ∈ lw_tbl := tin_2 (List.mem_of_getElem? (i := 125) rfl)
set_option maxRecDepth 100000 in
theorem cw_523 : (Jvm.Cond.code ({ cls := "BlueBag", name := "feed", desc := "(IIIII)I" } : Jvm.MethodName) prog_1_method_2_code (6 : Nat) (Option.some Jvm.ClassFile.FieldType.int)) ∈ lw_tbl := tin_2 (List.mem_of_getElem? (i := 176) rfl)
set_option maxRecDepth 100000 in
theorem cw_527 : (Jvm.Cond.code ({ cls := "BlueBag$Tape", name := "hasRoomFor", desc := "(I)Z" } : Jvm.MethodName) prog_11_method_2_code (2 : Nat) (Option.some Jvm.ClassFile.FieldType.boolean)) ∈ lw_tbl := tin_2 (List.mem_of_getElem? (i := 180) rfl)
set_option maxRecDepth 100000 in
theorem cw_531 : (Jvm.Cond.code ({ cls := "BlueBag$Tape", name := "put", desc := "(I)V" } : Jvm.MethodName) prog_11_method_3_code (3 : Nat) (Option.none : Option Jvm.ClassFile.FieldType)) ∈ lw_tbl := tin_2 (List.mem_of_getElem? (i := 184) rfl)
set_option maxRecDepth 100000 in
theorem cw_535 : (Jvm.Cond.code ({ cls := "BlueBag", name := "fault", desc := "()I" } : Jvm.MethodName) prog_1_method_4_code (1 : Nat) (Option.some Jvm.ClassFile.FieldType.int)) ∈ lw_tbl := tin_2 (List.mem_of_getElem? (i := 188) rfl)
set_option maxRecDepth 100000 in
theorem cw_539 : (Jvm.Cond.code ({ cls := "BlueBag", name := "days", desc := "(I)I" } : Jvm.MethodName) prog_1_method_8_code (3 : Nat) (Option.some Jvm.ClassFile.FieldType.int)) ∈ lw_tbl := tin_2 (List.mem_of_getElem? (i := 192) rfl)
set_option maxRecDepth 100000 in
theorem cw_543 : (Jvm.Cond.code ({ cls := "BlueBag", name := "refuseAct", desc := "()I" } : Jvm.MethodName) prog_1_method_44_code (1 : Nat) (Option.some Jvm.ClassFile.FieldType.int)) ∈ lw_tbl := tin_2 (List.mem_of_getElem? (i := 196) rfl)
set_option maxRecDepth 100000 in
theorem cw_547 : (Jvm.Cond.code ({ cls := "BlueBag$Memory", name := "refuse", desc := "(I)V" } : Jvm.MethodName) prog_6_method_5_code (2 : Nat) (Option.none : Option Jvm.ClassFile.FieldType)) ∈ lw_tbl := tin_2 (List.mem_of_getElem? (i := 200) rfl)
set_option maxRecDepth 100000 in
theorem cw_551 : (Jvm.Cond.code ({ cls := "BlueBag$Memory", name := "keepAct", desc := "()V" } : Jvm.MethodName) prog_6_method_4_code (1 : Nat) (Option.none : Option Jvm.ClassFile.FieldType)) ∈ lw_tbl := tin_2 (List.mem_of_getElem? (i := 204) rfl)
set_option maxRecDepth 100000 in
theorem cw_555 : (Jvm.Cond.code ({ cls := "BlueBag$Acts", name := "keep", desc := "(LBlueBag$Sky;)V" } : Jvm.MethodName) prog_2_method_4_code (2 : Nat) (Option.none : Option Jvm.ClassFile.FieldType)) ∈ lw_tbl := tin_2 (List.mem_of_getElem? (i := 208) rfl)
set_option maxRecDepth 100000 in
theorem cw_562 : (Jvm.Cond.code ({ cls := "BlueBag$Sky", name := "save", desc := "([II)V" } : Jvm.MethodName) prog_10_method_4_code (4 : Nat) (Option.none : Option Jvm.ClassFile.FieldType)) ∈ lw_tbl := tin_2 (List.mem_of_getElem? (i := 215) rfl)
set_option maxRecDepth 100000 in
theorem cw_567 : (Jvm.Cond.code ({ cls := "BlueBag$Sky", name := "passDay", desc := "()V" } : Jvm.MethodName) prog_10_method_17_code (2 : Nat) (Option.none : Option Jvm.ClassFile.FieldType)) ∈ lw_tbl := tin_2 (List.mem_of_getElem? (i := 220) rfl)
set_option maxRecDepth 100000 in
theorem cw_571 : (Jvm.Cond.code ({ cls := "BlueBag$Sky", name := "isResting", desc := "(I)Z" } : Jvm.MethodName) prog_10_method_10_code (2 : Nat) (Option.some Jvm.ClassFile.FieldType.boolean)) ∈ lw_tbl := tin_2 (List.mem_of_getElem? (i := 224) rfl)
set_option maxRecDepth 100000 in
theorem cw_575 : (Jvm.Cond.code ({ cls := "BlueBag$Sky", name := "swish", desc := "(II)V" } : Jvm.MethodName) prog_10_method_22_code (7 : Nat) (Option.none : Option Jvm.ClassFile.FieldType)) ∈ lw_tbl := tin_2 (List.mem_of_getElem? (i := 228) rfl)
set_option maxRecDepth 100000 in
theorem cw_579 : (Jvm.Cond.code ({ cls := "BlueBag$Sky", name := "dyeOf", desc := "(II)I" } : Jvm.MethodName) prog_10_method_24_code (3 : Nat) (Option.some Jvm.ClassFile.FieldType.int)) ∈ lw_tbl := tin_2 (List.mem_of_getElem? (i := 232) rfl)
set_option maxRecDepth 100000 in
theorem cw_583 : (Jvm.Cond.code ({ cls := "BlueBag$Rule", name := "isTold", desc := "()Z" } : Jvm.MethodName) prog_7_method_3_code (1 : Nat) (Option.some Jvm.ClassFile.FieldType.boolean)) ∈ lw_tbl := tin_2 (List.mem_of_getElem? (i := 236) rfl)
def nd_6 : List Cond := [(Jvm.Cond.lays "BlueBag$Tokens" "BlueBag$Tokens" "fault" "I"), (Jvm.Cond.lays "BlueBag$Tokens" "BlueBag$Tokens" "faultPlace" "I"), (Jvm.Cond.classLink "BlueBag$CoastReader" (36 : Nat) "BlueBag$RuleReader"), (Jvm.Cond.instantiable "BlueBag$RuleReader" (3 : Nat)), (Jvm.Cond.methodLink "BlueBag$CoastReader" (42 : Nat) ({ cls := "BlueBag$RuleReader", name := "<init>", desc := "(LBlueBag$Tokens;LBlueBag$Rule;)V" } : Jvm.MethodName)), (Jvm.Cond.instanceMethod ({ cls := "BlueBag$RuleReader", name := "<init>", desc := "(LBlueBag$Tokens;LBlueBag$Rule;)V" } : Jvm.MethodName)), (Jvm.Cond.methodLink "BlueBag$RuleReader" (3 : Nat) ({ cls := "java/lang/Object", name := "<init>", desc := "()V" } : Jvm.MethodName)), (Jvm.Cond.fieldLink "BlueBag$RuleReader" (9 : Nat) "BlueBag$RuleReader" "tokens" "LBlueBag$Tokens;"), (Jvm.Cond.fieldLink "BlueBag$RuleReader" (15 : Nat) "BlueBag$RuleReader" "rule" "LBlueBag$Rule;"), (Jvm.Cond.fieldLink "BlueBag$RuleReader" (19 : Nat) "BlueBag$RuleReader" "isOfDyes" "Z"), (Jvm.Cond.laysFinal "BlueBag$RuleReader" "BlueBag$RuleReader" "tokens" "LBlueBag$Tokens;"), (Jvm.Cond.lays "BlueBag$RuleReader" "BlueBag$RuleReader" "rule" "LBlueBag$Rule;"), (Jvm.Cond.lays "BlueBag$RuleReader" "BlueBag$RuleReader" "isOfDyes" "Z"), (Jvm.Cond.fieldLink "BlueBag$CoastReader" (32 : Nat) "BlueBag$CoastReader" "tokens" "LBlueBag$Tokens;"), (Jvm.Cond.fieldLink "BlueBag$CoastReader" (45 : Nat) "BlueBag$CoastReader" "rules" "LBlueBag$RuleReader;"), (Jvm.Cond.fieldLink "BlueBag$CoastReader" (12 : Nat) "BlueBag$CoastReader" "draft" "LBlueBag$Coast;"), (Jvm.Cond.fieldLinkNest "BlueBag" (112 : Nat) "BlueBag$CoastReader" "draft" "LBlueBag$Coast;" "BlueBag"), (Jvm.Cond.fieldLink "BlueBag$CoastReader" (23 : Nat) "BlueBag$CoastReader" "draftSky" "LBlueBag$Sky;"), (Jvm.Cond.fieldLinkNest "BlueBag" (118 : Nat) "BlueBag$CoastReader" "draftSky" "LBlueBag$Sky;" "BlueBag"), (Jvm.Cond.fieldLink "BlueBag$CoastReader" (53 : Nat) "BlueBag$CoastReader" "told" "I"), (Jvm.Cond.fieldLink "BlueBag$CoastReader" (57 : Nat) "BlueBag$CoastReader" "blues" "I"), (Jvm.Cond.fieldLink "BlueBag$CoastReader" (60 : Nat) "BlueBag$CoastReader" "isCellTold" "Z"), (Jvm.Cond.laysFinal "BlueBag$CoastReader" "BlueBag$CoastReader" "tokens" "LBlueBag$Tokens;"), (Jvm.Cond.laysFinal "BlueBag$CoastReader" "BlueBag$CoastReader" "rules" "LBlueBag$RuleReader;"), (Jvm.Cond.laysFinal "BlueBag$CoastReader" "BlueBag$CoastReader" "draft" "LBlueBag$Coast;"), (Jvm.Cond.laysFinal "BlueBag$CoastReader" "BlueBag$CoastReader" "draftSky" "LBlueBag$Sky;"), (Jvm.Cond.lays "BlueBag$CoastReader" "BlueBag$CoastReader" "told" "I"), (Jvm.Cond.lays "BlueBag$CoastReader" "BlueBag$CoastReader" "blues" "I"), (Jvm.Cond.lays "BlueBag$CoastReader" "BlueBag$CoastReader" "isCellTold" "Z"), (Jvm.Cond.classLink "BlueBag" (32 : Nat) "BlueBag$Memory"), (Jvm.Cond.instantiable "BlueBag$Memory" (7 : Nat)), (Jvm.Cond.methodLink "BlueBag" (34 : Nat) ({ cls := "BlueBag$Memory", name := "<init>", desc := "(LBlueBag$Coast;)V" } : Jvm.MethodName)), (Jvm.Cond.instanceMethod ({ cls := "BlueBag$Memory", name := "<init>", desc := "(LBlueBag$Coast;)V" } : Jvm.MethodName)), (Jvm.Cond.methodLink "BlueBag$Memory" (3 : Nat) ({ cls := "java/lang/Object", name := "<init>", desc := "()V" } : Jvm.MethodName)), (Jvm.Cond.classLink "BlueBag$Memory" (9 : Nat) "BlueBag$Acts"), (Jvm.Cond.instantiable "BlueBag$Acts" (2 : Nat)), (Jvm.Cond.methodLinkNest "BlueBag$Memory" (11 : Nat) ({ cls := "BlueBag$Acts", name := "<init>", desc := "()V" } : Jvm.MethodName) "BlueBag"), (Jvm.Cond.instanceMethod ({ cls := "BlueBag$Acts", name := "<init>", desc := "()V" } : Jvm.MethodName)), (Jvm.Cond.methodLink "BlueBag$Acts" (3 : Nat) ({ cls := "java/lang/Object", name := "<init>", desc := "()V" } : Jvm.MethodName)), (Jvm.Cond.fieldLink "BlueBag$Acts" (11 : Nat) "BlueBag$Acts" "rows" "[I"), (Jvm.Cond.fieldLink "BlueBag$Acts" (17 : Nat) "BlueBag$Acts" "kept" "I"), (Jvm.Cond.fieldLinkNest "BlueBag" (165 : Nat) "BlueBag$Acts" "kept" "I" "BlueBag"), (Jvm.Cond.laysFinal "BlueBag$Acts" "BlueBag$Acts" "rows" "[I"), (Jvm.Cond.lays "BlueBag$Acts" "BlueBag$Acts" "kept" "I"), (Jvm.Cond.classLink "BlueBag$Memory" (31 : Nat) "BlueBag$Sky"), (Jvm.Cond.methodLink "BlueBag$Memory" (33 : Nat) ({ cls := "BlueBag$Sky", name := "<init>", desc := "(LBlueBag$Coast;)V" } : Jvm.MethodName)), (Jvm.Cond.fieldLink "BlueBag$Memory" (36 : Nat) "BlueBag$Memory" "sky" "LBlueBag$Sky;"), (Jvm.Cond.fieldLinkNest "BlueBag" (53 : Nat) "BlueBag$Memory" "sky" "LBlueBag$Sky;" "BlueBag"), (Jvm.Cond.fieldLink "BlueBag$Memory" (12 : Nat) "BlueBag$Memory" "acts" "LBlueBag$Acts;"), (Jvm.Cond.fieldLinkNest "BlueBag" (161 : Nat) "BlueBag$Memory" "acts" "LBlueBag$Acts;" "BlueBag"), (Jvm.Cond.fieldLink "BlueBag$Memory" (18 : Nat) "BlueBag$Memory" "seenCells" "[I"), (Jvm.Cond.fieldLink "BlueBag$Memory" (22 : Nat) "BlueBag$Memory" "seenDays" "[I"), (Jvm.Cond.fieldLink "BlueBag$Memory" (25 : Nat) "BlueBag$Memory" "seenBlues" "[I"), (Jvm.Cond.fieldLink "BlueBag$Memory" (28 : Nat) "BlueBag$Memory" "status" "[I"), (Jvm.Cond.fieldLink "BlueBag$Memory" (47 : Nat) "BlueBag$Memory" "seen" "I"), (Jvm.Cond.fieldLinkNest "BlueBag" (170 : Nat) "BlueBag$Memory" "seen" "I" "BlueBag"), (Jvm.Cond.laysFinal "BlueBag$Memory" "BlueBag$Memory" "sky" "LBlueBag$Sky;"), (Jvm.Cond.laysFinal "BlueBag$Memory" "BlueBag$Memory" "acts" "LBlueBag$Acts;"), (Jvm.Cond.laysFinal "BlueBag$Memory" "BlueBag$Memory" "seenCells" "[I"), (Jvm.Cond.laysFinal "BlueBag$Memory" "BlueBag$Memory" "seenDays" "[I")]
set_option maxRecDepth 100000 in
theorem sb_6 : isSub nd_6 ((tables_1_2).drop 1) = true := by decide +kernel
theorem im_6 {i : Nat} {w : Cond} (h : nd_6[i]? = some w) : w ∈ lw_tbl := tin_2 (List.mem_of_mem_drop (isSub_mem _ _ sb_6 w (List.mem_of_getElem? h)))
def nd_7 : List Cond := [(Jvm.Cond.laysFinal "BlueBag$Memory" "BlueBag$Memory" "seenBlues" "[I"), (Jvm.Cond.laysFinal "BlueBag$Memory" "BlueBag$Memory" "status" "[I"), (Jvm.Cond.lays "BlueBag$Memory" "BlueBag$Memory" "seen" "I"), (Jvm.Cond.classLink "BlueBag" (44 : Nat) "BlueBag$Sky"), (Jvm.Cond.methodLink "BlueBag" (46 : Nat) ({ cls := "BlueBag$Sky", name := "<init>", desc := "(LBlueBag$Coast;)V" } : Jvm.MethodName)), (Jvm.Cond.classLink "BlueBag" (51 : Nat) "BlueBag$Sending"), (Jvm.Cond.instantiable "BlueBag$Sending" (6 : Nat)), (Jvm.Cond.methodLink "BlueBag" (56 : Nat) ({ cls := "BlueBag$Sending", name := "<init>", desc := "(LBlueBag$Sky;)V" } : Jvm.MethodName)), (Jvm.Cond.instanceMethod ({ cls := "BlueBag$Sending", name := "<init>", desc := "(LBlueBag$Sky;)V" } : Jvm.MethodName)), (Jvm.Cond.methodLink "BlueBag$Sending" (3 : Nat) ({ cls := "java/lang/Object", name := "<init>", desc := "()V" } : Jvm.MethodName)), (Jvm.Cond.fieldLink "BlueBag$Sending" (9 : Nat) "BlueBag$Sending" "goals" "[I"), (Jvm.Cond.fieldLink "BlueBag$Sending" (15 : Nat) "BlueBag$Sending" "row" "[I"), (Jvm.Cond.fieldLink "BlueBag$Sending" (18 : Nat) "BlueBag$Sending" "bestRow" "[I"), (Jvm.Cond.fieldLink "BlueBag$Sending" (21 : Nat) "BlueBag$Sending" "sky" "LBlueBag$Sky;"), (Jvm.Cond.fieldLink "BlueBag$Sending" (25 : Nat) "BlueBag$Sending" "many" "I"), (Jvm.Cond.fieldLink "BlueBag$Sending" (41 : Nat) "BlueBag$Sending" "least" "I"), (Jvm.Cond.fieldLinkNest "BlueBag" (304 : Nat) "BlueBag$Sending" "least" "I" "BlueBag"), (Jvm.Cond.laysFinal "BlueBag$Sending" "BlueBag$Sending" "goals" "[I"), (Jvm.Cond.laysFinal "BlueBag$Sending" "BlueBag$Sending" "row" "[I"), (Jvm.Cond.laysFinal "BlueBag$Sending" "BlueBag$Sending" "bestRow" "[I"), (Jvm.Cond.laysFinal "BlueBag$Sending" "BlueBag$Sending" "sky" "LBlueBag$Sky;"), (Jvm.Cond.lays "BlueBag$Sending" "BlueBag$Sending" "many" "I"), (Jvm.Cond.lays "BlueBag$Sending" "BlueBag$Sending" "least" "I"), (Jvm.Cond.classLink "BlueBag" (63 : Nat) "BlueBag$Dice"), (Jvm.Cond.instantiable "BlueBag$Dice" (1 : Nat)), (Jvm.Cond.methodLinkNest "BlueBag" (65 : Nat) ({ cls := "BlueBag$Dice", name := "<init>", desc := "()V" } : Jvm.MethodName) "BlueBag"), (Jvm.Cond.instanceMethod ({ cls := "BlueBag$Dice", name := "<init>", desc := "()V" } : Jvm.MethodName)), (Jvm.Cond.methodLink "BlueBag$Dice" (1 : Nat) ({ cls := "java/lang/Object", name := "<init>", desc := "()V" } : Jvm.MethodName)), (Jvm.Cond.fieldLink "BlueBag$Dice" (7 : Nat) "BlueBag$Dice" "seed" "I"), (Jvm.Cond.fieldLinkNest "BlueBag" (334 : Nat) "BlueBag$Dice" "seed" "I" "BlueBag"), (Jvm.Cond.lays "BlueBag$Dice" "BlueBag$Dice" "seed" "I"), (Jvm.Cond.fieldLink "BlueBag" (10 : Nat) "BlueBag" "tape" "LBlueBag$Tape;"), (Jvm.Cond.fieldLink "BlueBag" (19 : Nat) "BlueBag" "coast" "LBlueBag$Coast;"), (Jvm.Cond.fieldLink "BlueBag" (28 : Nat) "BlueBag" "reader" "LBlueBag$CoastReader;"), (Jvm.Cond.fieldLink "BlueBag" (37 : Nat) "BlueBag" "present" "LBlueBag$Memory;"), (Jvm.Cond.fieldLink "BlueBag" (41 : Nat) "BlueBag" "pictured" "LBlueBag$Memory;"), (Jvm.Cond.fieldLink "BlueBag" (47 : Nat) "BlueBag" "trial" "LBlueBag$Sky;"), (Jvm.Cond.fieldLink "BlueBag" (59 : Nat) "BlueBag" "sending" "LBlueBag$Sending;"), (Jvm.Cond.fieldLink "BlueBag" (66 : Nat) "BlueBag" "dice" "LBlueBag$Dice;"), (Jvm.Cond.fieldLink "BlueBag" (70 : Nat) "BlueBag" "lowBlues" "[J"), (Jvm.Cond.fieldLink "BlueBag" (74 : Nat) "BlueBag" "highBlues" "[J"), (Jvm.Cond.fieldLink "BlueBag" (77 : Nat) "BlueBag" "gains" "[I"), (Jvm.Cond.fieldLink "BlueBag" (124 : Nat) "BlueBag" "isPictured" "Z"), (Jvm.Cond.fieldLink "BlueBag" (81 : Nat) "BlueBag" "faultPlace" "I"), (Jvm.Cond.laysFinal "BlueBag" "BlueBag" "tape" "LBlueBag$Tape;"), (Jvm.Cond.laysFinal "BlueBag" "BlueBag" "coast" "LBlueBag$Coast;"), (Jvm.Cond.laysFinal "BlueBag" "BlueBag" "reader" "LBlueBag$CoastReader;"), (Jvm.Cond.laysFinal "BlueBag" "BlueBag" "present" "LBlueBag$Memory;"), (Jvm.Cond.laysFinal "BlueBag" "BlueBag" "pictured" "LBlueBag$Memory;"), (Jvm.Cond.laysFinal "BlueBag" "BlueBag" "trial" "LBlueBag$Sky;"), (Jvm.Cond.laysFinal "BlueBag" "BlueBag" "sending" "LBlueBag$Sending;"), (Jvm.Cond.laysFinal "BlueBag" "BlueBag" "dice" "LBlueBag$Dice;"), (Jvm.Cond.laysFinal "BlueBag" "BlueBag" "lowBlues" "[J"), (Jvm.Cond.laysFinal "BlueBag" "BlueBag" "highBlues" "[J"), (Jvm.Cond.laysFinal "BlueBag" "BlueBag" "gains" "[I"), (Jvm.Cond.lays "BlueBag" "BlueBag" "isPictured" "Z"), (Jvm.Cond.lays "BlueBag" "BlueBag" "faultPlace" "I"), (Jvm.Cond.arrayClass Jvm.ClassFile.FieldType.long), (Jvm.Cond.methodLink "BlueBagLaw" (103 : Nat) ({ cls := "BlueBag", name := "feed", desc := "(IIIII)I" } : Jvm.MethodName)), (Jvm.Cond.instanceMethod ({ cls := "BlueBag", name := "feed", desc := "(IIIII)I" } : Jvm.MethodName))]
set_option maxRecDepth 100000 in
theorem sb_7 : isSub nd_7 ((tables_1_2).drop 86) = true := by decide +kernel
theorem im_7 {i : Nat} {w : Cond} (h : nd_7[i]? = some w) : w ∈ lw_tbl := tin_2 (List.mem_of_mem_drop (isSub_mem _ _ sb_7 w (List.mem_of_getElem? h)))
def nd_8 : List Cond := [(Jvm.Cond.selects "BlueBag" ({ cls := "BlueBag", name := "feed", desc := "(IIIII)I" } : Jvm.MethodName) ({ cls := "BlueBag", name := "feed", desc := "(IIIII)I" } : Jvm.MethodName)), (Jvm.Cond.methodLink "BlueBag" (85 : Nat) ({ cls := "BlueBag$Tape", name := "hasRoomFor", desc := "(I)Z" } : Jvm.MethodName)), (Jvm.Cond.instanceMethod ({ cls := "BlueBag$Tape", name := "hasRoomFor", desc := "(I)Z" } : Jvm.MethodName)), (Jvm.Cond.selects "BlueBag$Tape" ({ cls := "BlueBag$Tape", name := "hasRoomFor", desc := "(I)Z" } : Jvm.MethodName) ({ cls := "BlueBag$Tape", name := "hasRoomFor", desc := "(I)Z" } : Jvm.MethodName)), (Jvm.Cond.methodLink "BlueBag" (89 : Nat) ({ cls := "BlueBag$Tape", name := "put", desc := "(I)V" } : Jvm.MethodName)), (Jvm.Cond.instanceMethod ({ cls := "BlueBag$Tape", name := "put", desc := "(I)V" } : Jvm.MethodName)), (Jvm.Cond.selects "BlueBag$Tape" ({ cls := "BlueBag$Tape", name := "put", desc := "(I)V" } : Jvm.MethodName) ({ cls := "BlueBag$Tape", name := "put", desc := "(I)V" } : Jvm.MethodName)), (Jvm.Cond.methodLink "BlueBagLaw" (114 : Nat) ({ cls := "BlueBag", name := "fault", desc := "()I" } : Jvm.MethodName)), (Jvm.Cond.instanceMethod ({ cls := "BlueBag", name := "fault", desc := "()I" } : Jvm.MethodName)), (Jvm.Cond.selects "BlueBag" ({ cls := "BlueBag", name := "fault", desc := "()I" } : Jvm.MethodName) ({ cls := "BlueBag", name := "fault", desc := "()I" } : Jvm.MethodName)), (Jvm.Cond.methodLink "BlueBagLaw" (129 : Nat) ({ cls := "BlueBag", name := "days", desc := "(I)I" } : Jvm.MethodName)), (Jvm.Cond.instanceMethod ({ cls := "BlueBag", name := "days", desc := "(I)I" } : Jvm.MethodName)), (Jvm.Cond.selects "BlueBag" ({ cls := "BlueBag", name := "days", desc := "(I)I" } : Jvm.MethodName) ({ cls := "BlueBag", name := "days", desc := "(I)I" } : Jvm.MethodName)), (Jvm.Cond.methodLink "BlueBag" (215 : Nat) ({ cls := "BlueBag", name := "refuseAct", desc := "()I" } : Jvm.MethodName)), (Jvm.Cond.instanceMethod ({ cls := "BlueBag", name := "refuseAct", desc := "()I" } : Jvm.MethodName)), (Jvm.Cond.methodLink "BlueBag" (109 : Nat) ({ cls := "BlueBag$Memory", name := "refuse", desc := "(I)V" } : Jvm.MethodName)), (Jvm.Cond.instanceMethod ({ cls := "BlueBag$Memory", name := "refuse", desc := "(I)V" } : Jvm.MethodName)), (Jvm.Cond.selects "BlueBag$Memory" ({ cls := "BlueBag$Memory", name := "refuse", desc := "(I)V" } : Jvm.MethodName) ({ cls := "BlueBag$Memory", name := "refuse", desc := "(I)V" } : Jvm.MethodName)), (Jvm.Cond.methodLink "BlueBag" (218 : Nat) ({ cls := "BlueBag$Memory", name := "keepAct", desc := "()V" } : Jvm.MethodName)), (Jvm.Cond.instanceMethod ({ cls := "BlueBag$Memory", name := "keepAct", desc := "()V" } : Jvm.MethodName)), (Jvm.Cond.selects "BlueBag$Memory" ({ cls := "BlueBag$Memory", name := "keepAct", desc := "()V" } : Jvm.MethodName) ({ cls := "BlueBag$Memory", name := "keepAct", desc := "()V" } : Jvm.MethodName)), (Jvm.Cond.methodLink "BlueBag$Memory" (60 : Nat) ({ cls := "BlueBag$Acts", name := "keep", desc := "(LBlueBag$Sky;)V" } : Jvm.MethodName)), (Jvm.Cond.instanceMethod ({ cls := "BlueBag$Acts", name := "keep", desc := "(LBlueBag$Sky;)V" } : Jvm.MethodName)), (Jvm.Cond.selects "BlueBag$Acts" ({ cls := "BlueBag$Acts", name := "keep", desc := "(LBlueBag$Sky;)V" } : Jvm.MethodName) ({ cls := "BlueBag$Acts", name := "keep", desc := "(LBlueBag$Sky;)V" } : Jvm.MethodName)), (Jvm.Cond.methodLink "BlueBag$Acts" (21 : Nat) ({ cls := "java/lang/System", name := "arraycopy", desc := "(Ljava/lang/Object;ILjava/lang/Object;II)V" } : Jvm.MethodName)), (Jvm.Cond.static ({ cls := "java/lang/System", name := "arraycopy", desc := "(Ljava/lang/Object;ILjava/lang/Object;II)V" } : Jvm.MethodName)), (Jvm.Cond.native ({ cls := "java/lang/System", name := "arraycopy", desc := "(Ljava/lang/Object;ILjava/lang/Object;II)V" } : Jvm.MethodName)), (Jvm.Cond.methodLink "BlueBag$Acts" (27 : Nat) ({ cls := "BlueBag$Sky", name := "save", desc := "([II)V" } : Jvm.MethodName)), (Jvm.Cond.instanceMethod ({ cls := "BlueBag$Sky", name := "save", desc := "([II)V" } : Jvm.MethodName)), (Jvm.Cond.selects "BlueBag$Sky" ({ cls := "BlueBag$Sky", name := "save", desc := "([II)V" } : Jvm.MethodName) ({ cls := "BlueBag$Sky", name := "save", desc := "([II)V" } : Jvm.MethodName)), (Jvm.Cond.methodLink "BlueBag$Sky" (58 : Nat) ({ cls := "java/lang/System", name := "arraycopy", desc := "(Ljava/lang/Object;ILjava/lang/Object;II)V" } : Jvm.MethodName)), (Jvm.Cond.methodLink "BlueBag" (221 : Nat) ({ cls := "BlueBag$Sky", name := "passDay", desc := "()V" } : Jvm.MethodName)), (Jvm.Cond.instanceMethod ({ cls := "BlueBag$Sky", name := "passDay", desc := "()V" } : Jvm.MethodName)), (Jvm.Cond.selects "BlueBag$Sky" ({ cls := "BlueBag$Sky", name := "passDay", desc := "()V" } : Jvm.MethodName) ({ cls := "BlueBag$Sky", name := "passDay", desc := "()V" } : Jvm.MethodName)), (Jvm.Cond.methodLink "BlueBag$Sky" (79 : Nat) ({ cls := "BlueBag$Sky", name := "isResting", desc := "(I)Z" } : Jvm.MethodName)), (Jvm.Cond.instanceMethod ({ cls := "BlueBag$Sky", name := "isResting", desc := "(I)Z" } : Jvm.MethodName)), (Jvm.Cond.selects "BlueBag$Sky" ({ cls := "BlueBag$Sky", name := "isResting", desc := "(I)Z" } : Jvm.MethodName) ({ cls := "BlueBag$Sky", name := "isResting", desc := "(I)Z" } : Jvm.MethodName)), (Jvm.Cond.methodLink "BlueBag$Sky" (82 : Nat) ({ cls := "BlueBag$Sky", name := "swish", desc := "(II)V" } : Jvm.MethodName)), (Jvm.Cond.instanceMethod ({ cls := "BlueBag$Sky", name := "swish", desc := "(II)V" } : Jvm.MethodName)), (Jvm.Cond.selects "BlueBag$Sky" ({ cls := "BlueBag$Sky", name := "swish", desc := "(II)V" } : Jvm.MethodName) ({ cls := "BlueBag$Sky", name := "swish", desc := "(II)V" } : Jvm.MethodName)), (Jvm.Cond.methodLink "BlueBag$Sky" (129 : Nat) ({ cls := "BlueBag$Sky", name := "dyeOf", desc := "(II)I" } : Jvm.MethodName)), (Jvm.Cond.instanceMethod ({ cls := "BlueBag$Sky", name := "dyeOf", desc := "(II)I" } : Jvm.MethodName)), (Jvm.Cond.selects "BlueBag$Sky" ({ cls := "BlueBag$Sky", name := "dyeOf", desc := "(II)I" } : Jvm.MethodName) ({ cls := "BlueBag$Sky", name := "dyeOf", desc := "(II)I" } : Jvm.MethodName)), (Jvm.Cond.methodLink "BlueBag$Sky" (114 : Nat) ({ cls := "BlueBag$Rule", name := "isTold", desc := "()Z" } : Jvm.MethodName)), (Jvm.Cond.instanceMethod ({ cls := "BlueBag$Rule", name := "isTold", desc := "()Z" } : Jvm.MethodName)), (Jvm.Cond.selects "BlueBag$Rule" ({ cls := "BlueBag$Rule", name := "isTold", desc := "()Z" } : Jvm.MethodName) ({ cls := "BlueBag$Rule", name := "isTold", desc := "()Z" } : Jvm.MethodName)), (Jvm.Cond.methodLink "BlueBag$Sky" (157 : Nat) ({ cls := "BlueBag$Sky", name := "skillOf", desc := "(I)I" } : Jvm.MethodName)), (Jvm.Cond.instanceMethod ({ cls := "BlueBag$Sky", name := "skillOf", desc := "(I)I" } : Jvm.MethodName)), (Jvm.Cond.selects "BlueBag$Sky" ({ cls := "BlueBag$Sky", name := "skillOf", desc := "(I)I" } : Jvm.MethodName) ({ cls := "BlueBag$Sky", name := "skillOf", desc := "(I)I" } : Jvm.MethodName))]
set_option maxRecDepth 100000 in
theorem sb_8 : isSub nd_8 ((tables_1_2).drop 175) = true := by decide +kernel
theorem im_8 {i : Nat} {w : Cond} (h : nd_8[i]? = some w) : w ∈ lw_tbl := tin_2 (List.mem_of_mem_drop (isSub_mem _ _ sb_8 w (List.mem_of_getElem? h)))
set_option maxRecDepth 100000 in
theorem cw_587 : (Jvm.Cond.code ({ cls := "BlueBag$Sky", name := "skillOf", desc := "(I)I" } : Jvm.MethodName) prog_10_method_8_code (2 : Nat) (Option.some Jvm.ClassFile.FieldType.int)) ∈ lw_tbl := tin_3 (List.mem_of_getElem? (i := 0) rfl)
set_option maxRecDepth 100000 in
theorem cw_591 : (Jvm.Cond.code ({ cls := "BlueBag$Sky", name := "spotOf", desc := "(I)I" } : Jvm.MethodName) prog_10_method_7_code (2 : Nat) (Option.some Jvm.ClassFile.FieldType.int)) ∈ lw_tbl := tin_3 (List.mem_of_getElem? (i := 4) rfl)
set_option maxRecDepth 100000 in
theorem cw_595 : (Jvm.Cond.code ({ cls := "BlueBag$Sky", name := "setValues", desc := "(I)V" } : Jvm.MethodName) prog_10_method_25_code (5 : Nat) (Option.none : Option Jvm.ClassFile.FieldType)) ∈ lw_tbl := tin_3 (List.mem_of_getElem? (i := 8) rfl)
set_option maxRecDepth 100000 in
theorem cw_599 : (Jvm.Cond.code ({ cls := "BlueBag$Coast", name := "besideBits", desc := "(I)I" } : Jvm.MethodName) prog_3_method_10_code (2 : Nat) (Option.some Jvm.ClassFile.FieldType.int)) ∈ lw_tbl := tin_3 (List.mem_of_getElem? (i := 12) rfl)
set_option maxRecDepth 100000 in
theorem cw_603 : (Jvm.Cond.code ({ cls := "BlueBag$Sky", name := "blueOf", desc := "(I)I" } : Jvm.MethodName) prog_10_method_6_code (2 : Nat) (Option.some Jvm.ClassFile.FieldType.int)) ∈ lw_tbl := tin_3 (List.mem_of_getElem? (i := 16) rfl)
set_option maxRecDepth 100000 in
theorem cw_607 : (Jvm.Cond.code ({ cls := "BlueBag$Coast", name := "rowOf", desc := "(I)I" } : Jvm.MethodName) prog_3_method_7_code (2 : Nat) (Option.some Jvm.ClassFile.FieldType.int)) ∈ lw_tbl := tin_3 (List.mem_of_getElem? (i := 20) rfl)
set_option maxRecDepth 100000 in
theorem cw_611 : (Jvm.Cond.code ({ cls := "BlueBag$Rule", name := "worth", desc := "([I)I" } : Jvm.MethodName) prog_7_method_7_code (6 : Nat) (Option.some Jvm.ClassFile.FieldType.int)) ∈ lw_tbl := tin_3 (List.mem_of_getElem? (i := 24) rfl)
set_option maxRecDepth 100000 in
theorem cw_614 : (Jvm.Cond.code ({ cls := "BlueBag$Rule", name := "joined", desc := "(III)I" } : Jvm.MethodName) prog_7_method_8_code (3 : Nat) (Option.some Jvm.ClassFile.FieldType.int)) ∈ lw_tbl := tin_3 (List.mem_of_getElem? (i := 27) rfl)
set_option maxRecDepth 100000 in
theorem cw_617 : (Jvm.Cond.code ({ cls := "java/lang/Math", name := "min", desc := "(II)I" } : Jvm.MethodName) prog_22_method_69_code (2 : Nat) (Option.some Jvm.ClassFile.FieldType.int)) ∈ lw_tbl := tin_3 (List.mem_of_getElem? (i := 30) rfl)
set_option maxRecDepth 100000 in
theorem cw_620 : (Jvm.Cond.code ({ cls := "java/lang/Math", name := "max", desc := "(II)I" } : Jvm.MethodName) prog_22_method_65_code (2 : Nat) (Option.some Jvm.ClassFile.FieldType.int)) ∈ lw_tbl := tin_3 (List.mem_of_getElem? (i := 33) rfl)
set_option maxRecDepth 100000 in
theorem cw_624 : (Jvm.Cond.code ({ cls := "BlueBag$Sky", name := "addBlue", desc := "(II)V" } : Jvm.MethodName) prog_10_method_16_code (3 : Nat) (Option.none : Option Jvm.ClassFile.FieldType)) ∈ lw_tbl := tin_3 (List.mem_of_getElem? (i := 37) rfl)
set_option maxRecDepth 100000 in
theorem cw_628 : (Jvm.Cond.code ({ cls := "BlueBag$Sky", name := "isPegged", desc := "(I)Z" } : Jvm.MethodName) prog_10_method_9_code (2 : Nat) (Option.some Jvm.ClassFile.FieldType.boolean)) ∈ lw_tbl := tin_3 (List.mem_of_getElem? (i := 41) rfl)
set_option maxRecDepth 100000 in
theorem cw_632 : (Jvm.Cond.code ({ cls := "BlueBag$Coast", name := "isOld", desc := "(I)Z" } : Jvm.MethodName) prog_3_method_9_code (2 : Nat) (Option.some Jvm.ClassFile.FieldType.boolean)) ∈ lw_tbl := tin_3 (List.mem_of_getElem? (i := 45) rfl)
set_option maxRecDepth 100000 in
theorem cw_636 : (Jvm.Cond.code ({ cls := "BlueBag$Sky", name := "drip", desc := "(II)V" } : Jvm.MethodName) prog_10_method_23_code (5 : Nat) (Option.none : Option Jvm.ClassFile.FieldType)) ∈ lw_tbl := tin_3 (List.mem_of_getElem? (i := 49) rfl)
set_option maxRecDepth 100000 in
theorem cw_642 : (Jvm.Cond.code ({ cls := "BlueBag$Sky", name := "markOverdone", desc := "()V" } : Jvm.MethodName) prog_10_method_19_code (2 : Nat) (Option.none : Option Jvm.ClassFile.FieldType)) ∈ lw_tbl := tin_3 (List.mem_of_getElem? (i := 55) rfl)
set_option maxRecDepth 100000 in
theorem cw_645 : (Jvm.Cond.code ({ cls := "java/lang/Integer", name := "bitCount", desc := "(I)I" } : Jvm.MethodName) prog_20_method_49_code (1 : Nat) (Option.some Jvm.ClassFile.FieldType.int)) ∈ lw_tbl := tin_3 (List.mem_of_getElem? (i := 58) rfl)
set_option maxRecDepth 100000 in
theorem cw_652 : (Jvm.Cond.code ({ cls := "BlueBag$Sky", name := "fade", desc := "()V" } : Jvm.MethodName) prog_10_method_20_code (2 : Nat) (Option.none : Option Jvm.ClassFile.FieldType)) ∈ lw_tbl := tin_3 (List.mem_of_getElem? (i := 65) rfl)
set_option maxRecDepth 100000 in
theorem cw_656 : (Jvm.Cond.code ({ cls := "BlueBag$Sky", name := "fadeOf", desc := "(I)I" } : Jvm.MethodName) prog_10_method_21_code (2 : Nat) (Option.some Jvm.ClassFile.FieldType.int)) ∈ lw_tbl := tin_3 (List.mem_of_getElem? (i := 69) rfl)
set_option maxRecDepth 100000 in
theorem cw_660 : (Jvm.Cond.code ({ cls := "BlueBag", name := "bag", desc := "(I)I" } : Jvm.MethodName) prog_1_method_11_code (2 : Nat) (Option.some Jvm.ClassFile.FieldType.int)) ∈ lw_tbl := tin_3 (List.mem_of_getElem? (i := 73) rfl)
set_option maxRecDepth 100000 in
theorem cw_664 : (Jvm.Cond.code ({ cls := "BlueBag$Sky", name := "addKnobs", desc := "(I)V" } : Jvm.MethodName) prog_10_method_15_code (2 : Nat) (Option.none : Option Jvm.ClassFile.FieldType)) ∈ lw_tbl := tin_3 (List.mem_of_getElem? (i := 77) rfl)
set_option maxRecDepth 100000 in
theorem cw_668 : (Jvm.Cond.code ({ cls := "BlueBag", name := "undo", desc := "()I" } : Jvm.MethodName) prog_1_method_13_code (1 : Nat) (Option.some Jvm.ClassFile.FieldType.int)) ∈ lw_tbl := tin_3 (List.mem_of_getElem? (i := 81) rfl)
set_option maxRecDepth 100000 in
theorem cw_672 : (Jvm.Cond.code ({ cls := "BlueBag$Acts", name := "takeBack", desc := "(LBlueBag$Sky;)Z" } : Jvm.MethodName) prog_2_method_5_code (2 : Nat) (Option.some Jvm.ClassFile.FieldType.boolean)) ∈ lw_tbl := tin_3 (List.mem_of_getElem? (i := 85) rfl)
set_option maxRecDepth 100000 in
theorem cw_676 : (Jvm.Cond.code ({ cls := "BlueBag$Sky", name := "load", desc := "([II)V" } : Jvm.MethodName) prog_10_method_5_code (4 : Nat) (Option.none : Option Jvm.ClassFile.FieldType)) ∈ lw_tbl := tin_3 (List.mem_of_getElem? (i := 89) rfl)
set_option maxRecDepth 100000 in
theorem cw_680 : (Jvm.Cond.code ({ cls := "BlueBag", name := "spent", desc := "()I" } : Jvm.MethodName) prog_1_method_18_code (2 : Nat) (Option.some Jvm.ClassFile.FieldType.int)) ∈ lw_tbl := tin_3 (List.mem_of_getElem? (i := 93) rfl)
set_option maxRecDepth 100000 in
theorem cw_684 : (Jvm.Cond.code ({ cls := "BlueBag", name := "lookAhead", desc := "(I)V" } : Jvm.MethodName) prog_1_method_45_code (3 : Nat) (Option.none : Option Jvm.ClassFile.FieldType)) ∈ lw_tbl := tin_3 (List.mem_of_getElem? (i := 97) rfl)
set_option maxRecDepth 100000 in
theorem cw_688 : (Jvm.Cond.code ({ cls := "BlueBag$Sky", name := "copyFrom", desc := "(LBlueBag$Sky;)V" } : Jvm.MethodName) prog_10_method_3_code (2 : Nat) (Option.none : Option Jvm.ClassFile.FieldType)) ∈ lw_tbl := tin_3 (List.mem_of_getElem? (i := 101) rfl)
set_option maxRecDepth 100000 in
theorem cw_692 : (Jvm.Cond.code ({ cls := "BlueBag", name := "steady", desc := "()I" } : Jvm.MethodName) prog_1_method_20_code (2 : Nat) (Option.some Jvm.ClassFile.FieldType.int)) ∈ lw_tbl := tin_3 (List.mem_of_getElem? (i := 105) rfl)
set_option maxRecDepth 100000 in
theorem cw_696 : (Jvm.Cond.code ({ cls := "BlueBag$Sky", name := "isAsInTheMorning", desc := "()Z" } : Jvm.MethodName) prog_10_method_18_code (2 : Nat) (Option.some Jvm.ClassFile.FieldType.boolean)) ∈ lw_tbl := tin_3 (List.mem_of_getElem? (i := 109) rfl)
set_option maxRecDepth 100000 in
theorem cw_700 : (Jvm.Cond.code ({ cls := "BlueBag", name := "toRest", desc := "()I" } : Jvm.MethodName) prog_1_method_27_code (5 : Nat) (Option.some Jvm.ClassFile.FieldType.int)) ∈ lw_tbl := tin_3 (List.mem_of_getElem? (i := 113) rfl)
set_option maxRecDepth 100000 in
theorem cw_704 : (Jvm.Cond.code ({ cls := "BlueBag$Sky", name := "uneven", desc := "()I" } : Jvm.MethodName) prog_10_method_31_code (2 : Nat) (Option.some Jvm.ClassFile.FieldType.int)) ∈ lw_tbl := tin_3 (List.mem_of_getElem? (i := 117) rfl)
set_option maxRecDepth 100000 in
theorem cw_708 : (Jvm.Cond.code ({ cls := "BlueBag$Sky", name := "deepest", desc := "()I" } : Jvm.MethodName) prog_10_method_29_code (3 : Nat) (Option.some Jvm.ClassFile.FieldType.int)) ∈ lw_tbl := tin_3 (List.mem_of_getElem? (i := 121) rfl)
set_option maxRecDepth 100000 in
theorem cw_712 : (Jvm.Cond.code ({ cls := "BlueBag$Sky", name := "palest", desc := "()I" } : Jvm.MethodName) prog_10_method_30_code (3 : Nat) (Option.some Jvm.ClassFile.FieldType.int)) ∈ lw_tbl := tin_3 (List.mem_of_getElem? (i := 125) rfl)
set_option maxRecDepth 100000 in
theorem cw_717 : (Jvm.Cond.code ({ cls := "BlueBag", name := "lookAheadIfResting", desc := "(IZ)V" } : Jvm.MethodName) prog_1_method_46_code (3 : Nat) (Option.none : Option Jvm.ClassFile.FieldType)) ∈ lw_tbl := tin_3 (List.mem_of_getElem? (i := 130) rfl)
set_option maxRecDepth 100000 in
theorem cw_721 : (Jvm.Cond.code ({ cls := "BlueBag$Sky", name := "setResting", desc := "(IZ)V" } : Jvm.MethodName) prog_10_method_13_code (3 : Nat) (Option.none : Option Jvm.ClassFile.FieldType)) ∈ lw_tbl := tin_3 (List.mem_of_getElem? (i := 134) rfl)
set_option maxRecDepth 100000 in
theorem cw_725 : (Jvm.Cond.code ({ cls := "BlueBag", name := "forget", desc := "()V" } : Jvm.MethodName) prog_1_method_35_code (1 : Nat) (Option.none : Option Jvm.ClassFile.FieldType)) ∈ lw_tbl := tin_3 (List.mem_of_getElem? (i := 138) rfl)
set_option maxRecDepth 100000 in
theorem cw_729 : (Jvm.Cond.code ({ cls := "BlueBag", name := "image", desc := "()V" } : Jvm.MethodName) prog_1_method_38_code (1 : Nat) (Option.none : Option Jvm.ClassFile.FieldType)) ∈ lw_tbl := tin_3 (List.mem_of_getElem? (i := 142) rfl)
set_option maxRecDepth 100000 in
theorem cw_733 : (Jvm.Cond.code ({ cls := "BlueBag$Memory", name := "copyFrom", desc := "(LBlueBag$Memory;)V" } : Jvm.MethodName) prog_6_method_3_code (2 : Nat) (Option.none : Option Jvm.ClassFile.FieldType)) ∈ lw_tbl := tin_3 (List.mem_of_getElem? (i := 146) rfl)
set_option maxRecDepth 100000 in
theorem cw_738 : (Jvm.Cond.code ({ cls := "BlueBag$Acts", name := "copyFrom", desc := "(LBlueBag$Acts;)V" } : Jvm.MethodName) prog_2_method_3_code (2 : Nat) (Option.none : Option Jvm.ClassFile.FieldType)) ∈ lw_tbl := tin_3 (List.mem_of_getElem? (i := 151) rfl)
set_option maxRecDepth 100000 in
theorem cw_743 : (Jvm.Cond.code ({ cls := "BlueBag", name := "restore", desc := "()Z" } : Jvm.MethodName) prog_1_method_39_code (1 : Nat) (Option.some Jvm.ClassFile.FieldType.boolean)) ∈ lw_tbl := tin_3 (List.mem_of_getElem? (i := 156) rfl)
set_option maxRecDepth 100000 in
theorem cw_746 : (Jvm.Cond.codeWith ({ cls := "BlueBagLaw", name := "coast", desc := "(LBlueBag;I[J)I" } : Jvm.MethodName) method_3_code (4 : Nat) (Option.some Jvm.ClassFile.FieldType.int) [((0 : Nat), (9 : Nat), (12 : Nat), (13 : Nat))]) ∈ lw_tbl := tin_3 (List.mem_of_getElem? (i := 159) rfl)
set_option maxRecDepth 100000 in
theorem cw_751 : (Jvm.Cond.code ({ cls := "BlueBag", name := "coast", desc := "(I)I" } : Jvm.MethodName) prog_1_method_3_code (3 : Nat) (Option.some Jvm.ClassFile.FieldType.int)) ∈ lw_tbl := tin_3 (List.mem_of_getElem? (i := 164) rfl)
set_option maxRecDepth 100000 in
theorem cw_776 : (Jvm.Cond.code ({ cls := "java/lang/Throwable", name := "<init>", desc := "()V" } : Jvm.MethodName) prog_28_method_1_code (1 : Nat) (Option.none : Option Jvm.ClassFile.FieldType)) ∈ lw_tbl := tin_3 (List.mem_of_getElem? (i := 189) rfl)
set_option maxRecDepth 100000 in
theorem cw_786 : (Jvm.Cond.codeSync ({ cls := "java/lang/Throwable", name := "fillInStackTrace", desc := "()Ljava/lang/Throwable;" } : Jvm.MethodName) prog_28_method_18_code (1 : Nat) (Option.some (Jvm.ClassFile.FieldType.object "java/lang/Throwable"))) ∈ lw_tbl := tin_3 (List.mem_of_getElem? (i := 199) rfl)
set_option maxRecDepth 100000 in
theorem cw_794 : (Jvm.Cond.code ({ cls := "java/lang/IllegalArgumentException", name := "<init>", desc := "()V" } : Jvm.MethodName) prog_19_method_1_code (1 : Nat) (Option.none : Option Jvm.ClassFile.FieldType)) ∈ lw_tbl := tin_3 (List.mem_of_getElem? (i := 207) rfl)
set_option maxRecDepth 100000 in
theorem cw_797 : (Jvm.Cond.code ({ cls := "java/lang/RuntimeException", name := "<init>", desc := "()V" } : Jvm.MethodName) prog_23_method_1_code (1 : Nat) (Option.none : Option Jvm.ClassFile.FieldType)) ∈ lw_tbl := tin_3 (List.mem_of_getElem? (i := 210) rfl)
set_option maxRecDepth 100000 in
theorem cw_800 : (Jvm.Cond.code ({ cls := "java/lang/Exception", name := "<init>", desc := "()V" } : Jvm.MethodName) prog_18_method_1_code (1 : Nat) (Option.none : Option Jvm.ClassFile.FieldType)) ∈ lw_tbl := tin_3 (List.mem_of_getElem? (i := 213) rfl)
set_option maxRecDepth 100000 in
theorem cw_817 : (Jvm.Cond.code ({ cls := "BlueBag$CoastReader", name := "read", desc := "(I)I" } : Jvm.MethodName) prog_4_method_2_code (4 : Nat) (Option.some Jvm.ClassFile.FieldType.int)) ∈ lw_tbl := tin_3 (List.mem_of_getElem? (i := 230) rfl)
set_option maxRecDepth 100000 in
theorem cw_823 : (Jvm.Cond.code ({ cls := "BlueBag$Tokens", name := "begin", desc := "(I)V" } : Jvm.MethodName) prog_12_method_2_code (2 : Nat) (Option.none : Option Jvm.ClassFile.FieldType)) ∈ lw_tbl := tin_3 (List.mem_of_getElem? (i := 236) rfl)
def nd_9 : List Cond := [(Jvm.Cond.methodLink "BlueBag$Sky" (132 : Nat) ({ cls := "BlueBag$Sky", name := "spotOf", desc := "(I)I" } : Jvm.MethodName)), (Jvm.Cond.instanceMethod ({ cls := "BlueBag$Sky", name := "spotOf", desc := "(I)I" } : Jvm.MethodName)), (Jvm.Cond.selects "BlueBag$Sky" ({ cls := "BlueBag$Sky", name := "spotOf", desc := "(I)I" } : Jvm.MethodName) ({ cls := "BlueBag$Sky", name := "spotOf", desc := "(I)I" } : Jvm.MethodName)), (Jvm.Cond.methodLink "BlueBag$Sky" (121 : Nat) ({ cls := "BlueBag$Sky", name := "setValues", desc := "(I)V" } : Jvm.MethodName)), (Jvm.Cond.instanceMethod ({ cls := "BlueBag$Sky", name := "setValues", desc := "(I)V" } : Jvm.MethodName)), (Jvm.Cond.methodLink "BlueBag$Sky" (144 : Nat) ({ cls := "BlueBag$Coast", name := "besideBits", desc := "(I)I" } : Jvm.MethodName)), (Jvm.Cond.instanceMethod ({ cls := "BlueBag$Coast", name := "besideBits", desc := "(I)I" } : Jvm.MethodName)), (Jvm.Cond.selects "BlueBag$Coast" ({ cls := "BlueBag$Coast", name := "besideBits", desc := "(I)I" } : Jvm.MethodName) ({ cls := "BlueBag$Coast", name := "besideBits", desc := "(I)I" } : Jvm.MethodName)), (Jvm.Cond.methodLink "BlueBag$Sky" (118 : Nat) ({ cls := "BlueBag$Sky", name := "blueOf", desc := "(I)I" } : Jvm.MethodName)), (Jvm.Cond.instanceMethod ({ cls := "BlueBag$Sky", name := "blueOf", desc := "(I)I" } : Jvm.MethodName)), (Jvm.Cond.selects "BlueBag$Sky" ({ cls := "BlueBag$Sky", name := "blueOf", desc := "(I)I" } : Jvm.MethodName) ({ cls := "BlueBag$Sky", name := "blueOf", desc := "(I)I" } : Jvm.MethodName)), (Jvm.Cond.methodLink "BlueBag$Sky" (160 : Nat) ({ cls := "BlueBag$Coast", name := "rowOf", desc := "(I)I" } : Jvm.MethodName)), (Jvm.Cond.instanceMethod ({ cls := "BlueBag$Coast", name := "rowOf", desc := "(I)I" } : Jvm.MethodName)), (Jvm.Cond.selects "BlueBag$Coast" ({ cls := "BlueBag$Coast", name := "rowOf", desc := "(I)I" } : Jvm.MethodName) ({ cls := "BlueBag$Coast", name := "rowOf", desc := "(I)I" } : Jvm.MethodName)), (Jvm.Cond.methodLink "BlueBag$Sky" (125 : Nat) ({ cls := "BlueBag$Rule", name := "worth", desc := "([I)I" } : Jvm.MethodName)), (Jvm.Cond.instanceMethod ({ cls := "BlueBag$Rule", name := "worth", desc := "([I)I" } : Jvm.MethodName)), (Jvm.Cond.selects "BlueBag$Rule" ({ cls := "BlueBag$Rule", name := "worth", desc := "([I)I" } : Jvm.MethodName) ({ cls := "BlueBag$Rule", name := "worth", desc := "([I)I" } : Jvm.MethodName)), (Jvm.Cond.methodLink "BlueBag$Rule" (32 : Nat) ({ cls := "BlueBag$Rule", name := "joined", desc := "(III)I" } : Jvm.MethodName)), (Jvm.Cond.static ({ cls := "BlueBag$Rule", name := "joined", desc := "(III)I" } : Jvm.MethodName)), (Jvm.Cond.methodLink "BlueBag$Sky" (64 : Nat) ({ cls := "java/lang/Math", name := "min", desc := "(II)I" } : Jvm.MethodName)), (Jvm.Cond.static ({ cls := "java/lang/Math", name := "min", desc := "(II)I" } : Jvm.MethodName)), (Jvm.Cond.methodLink "BlueBag$Sky" (92 : Nat) ({ cls := "java/lang/Math", name := "max", desc := "(II)I" } : Jvm.MethodName)), (Jvm.Cond.static ({ cls := "java/lang/Math", name := "max", desc := "(II)I" } : Jvm.MethodName)), (Jvm.Cond.methodLink "BlueBag$Sky" (135 : Nat) ({ cls := "BlueBag$Sky", name := "addBlue", desc := "(II)V" } : Jvm.MethodName)), (Jvm.Cond.instanceMethod ({ cls := "BlueBag$Sky", name := "addBlue", desc := "(II)V" } : Jvm.MethodName)), (Jvm.Cond.selects "BlueBag$Sky" ({ cls := "BlueBag$Sky", name := "addBlue", desc := "(II)V" } : Jvm.MethodName) ({ cls := "BlueBag$Sky", name := "addBlue", desc := "(II)V" } : Jvm.MethodName)), (Jvm.Cond.methodLink "BlueBag$Sky" (70 : Nat) ({ cls := "BlueBag$Sky", name := "isPegged", desc := "(I)Z" } : Jvm.MethodName)), (Jvm.Cond.instanceMethod ({ cls := "BlueBag$Sky", name := "isPegged", desc := "(I)Z" } : Jvm.MethodName)), (Jvm.Cond.selects "BlueBag$Sky" ({ cls := "BlueBag$Sky", name := "isPegged", desc := "(I)Z" } : Jvm.MethodName) ({ cls := "BlueBag$Sky", name := "isPegged", desc := "(I)Z" } : Jvm.MethodName)), (Jvm.Cond.methodLink "BlueBag$Sky" (138 : Nat) ({ cls := "BlueBag$Coast", name := "isOld", desc := "(I)Z" } : Jvm.MethodName)), (Jvm.Cond.instanceMethod ({ cls := "BlueBag$Coast", name := "isOld", desc := "(I)Z" } : Jvm.MethodName)), (Jvm.Cond.selects "BlueBag$Coast" ({ cls := "BlueBag$Coast", name := "isOld", desc := "(I)Z" } : Jvm.MethodName) ({ cls := "BlueBag$Coast", name := "isOld", desc := "(I)Z" } : Jvm.MethodName)), (Jvm.Cond.methodLink "BlueBag$Sky" (141 : Nat) ({ cls := "BlueBag$Sky", name := "drip", desc := "(II)V" } : Jvm.MethodName)), (Jvm.Cond.instanceMethod ({ cls := "BlueBag$Sky", name := "drip", desc := "(II)V" } : Jvm.MethodName)), (Jvm.Cond.methodLink "BlueBag$Sky" (147 : Nat) ({ cls := "BlueBag$Coast", name := "cells", desc := "()I" } : Jvm.MethodName)), (Jvm.Cond.methodLink "BlueBag$Sky" (151 : Nat) ({ cls := "BlueBag$Coast", name := "columnOf", desc := "(I)I" } : Jvm.MethodName)), (Jvm.Cond.methodLink "BlueBag$Sky" (86 : Nat) ({ cls := "BlueBag$Sky", name := "markOverdone", desc := "()V" } : Jvm.MethodName)), (Jvm.Cond.instanceMethod ({ cls := "BlueBag$Sky", name := "markOverdone", desc := "()V" } : Jvm.MethodName)), (Jvm.Cond.methodLink "BlueBag$Sky" (101 : Nat) ({ cls := "java/lang/Integer", name := "bitCount", desc := "(I)I" } : Jvm.MethodName)), (Jvm.Cond.static ({ cls := "java/lang/Integer", name := "bitCount", desc := "(I)I" } : Jvm.MethodName)), (Jvm.Cond.constant "java/lang/Integer" (265 : Nat) (1431655765 : Int32)), (Jvm.Cond.constant "java/lang/Integer" (266 : Nat) (858993459 : Int32)), (Jvm.Cond.constant "java/lang/Integer" (267 : Nat) (252645135 : Int32)), (Jvm.Cond.methodLink "BlueBag$Sky" (95 : Nat) ({ cls := "BlueBag$Sky", name := "fade", desc := "()V" } : Jvm.MethodName)), (Jvm.Cond.instanceMethod ({ cls := "BlueBag$Sky", name := "fade", desc := "()V" } : Jvm.MethodName)), (Jvm.Cond.methodLink "BlueBag$Sky" (107 : Nat) ({ cls := "BlueBag$Sky", name := "fadeOf", desc := "(I)I" } : Jvm.MethodName)), (Jvm.Cond.instanceMethod ({ cls := "BlueBag$Sky", name := "fadeOf", desc := "(I)I" } : Jvm.MethodName)), (Jvm.Cond.methodLink "BlueBagLaw" (140 : Nat) ({ cls := "BlueBag", name := "bag", desc := "(I)I" } : Jvm.MethodName)), (Jvm.Cond.instanceMethod ({ cls := "BlueBag", name := "bag", desc := "(I)I" } : Jvm.MethodName)), (Jvm.Cond.selects "BlueBag" ({ cls := "BlueBag", name := "bag", desc := "(I)I" } : Jvm.MethodName) ({ cls := "BlueBag", name := "bag", desc := "(I)I" } : Jvm.MethodName)), (Jvm.Cond.methodLink "BlueBag" (235 : Nat) ({ cls := "BlueBag$Sky", name := "addKnobs", desc := "(I)V" } : Jvm.MethodName)), (Jvm.Cond.instanceMethod ({ cls := "BlueBag$Sky", name := "addKnobs", desc := "(I)V" } : Jvm.MethodName)), (Jvm.Cond.selects "BlueBag$Sky" ({ cls := "BlueBag$Sky", name := "addKnobs", desc := "(I)V" } : Jvm.MethodName) ({ cls := "BlueBag$Sky", name := "addKnobs", desc := "(I)V" } : Jvm.MethodName)), (Jvm.Cond.methodLink "BlueBagLaw" (147 : Nat) ({ cls := "BlueBag", name := "undo", desc := "()I" } : Jvm.MethodName)), (Jvm.Cond.instanceMethod ({ cls := "BlueBag", name := "undo", desc := "()I" } : Jvm.MethodName)), (Jvm.Cond.selects "BlueBag" ({ cls := "BlueBag", name := "undo", desc := "()I" } : Jvm.MethodName) ({ cls := "BlueBag", name := "undo", desc := "()I" } : Jvm.MethodName)), (Jvm.Cond.methodLink "BlueBag" (244 : Nat) ({ cls := "BlueBag$Acts", name := "takeBack", desc := "(LBlueBag$Sky;)Z" } : Jvm.MethodName)), (Jvm.Cond.instanceMethod ({ cls := "BlueBag$Acts", name := "takeBack", desc := "(LBlueBag$Sky;)Z" } : Jvm.MethodName)), (Jvm.Cond.selects "BlueBag$Acts" ({ cls := "BlueBag$Acts", name := "takeBack", desc := "(LBlueBag$Sky;)Z" } : Jvm.MethodName) ({ cls := "BlueBag$Acts", name := "takeBack", desc := "(LBlueBag$Sky;)Z" } : Jvm.MethodName)), (Jvm.Cond.methodLink "BlueBag$Acts" (31 : Nat) ({ cls := "BlueBag$Sky", name := "load", desc := "([II)V" } : Jvm.MethodName))]
set_option maxRecDepth 100000 in
theorem sb_9 : isSub nd_9 ((tables_1_3).drop 1) = true := by decide +kernel
theorem im_9 {i : Nat} {w : Cond} (h : nd_9[i]? = some w) : w ∈ lw_tbl := tin_3 (List.mem_of_mem_drop (isSub_mem _ _ sb_9 w (List.mem_of_getElem? h)))
def nd_10 : List Cond := [(Jvm.Cond.instanceMethod ({ cls := "BlueBag$Sky", name := "load", desc := "([II)V" } : Jvm.MethodName)), (Jvm.Cond.selects "BlueBag$Sky" ({ cls := "BlueBag$Sky", name := "load", desc := "([II)V" } : Jvm.MethodName) ({ cls := "BlueBag$Sky", name := "load", desc := "([II)V" } : Jvm.MethodName)), (Jvm.Cond.methodLink "BlueBagLaw" (163 : Nat) ({ cls := "BlueBag", name := "spent", desc := "()I" } : Jvm.MethodName)), (Jvm.Cond.instanceMethod ({ cls := "BlueBag", name := "spent", desc := "()I" } : Jvm.MethodName)), (Jvm.Cond.selects "BlueBag" ({ cls := "BlueBag", name := "spent", desc := "()I" } : Jvm.MethodName) ({ cls := "BlueBag", name := "spent", desc := "()I" } : Jvm.MethodName)), (Jvm.Cond.methodLink "BlueBag" (252 : Nat) ({ cls := "BlueBag", name := "lookAhead", desc := "(I)V" } : Jvm.MethodName)), (Jvm.Cond.instanceMethod ({ cls := "BlueBag", name := "lookAhead", desc := "(I)V" } : Jvm.MethodName)), (Jvm.Cond.methodLink "BlueBag" (343 : Nat) ({ cls := "BlueBag$Sky", name := "copyFrom", desc := "(LBlueBag$Sky;)V" } : Jvm.MethodName)), (Jvm.Cond.instanceMethod ({ cls := "BlueBag$Sky", name := "copyFrom", desc := "(LBlueBag$Sky;)V" } : Jvm.MethodName)), (Jvm.Cond.selects "BlueBag$Sky" ({ cls := "BlueBag$Sky", name := "copyFrom", desc := "(LBlueBag$Sky;)V" } : Jvm.MethodName) ({ cls := "BlueBag$Sky", name := "copyFrom", desc := "(LBlueBag$Sky;)V" } : Jvm.MethodName)), (Jvm.Cond.methodLink "BlueBagLaw" (195 : Nat) ({ cls := "BlueBag", name := "steady", desc := "()I" } : Jvm.MethodName)), (Jvm.Cond.instanceMethod ({ cls := "BlueBag", name := "steady", desc := "()I" } : Jvm.MethodName)), (Jvm.Cond.selects "BlueBag" ({ cls := "BlueBag", name := "steady", desc := "()I" } : Jvm.MethodName) ({ cls := "BlueBag", name := "steady", desc := "()I" } : Jvm.MethodName)), (Jvm.Cond.methodLink "BlueBag" (276 : Nat) ({ cls := "BlueBag$Sky", name := "isAsInTheMorning", desc := "()Z" } : Jvm.MethodName)), (Jvm.Cond.instanceMethod ({ cls := "BlueBag$Sky", name := "isAsInTheMorning", desc := "()Z" } : Jvm.MethodName)), (Jvm.Cond.selects "BlueBag$Sky" ({ cls := "BlueBag$Sky", name := "isAsInTheMorning", desc := "()Z" } : Jvm.MethodName) ({ cls := "BlueBag$Sky", name := "isAsInTheMorning", desc := "()Z" } : Jvm.MethodName)), (Jvm.Cond.methodLink "BlueBagLaw" (179 : Nat) ({ cls := "BlueBag", name := "toRest", desc := "()I" } : Jvm.MethodName)), (Jvm.Cond.instanceMethod ({ cls := "BlueBag", name := "toRest", desc := "()I" } : Jvm.MethodName)), (Jvm.Cond.selects "BlueBag" ({ cls := "BlueBag", name := "toRest", desc := "()I" } : Jvm.MethodName) ({ cls := "BlueBag", name := "toRest", desc := "()I" } : Jvm.MethodName)), (Jvm.Cond.methodLink "BlueBag" (258 : Nat) ({ cls := "BlueBag$Sky", name := "uneven", desc := "()I" } : Jvm.MethodName)), (Jvm.Cond.instanceMethod ({ cls := "BlueBag$Sky", name := "uneven", desc := "()I" } : Jvm.MethodName)), (Jvm.Cond.selects "BlueBag$Sky" ({ cls := "BlueBag$Sky", name := "uneven", desc := "()I" } : Jvm.MethodName) ({ cls := "BlueBag$Sky", name := "uneven", desc := "()I" } : Jvm.MethodName)), (Jvm.Cond.methodLink "BlueBag$Sky" (163 : Nat) ({ cls := "BlueBag$Sky", name := "deepest", desc := "()I" } : Jvm.MethodName)), (Jvm.Cond.instanceMethod ({ cls := "BlueBag$Sky", name := "deepest", desc := "()I" } : Jvm.MethodName)), (Jvm.Cond.selects "BlueBag$Sky" ({ cls := "BlueBag$Sky", name := "deepest", desc := "()I" } : Jvm.MethodName) ({ cls := "BlueBag$Sky", name := "deepest", desc := "()I" } : Jvm.MethodName)), (Jvm.Cond.methodLink "BlueBag$Sky" (166 : Nat) ({ cls := "BlueBag$Sky", name := "palest", desc := "()I" } : Jvm.MethodName)), (Jvm.Cond.instanceMethod ({ cls := "BlueBag$Sky", name := "palest", desc := "()I" } : Jvm.MethodName)), (Jvm.Cond.selects "BlueBag$Sky" ({ cls := "BlueBag$Sky", name := "palest", desc := "()I" } : Jvm.MethodName) ({ cls := "BlueBag$Sky", name := "palest", desc := "()I" } : Jvm.MethodName)), (Jvm.Cond.methodLink "BlueBag" (224 : Nat) ({ cls := "BlueBag$Sky", name := "isResting", desc := "(I)Z" } : Jvm.MethodName)), (Jvm.Cond.methodLink "BlueBag" (290 : Nat) ({ cls := "BlueBag", name := "lookAheadIfResting", desc := "(IZ)V" } : Jvm.MethodName)), (Jvm.Cond.instanceMethod ({ cls := "BlueBag", name := "lookAheadIfResting", desc := "(IZ)V" } : Jvm.MethodName)), (Jvm.Cond.methodLink "BlueBag" (227 : Nat) ({ cls := "BlueBag$Sky", name := "setResting", desc := "(IZ)V" } : Jvm.MethodName)), (Jvm.Cond.instanceMethod ({ cls := "BlueBag$Sky", name := "setResting", desc := "(IZ)V" } : Jvm.MethodName)), (Jvm.Cond.selects "BlueBag$Sky" ({ cls := "BlueBag$Sky", name := "setResting", desc := "(IZ)V" } : Jvm.MethodName) ({ cls := "BlueBag$Sky", name := "setResting", desc := "(IZ)V" } : Jvm.MethodName)), (Jvm.Cond.methodLink "BlueBagLaw" (218 : Nat) ({ cls := "BlueBag", name := "forget", desc := "()V" } : Jvm.MethodName)), (Jvm.Cond.instanceMethod ({ cls := "BlueBag", name := "forget", desc := "()V" } : Jvm.MethodName)), (Jvm.Cond.selects "BlueBag" ({ cls := "BlueBag", name := "forget", desc := "()V" } : Jvm.MethodName) ({ cls := "BlueBag", name := "forget", desc := "()V" } : Jvm.MethodName)), (Jvm.Cond.methodLink "BlueBagLaw" (228 : Nat) ({ cls := "BlueBag", name := "image", desc := "()V" } : Jvm.MethodName)), (Jvm.Cond.instanceMethod ({ cls := "BlueBag", name := "image", desc := "()V" } : Jvm.MethodName)), (Jvm.Cond.selects "BlueBag" ({ cls := "BlueBag", name := "image", desc := "()V" } : Jvm.MethodName) ({ cls := "BlueBag", name := "image", desc := "()V" } : Jvm.MethodName)), (Jvm.Cond.methodLink "BlueBag" (340 : Nat) ({ cls := "BlueBag$Memory", name := "copyFrom", desc := "(LBlueBag$Memory;)V" } : Jvm.MethodName)), (Jvm.Cond.instanceMethod ({ cls := "BlueBag$Memory", name := "copyFrom", desc := "(LBlueBag$Memory;)V" } : Jvm.MethodName)), (Jvm.Cond.selects "BlueBag$Memory" ({ cls := "BlueBag$Memory", name := "copyFrom", desc := "(LBlueBag$Memory;)V" } : Jvm.MethodName) ({ cls := "BlueBag$Memory", name := "copyFrom", desc := "(LBlueBag$Memory;)V" } : Jvm.MethodName)), (Jvm.Cond.methodLink "BlueBag$Memory" (40 : Nat) ({ cls := "BlueBag$Sky", name := "copyFrom", desc := "(LBlueBag$Sky;)V" } : Jvm.MethodName)), (Jvm.Cond.methodLink "BlueBag$Memory" (51 : Nat) ({ cls := "BlueBag$Acts", name := "copyFrom", desc := "(LBlueBag$Acts;)V" } : Jvm.MethodName)), (Jvm.Cond.instanceMethod ({ cls := "BlueBag$Acts", name := "copyFrom", desc := "(LBlueBag$Acts;)V" } : Jvm.MethodName)), (Jvm.Cond.selects "BlueBag$Acts" ({ cls := "BlueBag$Acts", name := "copyFrom", desc := "(LBlueBag$Acts;)V" } : Jvm.MethodName) ({ cls := "BlueBag$Acts", name := "copyFrom", desc := "(LBlueBag$Acts;)V" } : Jvm.MethodName)), (Jvm.Cond.methodLink "BlueBag$Memory" (54 : Nat) ({ cls := "java/lang/System", name := "arraycopy", desc := "(Ljava/lang/Object;ILjava/lang/Object;II)V" } : Jvm.MethodName)), (Jvm.Cond.methodLink "BlueBagLaw" (232 : Nat) ({ cls := "BlueBag", name := "restore", desc := "()Z" } : Jvm.MethodName)), (Jvm.Cond.instanceMethod ({ cls := "BlueBag", name := "restore", desc := "()Z" } : Jvm.MethodName)), (Jvm.Cond.selects "BlueBag" ({ cls := "BlueBag", name := "restore", desc := "()Z" } : Jvm.MethodName) ({ cls := "BlueBag", name := "restore", desc := "()Z" } : Jvm.MethodName)), (Jvm.Cond.methodLink "BlueBagLaw" (108 : Nat) ({ cls := "BlueBagLaw", name := "coast", desc := "(LBlueBag;I[J)I" } : Jvm.MethodName)), (Jvm.Cond.static ({ cls := "BlueBagLaw", name := "coast", desc := "(LBlueBag;I[J)I" } : Jvm.MethodName)), (Jvm.Cond.classLink "BlueBagLaw" (13 : Nat) "java/lang/IllegalArgumentException"), (Jvm.Cond.methodLink "BlueBagLaw" (7 : Nat) ({ cls := "BlueBag", name := "coast", desc := "(I)I" } : Jvm.MethodName)), (Jvm.Cond.instanceMethod ({ cls := "BlueBag", name := "coast", desc := "(I)I" } : Jvm.MethodName)), (Jvm.Cond.selects "BlueBag" ({ cls := "BlueBag", name := "coast", desc := "(I)I" } : Jvm.MethodName) ({ cls := "BlueBag", name := "coast", desc := "(I)I" } : Jvm.MethodName)), (Jvm.Cond.classLink "BlueBag" (96 : Nat) "java/lang/IllegalArgumentException"), (Jvm.Cond.instantiable "java/lang/IllegalArgumentException" (6 : Nat)), (Jvm.Cond.castable "java/lang/IllegalArgumentException" "java/lang/IllegalArgumentException")]
set_option maxRecDepth 100000 in
theorem sb_10 : isSub nd_10 ((tables_1_3).drop 87) = true := by decide +kernel
theorem im_10 {i : Nat} {w : Cond} (h : nd_10[i]? = some w) : w ∈ lw_tbl := tin_3 (List.mem_of_mem_drop (isSub_mem _ _ sb_10 w (List.mem_of_getElem? h)))
def nd_11 : List Cond := [(Jvm.Cond.declares ({ cls := "java/lang/RuntimeException", name := "<init>", desc := "()V" } : Jvm.MethodName)), (Jvm.Cond.declares ({ cls := "java/lang/RuntimeException", name := "<init>", desc := "(Ljava/lang/String;)V" } : Jvm.MethodName)), (Jvm.Cond.declares ({ cls := "java/lang/Exception", name := "<init>", desc := "()V" } : Jvm.MethodName)), (Jvm.Cond.declares ({ cls := "java/lang/Exception", name := "<init>", desc := "(Ljava/lang/String;)V" } : Jvm.MethodName)), (Jvm.Cond.declares ({ cls := "java/lang/Throwable", name := "<init>", desc := "()V" } : Jvm.MethodName)), (Jvm.Cond.declares ({ cls := "java/lang/Throwable", name := "<init>", desc := "(Ljava/lang/String;)V" } : Jvm.MethodName)), (Jvm.Cond.selects "java/lang/IllegalArgumentException" ({ cls := "java/lang/Throwable", name := "fillInStackTrace", desc := "(I)Ljava/lang/Throwable;" } : Jvm.MethodName) ({ cls := "java/lang/Throwable", name := "fillInStackTrace", desc := "(I)Ljava/lang/Throwable;" } : Jvm.MethodName)), (Jvm.Cond.selects "java/lang/IllegalArgumentException" ({ cls := "java/lang/Throwable", name := "fillInStackTrace", desc := "()Ljava/lang/Throwable;" } : Jvm.MethodName) ({ cls := "java/lang/Throwable", name := "fillInStackTrace", desc := "()Ljava/lang/Throwable;" } : Jvm.MethodName)), (Jvm.Cond.lays "java/lang/IllegalArgumentException" "java/lang/Throwable" "cause" "Ljava/lang/Throwable;"), (Jvm.Cond.lays "java/lang/Throwable" "java/lang/Throwable" "cause" "Ljava/lang/Throwable;"), (Jvm.Cond.lays "java/lang/IllegalArgumentException" "java/lang/Throwable" "stackTrace" "[Ljava/lang/StackTraceElement;"), (Jvm.Cond.lays "java/lang/Throwable" "java/lang/Throwable" "stackTrace" "[Ljava/lang/StackTraceElement;"), (Jvm.Cond.lays "java/lang/IllegalArgumentException" "java/lang/Throwable" "suppressedExceptions" "Ljava/util/List;"), (Jvm.Cond.lays "java/lang/Throwable" "java/lang/Throwable" "suppressedExceptions" "Ljava/util/List;"), (Jvm.Cond.lays "java/lang/IllegalArgumentException" "java/lang/Throwable" "detailMessage" "Ljava/lang/String;"), (Jvm.Cond.lays "java/lang/Throwable" "java/lang/Throwable" "detailMessage" "Ljava/lang/String;"), (Jvm.Cond.lays "java/lang/IllegalArgumentException" "java/lang/Throwable" "backtrace" "Ljava/lang/Object;"), (Jvm.Cond.lays "java/lang/Throwable" "java/lang/Throwable" "backtrace" "Ljava/lang/Object;"), (Jvm.Cond.fieldLink "java/lang/Throwable" (198 : Nat) "java/lang/Throwable" "backtrace" "Ljava/lang/Object;"), (Jvm.Cond.superclass "java/lang/Throwable" "java/lang/Object"), (Jvm.Cond.instanceMethod ({ cls := "java/lang/Throwable", name := "<init>", desc := "()V" } : Jvm.MethodName)), (Jvm.Cond.methodLink "java/lang/Throwable" (1 : Nat) ({ cls := "java/lang/Object", name := "<init>", desc := "()V" } : Jvm.MethodName)), (Jvm.Cond.fieldLink "java/lang/Throwable" (13 : Nat) "java/lang/Throwable" "UNASSIGNED_STACK" "[Ljava/lang/StackTraceElement;"), (Jvm.Cond.laysStatic "java/lang/Throwable" "UNASSIGNED_STACK" "[Ljava/lang/StackTraceElement;"), (Jvm.Cond.fieldLink "java/lang/Throwable" (20 : Nat) "java/lang/Throwable" "SUPPRESSED_SENTINEL" "Ljava/util/List;"), (Jvm.Cond.laysStatic "java/lang/Throwable" "SUPPRESSED_SENTINEL" "Ljava/util/List;"), (Jvm.Cond.methodLink "java/lang/Throwable" (27 : Nat) ({ cls := "java/lang/Throwable", name := "fillInStackTrace", desc := "()Ljava/lang/Throwable;" } : Jvm.MethodName)), (Jvm.Cond.instanceMethod ({ cls := "java/lang/Throwable", name := "fillInStackTrace", desc := "()Ljava/lang/Throwable;" } : Jvm.MethodName)), (Jvm.Cond.sameMethod "java/lang/Throwable" "java/lang/Throwable" "fillInStackTrace" "()Ljava/lang/Throwable;"), (Jvm.Cond.selects "java/util/NoSuchElementException" ({ cls := "java/lang/Throwable", name := "fillInStackTrace", desc := "()Ljava/lang/Throwable;" } : Jvm.MethodName) ({ cls := "java/lang/Throwable", name := "fillInStackTrace", desc := "()Ljava/lang/Throwable;" } : Jvm.MethodName)), (Jvm.Cond.methodLink "java/lang/Throwable" (202 : Nat) ({ cls := "java/lang/Throwable", name := "fillInStackTrace", desc := "(I)Ljava/lang/Throwable;" } : Jvm.MethodName)), (Jvm.Cond.privateMethod ({ cls := "java/lang/Throwable", name := "fillInStackTrace", desc := "(I)Ljava/lang/Throwable;" } : Jvm.MethodName)), (Jvm.Cond.instanceMethod ({ cls := "java/lang/Throwable", name := "fillInStackTrace", desc := "(I)Ljava/lang/Throwable;" } : Jvm.MethodName)), (Jvm.Cond.instantiable "java/lang/Throwable" (6 : Nat)), (Jvm.Cond.native ({ cls := "java/lang/Throwable", name := "fillInStackTrace", desc := "(I)Ljava/lang/Throwable;" } : Jvm.MethodName)), (Jvm.Cond.methodLink "BlueBag" (98 : Nat) ({ cls := "java/lang/IllegalArgumentException", name := "<init>", desc := "()V" } : Jvm.MethodName)), (Jvm.Cond.instanceMethod ({ cls := "java/lang/IllegalArgumentException", name := "<init>", desc := "()V" } : Jvm.MethodName)), (Jvm.Cond.methodLink "java/lang/IllegalArgumentException" (1 : Nat) ({ cls := "java/lang/RuntimeException", name := "<init>", desc := "()V" } : Jvm.MethodName)), (Jvm.Cond.instanceMethod ({ cls := "java/lang/RuntimeException", name := "<init>", desc := "()V" } : Jvm.MethodName)), (Jvm.Cond.methodLink "java/lang/RuntimeException" (1 : Nat) ({ cls := "java/lang/Exception", name := "<init>", desc := "()V" } : Jvm.MethodName)), (Jvm.Cond.instanceMethod ({ cls := "java/lang/Exception", name := "<init>", desc := "()V" } : Jvm.MethodName)), (Jvm.Cond.methodLink "java/lang/Exception" (1 : Nat) ({ cls := "java/lang/Throwable", name := "<init>", desc := "()V" } : Jvm.MethodName)), (Jvm.Cond.fieldLink "java/lang/Throwable" (198 : Nat) "java/lang/Throwable" "backtrace" "Ljava/lang/Object;"), (Jvm.Cond.fieldLink "java/lang/Throwable" (7 : Nat) "java/lang/Throwable" "cause" "Ljava/lang/Throwable;"), (Jvm.Cond.fieldLink "java/lang/Throwable" (17 : Nat) "java/lang/Throwable" "stackTrace" "[Ljava/lang/StackTraceElement;"), (Jvm.Cond.fieldLink "java/lang/Throwable" (24 : Nat) "java/lang/Throwable" "suppressedExceptions" "Ljava/util/List;"), (Jvm.Cond.soleField "java/lang/Throwable" "backtrace"), (Jvm.Cond.soleField "java/lang/Throwable" "detailMessage"), (Jvm.Cond.soleField "java/lang/Throwable" "cause"), (Jvm.Cond.soleField "java/lang/Throwable" "stackTrace"), (Jvm.Cond.lays "java/lang/IllegalArgumentException" "java/lang/Throwable" "depth" "I"), (Jvm.Cond.soleField "java/lang/Throwable" "depth"), (Jvm.Cond.soleField "java/lang/Throwable" "suppressedExceptions"), (Jvm.Cond.superclass "java/lang/IllegalArgumentException" "java/lang/RuntimeException"), (Jvm.Cond.methodLink "BlueBag" (99 : Nat) ({ cls := "BlueBag$CoastReader", name := "read", desc := "(I)I" } : Jvm.MethodName)), (Jvm.Cond.instanceMethod ({ cls := "BlueBag$CoastReader", name := "read", desc := "(I)I" } : Jvm.MethodName)), (Jvm.Cond.selects "BlueBag$CoastReader" ({ cls := "BlueBag$CoastReader", name := "read", desc := "(I)I" } : Jvm.MethodName) ({ cls := "BlueBag$CoastReader", name := "read", desc := "(I)I" } : Jvm.MethodName)), (Jvm.Cond.methodLink "BlueBag$CoastReader" (49 : Nat) ({ cls := "BlueBag$Coast", name := "begin", desc := "()V" } : Jvm.MethodName)), (Jvm.Cond.methodLink "BlueBag$CoastReader" (52 : Nat) ({ cls := "BlueBag$Sky", name := "begin", desc := "()V" } : Jvm.MethodName)), (Jvm.Cond.methodLink "BlueBag$CoastReader" (64 : Nat) ({ cls := "BlueBag$Tokens", name := "begin", desc := "(I)V" } : Jvm.MethodName))]
set_option maxRecDepth 100000 in
theorem sb_11 : isSub nd_11 ((tables_1_3).drop 168) = true := by decide +kernel
theorem im_11 {i : Nat} {w : Cond} (h : nd_11[i]? = some w) : w ∈ lw_tbl := tin_3 (List.mem_of_mem_drop (isSub_mem _ _ sb_11 w (List.mem_of_getElem? h)))
def nd_12 : List Cond := [(Jvm.Cond.instanceMethod ({ cls := "BlueBag$Tokens", name := "begin", desc := "(I)V" } : Jvm.MethodName)), (Jvm.Cond.selects "BlueBag$Tokens" ({ cls := "BlueBag$Tokens", name := "begin", desc := "(I)V" } : Jvm.MethodName) ({ cls := "BlueBag$Tokens", name := "begin", desc := "(I)V" } : Jvm.MethodName)), (Jvm.Cond.methodLink "BlueBag$Tokens" (28 : Nat) ({ cls := "BlueBag$Tokens", name := "advance", desc := "()V" } : Jvm.MethodName)), (Jvm.Cond.instanceMethod ({ cls := "BlueBag$Tokens", name := "advance", desc := "()V" } : Jvm.MethodName)), (Jvm.Cond.selects "BlueBag$Tokens" ({ cls := "BlueBag$Tokens", name := "advance", desc := "()V" } : Jvm.MethodName) ({ cls := "BlueBag$Tokens", name := "advance", desc := "()V" } : Jvm.MethodName))]
set_option maxRecDepth 100000 in
theorem sb_12 : isSub nd_12 ((tables_1_3).drop 234) = true := by decide +kernel
theorem im_12 {i : Nat} {w : Cond} (h : nd_12[i]? = some w) : w ∈ lw_tbl := tin_3 (List.mem_of_mem_drop (isSub_mem _ _ sb_12 w (List.mem_of_getElem? h)))
set_option maxRecDepth 100000 in
theorem cw_827 : (Jvm.Cond.code ({ cls := "BlueBag$Tokens", name := "advance", desc := "()V" } : Jvm.MethodName) prog_12_method_3_code (1 : Nat) (Option.none : Option Jvm.ClassFile.FieldType)) ∈ lw_tbl := tin_4 (List.mem_of_getElem? (i := 0) rfl)
set_option maxRecDepth 100000 in
theorem cw_831 : (Jvm.Cond.code ({ cls := "BlueBag$Tape", name := "byteAt", desc := "(I)I" } : Jvm.MethodName) prog_11_method_4_code (2 : Nat) (Option.some Jvm.ClassFile.FieldType.int)) ∈ lw_tbl := tin_4 (List.mem_of_getElem? (i := 4) rfl)
set_option maxRecDepth 100000 in
theorem cw_834 : (Jvm.Cond.code ({ cls := "BlueBag$Tokens", name := "isBlank", desc := "(I)Z" } : Jvm.MethodName) prog_12_method_8_code (1 : Nat) (Option.some Jvm.ClassFile.FieldType.boolean)) ∈ lw_tbl := tin_4 (List.mem_of_getElem? (i := 7) rfl)
set_option maxRecDepth 100000 in
theorem cw_837 : (Jvm.Cond.code ({ cls := "BlueBag$Tokens", name := "isLetter", desc := "(I)Z" } : Jvm.MethodName) prog_12_method_9_code (1 : Nat) (Option.some Jvm.ClassFile.FieldType.boolean)) ∈ lw_tbl := tin_4 (List.mem_of_getElem? (i := 10) rfl)
set_option maxRecDepth 100000 in
theorem cw_840 : (Jvm.Cond.code ({ cls := "BlueBag$Tokens", name := "isDigit", desc := "(I)Z" } : Jvm.MethodName) prog_12_method_10_code (1 : Nat) (Option.some Jvm.ClassFile.FieldType.boolean)) ∈ lw_tbl := tin_4 (List.mem_of_getElem? (i := 13) rfl)
set_option maxRecDepth 100000 in
theorem cw_844 : (Jvm.Cond.code ({ cls := "BlueBag$CoastReader", name := "readLine", desc := "()Z" } : Jvm.MethodName) prog_4_method_4_code (1 : Nat) (Option.some Jvm.ClassFile.FieldType.boolean)) ∈ lw_tbl := tin_4 (List.mem_of_getElem? (i := 17) rfl)
set_option maxRecDepth 100000 in
theorem cw_849 : (Jvm.Cond.code ({ cls := "BlueBag$Tokens", name := "isWord", desc := "(Ljava/lang/String;)Z" } : Jvm.MethodName) prog_12_method_4_code (3 : Nat) (Option.some Jvm.ClassFile.FieldType.boolean)) ∈ lw_tbl := tin_4 (List.mem_of_getElem? (i := 22) rfl)
set_option maxRecDepth 100000 in
theorem cw_853 : (Jvm.Cond.code ({ cls := "java/lang/String", name := "length", desc := "()I" } : Jvm.MethodName) prog_24_method_54_code (1 : Nat) (Option.some Jvm.ClassFile.FieldType.int)) ∈ lw_tbl := tin_4 (List.mem_of_getElem? (i := 26) rfl)
set_option maxRecDepth 100000 in
theorem cw_857 : (Jvm.Cond.code ({ cls := "java/lang/String", name := "coder", desc := "()B" } : Jvm.MethodName) prog_24_method_152_code (1 : Nat) (Option.some Jvm.ClassFile.FieldType.byte)) ∈ lw_tbl := tin_4 (List.mem_of_getElem? (i := 30) rfl)
set_option maxRecDepth 100000 in
theorem cw_863 : (Jvm.Cond.code ({ cls := "java/lang/String", name := "charAt", desc := "(I)C" } : Jvm.MethodName) prog_24_method_56_code (2 : Nat) (Option.some Jvm.ClassFile.FieldType.char)) ∈ lw_tbl := tin_4 (List.mem_of_getElem? (i := 36) rfl)
set_option maxRecDepth 100000 in
theorem cw_867 : (Jvm.Cond.code ({ cls := "java/lang/String", name := "isLatin1", desc := "()Z" } : Jvm.MethodName) prog_24_method_154_code (1 : Nat) (Option.some Jvm.ClassFile.FieldType.boolean)) ∈ lw_tbl := tin_4 (List.mem_of_getElem? (i := 40) rfl)
set_option maxRecDepth 100000 in
theorem cw_870 : (Jvm.Cond.code ({ cls := "java/lang/StringLatin1", name := "charAt", desc := "([BI)C" } : Jvm.MethodName) prog_25_method_2_code (2 : Nat) (Option.some Jvm.ClassFile.FieldType.char)) ∈ lw_tbl := tin_4 (List.mem_of_getElem? (i := 43) rfl)
set_option maxRecDepth 100000 in
theorem cw_873 : (Jvm.Cond.code ({ cls := "java/lang/String", name := "checkIndex", desc := "(II)V" } : Jvm.MethodName) prog_24_method_155_code (2 : Nat) (Option.none : Option Jvm.ClassFile.FieldType)) ∈ lw_tbl := tin_4 (List.mem_of_getElem? (i := 46) rfl)
set_option maxRecDepth 100000 in
theorem cw_878 : (Jvm.Cond.code ({ cls := "jdk/internal/util/Preconditions", name := "checkIndex", desc := "(IILjava/util/function/BiFunction;)I" } : Jvm.MethodName) prog_32_method_11_code (3 : Nat) (Option.some Jvm.ClassFile.FieldType.int)) ∈ lw_tbl := tin_4 (List.mem_of_getElem? (i := 51) rfl)
set_option maxRecDepth 100000 in
theorem cw_901 : (Jvm.Cond.code ({ cls := "BlueBag$CoastReader", name := "readSky", desc := "()Z" } : Jvm.MethodName) prog_4_method_5_code (3 : Nat) (Option.some Jvm.ClassFile.FieldType.boolean)) ∈ lw_tbl := tin_4 (List.mem_of_getElem? (i := 74) rfl)
set_option maxRecDepth 100000 in
theorem cw_905 : (Jvm.Cond.code ({ cls := "BlueBag$Tokens", name := "refuse", desc := "(I)Z" } : Jvm.MethodName) prog_12_method_6_code (2 : Nat) (Option.some Jvm.ClassFile.FieldType.boolean)) ∈ lw_tbl := tin_4 (List.mem_of_getElem? (i := 78) rfl)
set_option maxRecDepth 100000 in
theorem cw_909 : (Jvm.Cond.code ({ cls := "BlueBag$CoastReader", name := "passesOnce", desc := "(I)Z" } : Jvm.MethodName) prog_4_method_13_code (2 : Nat) (Option.some Jvm.ClassFile.FieldType.boolean)) ∈ lw_tbl := tin_4 (List.mem_of_getElem? (i := 82) rfl)
set_option maxRecDepth 100000 in
theorem cw_914 : (Jvm.Cond.code ({ cls := "BlueBag$CoastReader", name := "readNumber", desc := "(II)I" } : Jvm.MethodName) prog_4_method_14_code (4 : Nat) (Option.some Jvm.ClassFile.FieldType.int)) ∈ lw_tbl := tin_4 (List.mem_of_getElem? (i := 87) rfl)
set_option maxRecDepth 100000 in
theorem cw_918 : (Jvm.Cond.code ({ cls := "BlueBag$CoastReader", name := "refuseNumber", desc := "(I)I" } : Jvm.MethodName) prog_4_method_16_code (2 : Nat) (Option.some Jvm.ClassFile.FieldType.int)) ∈ lw_tbl := tin_4 (List.mem_of_getElem? (i := 91) rfl)
set_option maxRecDepth 100000 in
theorem cw_922 : (Jvm.Cond.code ({ cls := "BlueBag$Tokens", name := "isTooLong", desc := "()Z" } : Jvm.MethodName) prog_12_method_5_code (1 : Nat) (Option.some Jvm.ClassFile.FieldType.boolean)) ∈ lw_tbl := tin_4 (List.mem_of_getElem? (i := 95) rfl)
set_option maxRecDepth 100000 in
theorem cw_927 : (Jvm.Cond.code ({ cls := "BlueBag$Tokens", name := "passes", desc := "(I)Z" } : Jvm.MethodName) prog_12_method_7_code (2 : Nat) (Option.some Jvm.ClassFile.FieldType.boolean)) ∈ lw_tbl := tin_4 (List.mem_of_getElem? (i := 100) rfl)
set_option maxRecDepth 100000 in
theorem cw_933 : (Jvm.Cond.code ({ cls := "BlueBag$CoastReader", name := "readBlue", desc := "()Z" } : Jvm.MethodName) prog_4_method_6_code (3 : Nat) (Option.some Jvm.ClassFile.FieldType.boolean)) ∈ lw_tbl := tin_4 (List.mem_of_getElem? (i := 106) rfl)
set_option maxRecDepth 100000 in
theorem cw_937 : (Jvm.Cond.code ({ cls := "BlueBag$CoastReader", name := "readCell", desc := "(I)I" } : Jvm.MethodName) prog_4_method_15_code (3 : Nat) (Option.some Jvm.ClassFile.FieldType.int)) ∈ lw_tbl := tin_4 (List.mem_of_getElem? (i := 110) rfl)
set_option maxRecDepth 100000 in
theorem cw_944 : (Jvm.Cond.code ({ cls := "BlueBag$CoastReader", name := "readGirl", desc := "(Z)Z" } : Jvm.MethodName) prog_4_method_7_code (5 : Nat) (Option.some Jvm.ClassFile.FieldType.boolean)) ∈ lw_tbl := tin_4 (List.mem_of_getElem? (i := 117) rfl)
set_option maxRecDepth 100000 in
theorem cw_948 : (Jvm.Cond.code ({ cls := "BlueBag$Sky", name := "setSkill", desc := "(II)V" } : Jvm.MethodName) prog_10_method_12_code (3 : Nat) (Option.none : Option Jvm.ClassFile.FieldType)) ∈ lw_tbl := tin_4 (List.mem_of_getElem? (i := 121) rfl)
set_option maxRecDepth 100000 in
theorem cw_952 : (Jvm.Cond.code ({ cls := "BlueBag$Sky", name := "setSpot", desc := "(II)V" } : Jvm.MethodName) prog_10_method_11_code (3 : Nat) (Option.none : Option Jvm.ClassFile.FieldType)) ∈ lw_tbl := tin_4 (List.mem_of_getElem? (i := 125) rfl)
set_option maxRecDepth 100000 in
theorem cw_958 : (Jvm.Cond.code ({ cls := "BlueBag$CoastReader", name := "readPegs", desc := "()Z" } : Jvm.MethodName) prog_4_method_8_code (3 : Nat) (Option.some Jvm.ClassFile.FieldType.boolean)) ∈ lw_tbl := tin_4 (List.mem_of_getElem? (i := 131) rfl)
set_option maxRecDepth 100000 in
theorem cw_962 : (Jvm.Cond.code ({ cls := "BlueBag$Sky", name := "setPeg", desc := "(IZ)V" } : Jvm.MethodName) prog_10_method_14_code (3 : Nat) (Option.none : Option Jvm.ClassFile.FieldType)) ∈ lw_tbl := tin_4 (List.mem_of_getElem? (i := 135) rfl)
set_option maxRecDepth 100000 in
theorem cw_967 : (Jvm.Cond.code ({ cls := "BlueBag$CoastReader", name := "readKnobs", desc := "()Z" } : Jvm.MethodName) prog_4_method_9_code (2 : Nat) (Option.some Jvm.ClassFile.FieldType.boolean)) ∈ lw_tbl := tin_4 (List.mem_of_getElem? (i := 140) rfl)
set_option maxRecDepth 100000 in
theorem cw_972 : (Jvm.Cond.code ({ cls := "BlueBag$CoastReader", name := "readRinse", desc := "()Z" } : Jvm.MethodName) prog_4_method_10_code (2 : Nat) (Option.some Jvm.ClassFile.FieldType.boolean)) ∈ lw_tbl := tin_4 (List.mem_of_getElem? (i := 145) rfl)
set_option maxRecDepth 100000 in
theorem cw_977 : (Jvm.Cond.code ({ cls := "BlueBag$CoastReader", name := "readBound", desc := "()Z" } : Jvm.MethodName) prog_4_method_11_code (2 : Nat) (Option.some Jvm.ClassFile.FieldType.boolean)) ∈ lw_tbl := tin_4 (List.mem_of_getElem? (i := 150) rfl)
set_option maxRecDepth 100000 in
theorem cw_982 : (Jvm.Cond.code ({ cls := "BlueBag$CoastReader", name := "readRule", desc := "(ILBlueBag$Rule;)Z" } : Jvm.MethodName) prog_4_method_12_code (3 : Nat) (Option.some Jvm.ClassFile.FieldType.boolean)) ∈ lw_tbl := tin_4 (List.mem_of_getElem? (i := 155) rfl)
set_option maxRecDepth 100000 in
theorem cw_986 : (Jvm.Cond.code ({ cls := "BlueBag$RuleReader", name := "begin", desc := "(LBlueBag$Rule;Z)V" } : Jvm.MethodName) prog_8_method_2_code (3 : Nat) (Option.none : Option Jvm.ClassFile.FieldType)) ∈ lw_tbl := tin_4 (List.mem_of_getElem? (i := 159) rfl)
set_option maxRecDepth 100000 in
theorem cw_991 : (Jvm.Cond.code ({ cls := "BlueBag$RuleReader", name := "readExpr", desc := "(I)Z" } : Jvm.MethodName) prog_8_method_3_code (4 : Nat) (Option.some Jvm.ClassFile.FieldType.boolean)) ∈ lw_tbl := tin_4 (List.mem_of_getElem? (i := 164) rfl)
set_option maxRecDepth 100000 in
theorem cw_996 : (Jvm.Cond.code ({ cls := "BlueBag$RuleReader", name := "readAnd", desc := "(I)Z" } : Jvm.MethodName) prog_8_method_4_code (3 : Nat) (Option.some Jvm.ClassFile.FieldType.boolean)) ∈ lw_tbl := tin_4 (List.mem_of_getElem? (i := 169) rfl)
set_option maxRecDepth 100000 in
theorem cw_1000 : (Jvm.Cond.code ({ cls := "BlueBag$RuleReader", name := "readNot", desc := "(I)Z" } : Jvm.MethodName) prog_8_method_5_code (4 : Nat) (Option.some Jvm.ClassFile.FieldType.boolean)) ∈ lw_tbl := tin_4 (List.mem_of_getElem? (i := 173) rfl)
set_option maxRecDepth 100000 in
theorem cw_1007 : (Jvm.Cond.code ({ cls := "BlueBag$RuleReader", name := "readTest", desc := "(I)Z" } : Jvm.MethodName) prog_8_method_6_code (3 : Nat) (Option.some Jvm.ClassFile.FieldType.boolean)) ∈ lw_tbl := tin_4 (List.mem_of_getElem? (i := 180) rfl)
set_option maxRecDepth 100000 in
theorem cw_1011 : (Jvm.Cond.code ({ cls := "BlueBag$RuleReader", name := "readSum", desc := "(I)Z" } : Jvm.MethodName) prog_8_method_7_code (4 : Nat) (Option.some Jvm.ClassFile.FieldType.boolean)) ∈ lw_tbl := tin_4 (List.mem_of_getElem? (i := 184) rfl)
set_option maxRecDepth 100000 in
theorem cw_1015 : (Jvm.Cond.code ({ cls := "BlueBag$RuleReader", name := "readProduct", desc := "(I)Z" } : Jvm.MethodName) prog_8_method_8_code (4 : Nat) (Option.some Jvm.ClassFile.FieldType.boolean)) ∈ lw_tbl := tin_4 (List.mem_of_getElem? (i := 188) rfl)
set_option maxRecDepth 100000 in
theorem cw_1019 : (Jvm.Cond.code ({ cls := "BlueBag$RuleReader", name := "readPart", desc := "(I)Z" } : Jvm.MethodName) prog_8_method_9_code (3 : Nat) (Option.some Jvm.ClassFile.FieldType.boolean)) ∈ lw_tbl := tin_4 (List.mem_of_getElem? (i := 192) rfl)
set_option maxRecDepth 100000 in
theorem cw_1024 : (Jvm.Cond.code ({ cls := "BlueBag$Rule", name := "put", desc := "(I)V" } : Jvm.MethodName) prog_7_method_4_code (2 : Nat) (Option.none : Option Jvm.ClassFile.FieldType)) ∈ lw_tbl := tin_4 (List.mem_of_getElem? (i := 197) rfl)
set_option maxRecDepth 100000 in
theorem cw_1028 : (Jvm.Cond.code ({ cls := "BlueBag$RuleReader", name := "valueHere", desc := "()I" } : Jvm.MethodName) prog_8_method_10_code (1 : Nat) (Option.some Jvm.ClassFile.FieldType.int)) ∈ lw_tbl := tin_4 (List.mem_of_getElem? (i := 201) rfl)
set_option maxRecDepth 100000 in
theorem cw_1038 : (Jvm.Cond.code ({ cls := "BlueBag$Rule", name := "putValue", desc := "(I)V" } : Jvm.MethodName) prog_7_method_5_code (2 : Nat) (Option.none : Option Jvm.ClassFile.FieldType)) ∈ lw_tbl := tin_4 (List.mem_of_getElem? (i := 211) rfl)
set_option maxRecDepth 100000 in
theorem cw_1048 : (Jvm.Cond.code ({ cls := "BlueBag$Tape", name := "clear", desc := "()V" } : Jvm.MethodName) prog_11_method_5_code (1 : Nat) (Option.none : Option Jvm.ClassFile.FieldType)) ∈ lw_tbl := tin_4 (List.mem_of_getElem? (i := 221) rfl)
set_option maxRecDepth 100000 in
theorem cw_1052 : (Jvm.Cond.code ({ cls := "BlueBag$CoastReader", name := "faultPlace", desc := "()I" } : Jvm.MethodName) prog_4_method_3_code (1 : Nat) (Option.some Jvm.ClassFile.FieldType.int)) ∈ lw_tbl := tin_4 (List.mem_of_getElem? (i := 225) rfl)
set_option maxRecDepth 100000 in
theorem cw_1056 : (Jvm.Cond.code ({ cls := "BlueBag$Coast", name := "copyFrom", desc := "(LBlueBag$Coast;)V" } : Jvm.MethodName) prog_3_method_5_code (2 : Nat) (Option.none : Option Jvm.ClassFile.FieldType)) ∈ lw_tbl := tin_4 (List.mem_of_getElem? (i := 229) rfl)
set_option maxRecDepth 100000 in
theorem cw_1060 : (Jvm.Cond.code ({ cls := "BlueBag$Rule", name := "copyFrom", desc := "(LBlueBag$Rule;)V" } : Jvm.MethodName) prog_7_method_6_code (2 : Nat) (Option.none : Option Jvm.ClassFile.FieldType)) ∈ lw_tbl := tin_4 (List.mem_of_getElem? (i := 233) rfl)
set_option maxRecDepth 100000 in
theorem cw_1065 : (Jvm.Cond.code ({ cls := "BlueBag$Memory", name := "begin", desc := "(LBlueBag$Sky;)V" } : Jvm.MethodName) prog_6_method_2_code (2 : Nat) (Option.none : Option Jvm.ClassFile.FieldType)) ∈ lw_tbl := tin_4 (List.mem_of_getElem? (i := 238) rfl)
def nd_13 : List Cond := [(Jvm.Cond.methodLink "BlueBag$Tokens" (34 : Nat) ({ cls := "BlueBag$Tape", name := "byteAt", desc := "(I)I" } : Jvm.MethodName)), (Jvm.Cond.instanceMethod ({ cls := "BlueBag$Tape", name := "byteAt", desc := "(I)I" } : Jvm.MethodName)), (Jvm.Cond.selects "BlueBag$Tape" ({ cls := "BlueBag$Tape", name := "byteAt", desc := "(I)I" } : Jvm.MethodName) ({ cls := "BlueBag$Tape", name := "byteAt", desc := "(I)I" } : Jvm.MethodName)), (Jvm.Cond.methodLink "BlueBag$Tokens" (40 : Nat) ({ cls := "BlueBag$Tokens", name := "isBlank", desc := "(I)Z" } : Jvm.MethodName)), (Jvm.Cond.static ({ cls := "BlueBag$Tokens", name := "isBlank", desc := "(I)Z" } : Jvm.MethodName)), (Jvm.Cond.methodLink "BlueBag$Tokens" (50 : Nat) ({ cls := "BlueBag$Tokens", name := "isLetter", desc := "(I)Z" } : Jvm.MethodName)), (Jvm.Cond.static ({ cls := "BlueBag$Tokens", name := "isLetter", desc := "(I)Z" } : Jvm.MethodName)), (Jvm.Cond.methodLink "BlueBag$Tokens" (53 : Nat) ({ cls := "BlueBag$Tokens", name := "isDigit", desc := "(I)Z" } : Jvm.MethodName)), (Jvm.Cond.static ({ cls := "BlueBag$Tokens", name := "isDigit", desc := "(I)Z" } : Jvm.MethodName)), (Jvm.Cond.methodLink "BlueBag$CoastReader" (70 : Nat) ({ cls := "BlueBag$CoastReader", name := "readLine", desc := "()Z" } : Jvm.MethodName)), (Jvm.Cond.instanceMethod ({ cls := "BlueBag$CoastReader", name := "readLine", desc := "()Z" } : Jvm.MethodName)), (Jvm.Cond.methodLink "BlueBag$CoastReader" (82 : Nat) ({ cls := "BlueBag$Tokens", name := "isWord", desc := "(Ljava/lang/String;)Z" } : Jvm.MethodName)), (Jvm.Cond.instanceMethod ({ cls := "BlueBag$Tokens", name := "isWord", desc := "(Ljava/lang/String;)Z" } : Jvm.MethodName)), (Jvm.Cond.selects "BlueBag$Tokens" ({ cls := "BlueBag$Tokens", name := "isWord", desc := "(Ljava/lang/String;)Z" } : Jvm.MethodName) ({ cls := "BlueBag$Tokens", name := "isWord", desc := "(Ljava/lang/String;)Z" } : Jvm.MethodName)), (Jvm.Cond.methodLink "BlueBag$Tokens" (56 : Nat) ({ cls := "java/lang/String", name := "length", desc := "()I" } : Jvm.MethodName)), (Jvm.Cond.instanceMethod ({ cls := "java/lang/String", name := "length", desc := "()I" } : Jvm.MethodName)), (Jvm.Cond.selects "java/lang/String" ({ cls := "java/lang/String", name := "length", desc := "()I" } : Jvm.MethodName) ({ cls := "java/lang/String", name := "length", desc := "()I" } : Jvm.MethodName)), (Jvm.Cond.methodLink "java/lang/String" (335 : Nat) ({ cls := "java/lang/String", name := "coder", desc := "()B" } : Jvm.MethodName)), (Jvm.Cond.instanceMethod ({ cls := "java/lang/String", name := "coder", desc := "()B" } : Jvm.MethodName)), (Jvm.Cond.selects "java/lang/String" ({ cls := "java/lang/String", name := "coder", desc := "()B" } : Jvm.MethodName) ({ cls := "java/lang/String", name := "coder", desc := "()B" } : Jvm.MethodName)), (Jvm.Cond.fieldLink "java/lang/String" (38 : Nat) "java/lang/String" "COMPACT_STRINGS" "Z"), (Jvm.Cond.methodLink "BlueBag$Tokens" (62 : Nat) ({ cls := "java/lang/String", name := "charAt", desc := "(I)C" } : Jvm.MethodName)), (Jvm.Cond.instanceMethod ({ cls := "java/lang/String", name := "charAt", desc := "(I)C" } : Jvm.MethodName)), (Jvm.Cond.selects "java/lang/String" ({ cls := "java/lang/String", name := "charAt", desc := "(I)C" } : Jvm.MethodName) ({ cls := "java/lang/String", name := "charAt", desc := "(I)C" } : Jvm.MethodName)), (Jvm.Cond.methodLink "java/lang/String" (492 : Nat) ({ cls := "java/lang/String", name := "isLatin1", desc := "()Z" } : Jvm.MethodName)), (Jvm.Cond.instanceMethod ({ cls := "java/lang/String", name := "isLatin1", desc := "()Z" } : Jvm.MethodName)), (Jvm.Cond.selects "java/lang/String" ({ cls := "java/lang/String", name := "isLatin1", desc := "()Z" } : Jvm.MethodName) ({ cls := "java/lang/String", name := "isLatin1", desc := "()Z" } : Jvm.MethodName)), (Jvm.Cond.methodLink "java/lang/String" (495 : Nat) ({ cls := "java/lang/StringLatin1", name := "charAt", desc := "([BI)C" } : Jvm.MethodName)), (Jvm.Cond.static ({ cls := "java/lang/StringLatin1", name := "charAt", desc := "([BI)C" } : Jvm.MethodName)), (Jvm.Cond.methodLink "java/lang/StringLatin1" (9 : Nat) ({ cls := "java/lang/String", name := "checkIndex", desc := "(II)V" } : Jvm.MethodName)), (Jvm.Cond.static ({ cls := "java/lang/String", name := "checkIndex", desc := "(II)V" } : Jvm.MethodName)), (Jvm.Cond.fieldLink "java/lang/String" (1053 : Nat) "jdk/internal/util/Preconditions" "SIOOBE_FORMATTER" "Ljava/util/function/BiFunction;"), (Jvm.Cond.methodLink "java/lang/String" (1059 : Nat) ({ cls := "jdk/internal/util/Preconditions", name := "checkIndex", desc := "(IILjava/util/function/BiFunction;)I" } : Jvm.MethodName)), (Jvm.Cond.static ({ cls := "jdk/internal/util/Preconditions", name := "checkIndex", desc := "(IILjava/util/function/BiFunction;)I" } : Jvm.MethodName)), (Jvm.Cond.methodLink "BlueBag$CoastReader" (86 : Nat) ({ cls := "BlueBag$CoastReader", name := "readSky", desc := "()Z" } : Jvm.MethodName)), (Jvm.Cond.instanceMethod ({ cls := "BlueBag$CoastReader", name := "readSky", desc := "()Z" } : Jvm.MethodName)), (Jvm.Cond.methodLink "BlueBag$CoastReader" (131 : Nat) ({ cls := "BlueBag$Tokens", name := "refuse", desc := "(I)Z" } : Jvm.MethodName)), (Jvm.Cond.instanceMethod ({ cls := "BlueBag$Tokens", name := "refuse", desc := "(I)Z" } : Jvm.MethodName)), (Jvm.Cond.selects "BlueBag$Tokens" ({ cls := "BlueBag$Tokens", name := "refuse", desc := "(I)Z" } : Jvm.MethodName) ({ cls := "BlueBag$Tokens", name := "refuse", desc := "(I)Z" } : Jvm.MethodName)), (Jvm.Cond.methodLink "BlueBag$CoastReader" (135 : Nat) ({ cls := "BlueBag$CoastReader", name := "passesOnce", desc := "(I)Z" } : Jvm.MethodName)), (Jvm.Cond.instanceMethod ({ cls := "BlueBag$CoastReader", name := "passesOnce", desc := "(I)Z" } : Jvm.MethodName)), (Jvm.Cond.methodLink "BlueBag$CoastReader" (149 : Nat) ({ cls := "BlueBag$Tokens", name := "advance", desc := "()V" } : Jvm.MethodName)), (Jvm.Cond.methodLink "BlueBag$CoastReader" (138 : Nat) ({ cls := "BlueBag$CoastReader", name := "readNumber", desc := "(II)I" } : Jvm.MethodName)), (Jvm.Cond.instanceMethod ({ cls := "BlueBag$CoastReader", name := "readNumber", desc := "(II)I" } : Jvm.MethodName)), (Jvm.Cond.methodLink "BlueBag$CoastReader" (190 : Nat) ({ cls := "BlueBag$CoastReader", name := "refuseNumber", desc := "(I)I" } : Jvm.MethodName)), (Jvm.Cond.instanceMethod ({ cls := "BlueBag$CoastReader", name := "refuseNumber", desc := "(I)I" } : Jvm.MethodName)), (Jvm.Cond.methodLink "BlueBag$CoastReader" (196 : Nat) ({ cls := "BlueBag$Tokens", name := "isTooLong", desc := "()Z" } : Jvm.MethodName)), (Jvm.Cond.instanceMethod ({ cls := "BlueBag$Tokens", name := "isTooLong", desc := "()Z" } : Jvm.MethodName)), (Jvm.Cond.selects "BlueBag$Tokens" ({ cls := "BlueBag$Tokens", name := "isTooLong", desc := "()Z" } : Jvm.MethodName) ({ cls := "BlueBag$Tokens", name := "isTooLong", desc := "()Z" } : Jvm.MethodName)), (Jvm.Cond.methodLink "BlueBag$CoastReader" (142 : Nat) ({ cls := "BlueBag$Coast", name := "shape", desc := "(II)V" } : Jvm.MethodName)), (Jvm.Cond.methodLink "BlueBag$CoastReader" (146 : Nat) ({ cls := "BlueBag$Tokens", name := "passes", desc := "(I)Z" } : Jvm.MethodName)), (Jvm.Cond.instanceMethod ({ cls := "BlueBag$Tokens", name := "passes", desc := "(I)Z" } : Jvm.MethodName)), (Jvm.Cond.selects "BlueBag$Tokens" ({ cls := "BlueBag$Tokens", name := "passes", desc := "(I)Z" } : Jvm.MethodName) ({ cls := "BlueBag$Tokens", name := "passes", desc := "(I)Z" } : Jvm.MethodName)), (Jvm.Cond.methodLink "BlueBag$Tokens" (66 : Nat) ({ cls := "BlueBag$Tokens", name := "refuse", desc := "(I)Z" } : Jvm.MethodName)), (Jvm.Cond.methodLink "BlueBag$CoastReader" (91 : Nat) ({ cls := "BlueBag$CoastReader", name := "readBlue", desc := "()Z" } : Jvm.MethodName)), (Jvm.Cond.instanceMethod ({ cls := "BlueBag$CoastReader", name := "readBlue", desc := "()Z" } : Jvm.MethodName)), (Jvm.Cond.methodLink "BlueBag$CoastReader" (152 : Nat) ({ cls := "BlueBag$CoastReader", name := "readCell", desc := "(I)I" } : Jvm.MethodName)), (Jvm.Cond.instanceMethod ({ cls := "BlueBag$CoastReader", name := "readCell", desc := "(I)I" } : Jvm.MethodName)), (Jvm.Cond.methodLink "BlueBag$CoastReader" (199 : Nat) ({ cls := "BlueBag$Coast", name := "cells", desc := "()I" } : Jvm.MethodName)), (Jvm.Cond.methodLink "BlueBag$CoastReader" (156 : Nat) ({ cls := "BlueBag$Sky", name := "addBlue", desc := "(II)V" } : Jvm.MethodName))]
set_option maxRecDepth 100000 in
theorem sb_13 : isSub nd_13 ((tables_1_4).drop 1) = true := by decide +kernel
theorem im_13 {i : Nat} {w : Cond} (h : nd_13[i]? = some w) : w ∈ lw_tbl := tin_4 (List.mem_of_mem_drop (isSub_mem _ _ sb_13 w (List.mem_of_getElem? h)))
def nd_14 : List Cond := [(Jvm.Cond.methodLink "BlueBag$CoastReader" (96 : Nat) ({ cls := "BlueBag$CoastReader", name := "readGirl", desc := "(Z)Z" } : Jvm.MethodName)), (Jvm.Cond.instanceMethod ({ cls := "BlueBag$CoastReader", name := "readGirl", desc := "(Z)Z" } : Jvm.MethodName)), (Jvm.Cond.methodLink "BlueBag$CoastReader" (165 : Nat) ({ cls := "BlueBag$Sky", name := "setSkill", desc := "(II)V" } : Jvm.MethodName)), (Jvm.Cond.instanceMethod ({ cls := "BlueBag$Sky", name := "setSkill", desc := "(II)V" } : Jvm.MethodName)), (Jvm.Cond.selects "BlueBag$Sky" ({ cls := "BlueBag$Sky", name := "setSkill", desc := "(II)V" } : Jvm.MethodName) ({ cls := "BlueBag$Sky", name := "setSkill", desc := "(II)V" } : Jvm.MethodName)), (Jvm.Cond.methodLink "BlueBag$CoastReader" (168 : Nat) ({ cls := "BlueBag$Sky", name := "setSpot", desc := "(II)V" } : Jvm.MethodName)), (Jvm.Cond.instanceMethod ({ cls := "BlueBag$Sky", name := "setSpot", desc := "(II)V" } : Jvm.MethodName)), (Jvm.Cond.selects "BlueBag$Sky" ({ cls := "BlueBag$Sky", name := "setSpot", desc := "(II)V" } : Jvm.MethodName) ({ cls := "BlueBag$Sky", name := "setSpot", desc := "(II)V" } : Jvm.MethodName)), (Jvm.Cond.methodLink "BlueBag$CoastReader" (104 : Nat) ({ cls := "BlueBag$CoastReader", name := "readPegs", desc := "()Z" } : Jvm.MethodName)), (Jvm.Cond.instanceMethod ({ cls := "BlueBag$CoastReader", name := "readPegs", desc := "()Z" } : Jvm.MethodName)), (Jvm.Cond.methodLink "BlueBag$CoastReader" (174 : Nat) ({ cls := "BlueBag$Sky", name := "setPeg", desc := "(IZ)V" } : Jvm.MethodName)), (Jvm.Cond.instanceMethod ({ cls := "BlueBag$Sky", name := "setPeg", desc := "(IZ)V" } : Jvm.MethodName)), (Jvm.Cond.selects "BlueBag$Sky" ({ cls := "BlueBag$Sky", name := "setPeg", desc := "(IZ)V" } : Jvm.MethodName) ({ cls := "BlueBag$Sky", name := "setPeg", desc := "(IZ)V" } : Jvm.MethodName)), (Jvm.Cond.methodLink "BlueBag$CoastReader" (109 : Nat) ({ cls := "BlueBag$CoastReader", name := "readKnobs", desc := "()Z" } : Jvm.MethodName)), (Jvm.Cond.instanceMethod ({ cls := "BlueBag$CoastReader", name := "readKnobs", desc := "()Z" } : Jvm.MethodName)), (Jvm.Cond.methodLink "BlueBag$CoastReader" (114 : Nat) ({ cls := "BlueBag$CoastReader", name := "readRinse", desc := "()Z" } : Jvm.MethodName)), (Jvm.Cond.instanceMethod ({ cls := "BlueBag$CoastReader", name := "readRinse", desc := "()Z" } : Jvm.MethodName)), (Jvm.Cond.methodLink "BlueBag$CoastReader" (119 : Nat) ({ cls := "BlueBag$CoastReader", name := "readBound", desc := "()Z" } : Jvm.MethodName)), (Jvm.Cond.instanceMethod ({ cls := "BlueBag$CoastReader", name := "readBound", desc := "()Z" } : Jvm.MethodName)), (Jvm.Cond.methodLink "BlueBag$CoastReader" (123 : Nat) ({ cls := "BlueBag$CoastReader", name := "readRule", desc := "(ILBlueBag$Rule;)Z" } : Jvm.MethodName)), (Jvm.Cond.instanceMethod ({ cls := "BlueBag$CoastReader", name := "readRule", desc := "(ILBlueBag$Rule;)Z" } : Jvm.MethodName)), (Jvm.Cond.methodLink "BlueBag$CoastReader" (184 : Nat) ({ cls := "BlueBag$RuleReader", name := "begin", desc := "(LBlueBag$Rule;Z)V" } : Jvm.MethodName)), (Jvm.Cond.instanceMethod ({ cls := "BlueBag$RuleReader", name := "begin", desc := "(LBlueBag$Rule;Z)V" } : Jvm.MethodName)), (Jvm.Cond.selects "BlueBag$RuleReader" ({ cls := "BlueBag$RuleReader", name := "begin", desc := "(LBlueBag$Rule;Z)V" } : Jvm.MethodName) ({ cls := "BlueBag$RuleReader", name := "begin", desc := "(LBlueBag$Rule;Z)V" } : Jvm.MethodName)), (Jvm.Cond.methodLink "BlueBag$RuleReader" (23 : Nat) ({ cls := "BlueBag$Rule", name := "clear", desc := "()V" } : Jvm.MethodName)), (Jvm.Cond.methodLinkNest "BlueBag$CoastReader" (187 : Nat) ({ cls := "BlueBag$RuleReader", name := "readExpr", desc := "(I)Z" } : Jvm.MethodName) "BlueBag"), (Jvm.Cond.instanceMethod ({ cls := "BlueBag$RuleReader", name := "readExpr", desc := "(I)Z" } : Jvm.MethodName)), (Jvm.Cond.methodLink "BlueBag$RuleReader" (34 : Nat) ({ cls := "BlueBag$Tokens", name := "refuse", desc := "(I)Z" } : Jvm.MethodName)), (Jvm.Cond.methodLink "BlueBag$RuleReader" (38 : Nat) ({ cls := "BlueBag$RuleReader", name := "readAnd", desc := "(I)Z" } : Jvm.MethodName)), (Jvm.Cond.instanceMethod ({ cls := "BlueBag$RuleReader", name := "readAnd", desc := "(I)Z" } : Jvm.MethodName)), (Jvm.Cond.methodLink "BlueBag$RuleReader" (54 : Nat) ({ cls := "BlueBag$RuleReader", name := "readNot", desc := "(I)Z" } : Jvm.MethodName)), (Jvm.Cond.instanceMethod ({ cls := "BlueBag$RuleReader", name := "readNot", desc := "(I)Z" } : Jvm.MethodName)), (Jvm.Cond.methodLink "BlueBag$RuleReader" (43 : Nat) ({ cls := "BlueBag$Tokens", name := "isWord", desc := "(Ljava/lang/String;)Z" } : Jvm.MethodName)), (Jvm.Cond.methodLink "BlueBag$RuleReader" (47 : Nat) ({ cls := "BlueBag$Tokens", name := "advance", desc := "()V" } : Jvm.MethodName)), (Jvm.Cond.methodLink "BlueBag$RuleReader" (61 : Nat) ({ cls := "BlueBag$RuleReader", name := "readTest", desc := "(I)Z" } : Jvm.MethodName)), (Jvm.Cond.instanceMethod ({ cls := "BlueBag$RuleReader", name := "readTest", desc := "(I)Z" } : Jvm.MethodName)), (Jvm.Cond.methodLink "BlueBag$RuleReader" (64 : Nat) ({ cls := "BlueBag$RuleReader", name := "readSum", desc := "(I)Z" } : Jvm.MethodName)), (Jvm.Cond.instanceMethod ({ cls := "BlueBag$RuleReader", name := "readSum", desc := "(I)Z" } : Jvm.MethodName)), (Jvm.Cond.methodLink "BlueBag$RuleReader" (67 : Nat) ({ cls := "BlueBag$RuleReader", name := "readProduct", desc := "(I)Z" } : Jvm.MethodName)), (Jvm.Cond.instanceMethod ({ cls := "BlueBag$RuleReader", name := "readProduct", desc := "(I)Z" } : Jvm.MethodName)), (Jvm.Cond.methodLink "BlueBag$RuleReader" (70 : Nat) ({ cls := "BlueBag$RuleReader", name := "readPart", desc := "(I)Z" } : Jvm.MethodName)), (Jvm.Cond.instanceMethod ({ cls := "BlueBag$RuleReader", name := "readPart", desc := "(I)Z" } : Jvm.MethodName)), (Jvm.Cond.methodLink "BlueBag$RuleReader" (73 : Nat) ({ cls := "BlueBag$Tokens", name := "isTooLong", desc := "()Z" } : Jvm.MethodName)), (Jvm.Cond.methodLink "BlueBag$RuleReader" (50 : Nat) ({ cls := "BlueBag$Rule", name := "put", desc := "(I)V" } : Jvm.MethodName)), (Jvm.Cond.instanceMethod ({ cls := "BlueBag$Rule", name := "put", desc := "(I)V" } : Jvm.MethodName)), (Jvm.Cond.selects "BlueBag$Rule" ({ cls := "BlueBag$Rule", name := "put", desc := "(I)V" } : Jvm.MethodName) ({ cls := "BlueBag$Rule", name := "put", desc := "(I)V" } : Jvm.MethodName)), (Jvm.Cond.methodLink "BlueBag$RuleReader" (80 : Nat) ({ cls := "BlueBag$RuleReader", name := "valueHere", desc := "()I" } : Jvm.MethodName)), (Jvm.Cond.instanceMethod ({ cls := "BlueBag$RuleReader", name := "valueHere", desc := "()I" } : Jvm.MethodName)), (Jvm.Cond.methodLink "BlueBag$RuleReader" (84 : Nat) ({ cls := "BlueBag$Rule", name := "putValue", desc := "(I)V" } : Jvm.MethodName)), (Jvm.Cond.instanceMethod ({ cls := "BlueBag$Rule", name := "putValue", desc := "(I)V" } : Jvm.MethodName)), (Jvm.Cond.selects "BlueBag$Rule" ({ cls := "BlueBag$Rule", name := "putValue", desc := "(I)V" } : Jvm.MethodName) ({ cls := "BlueBag$Rule", name := "putValue", desc := "(I)V" } : Jvm.MethodName)), (Jvm.Cond.methodLink "BlueBag$Rule" (22 : Nat) ({ cls := "BlueBag$Rule", name := "put", desc := "(I)V" } : Jvm.MethodName)), (Jvm.Cond.methodLink "BlueBag$RuleReader" (87 : Nat) ({ cls := "BlueBag$RuleReader", name := "readExpr", desc := "(I)Z" } : Jvm.MethodName)), (Jvm.Cond.methodLink "BlueBag$RuleReader" (90 : Nat) ({ cls := "BlueBag$Tokens", name := "passes", desc := "(I)Z" } : Jvm.MethodName)), (Jvm.Cond.methodLink "BlueBag" (103 : Nat) ({ cls := "BlueBag$Tape", name := "clear", desc := "()V" } : Jvm.MethodName)), (Jvm.Cond.instanceMethod ({ cls := "BlueBag$Tape", name := "clear", desc := "()V" } : Jvm.MethodName)), (Jvm.Cond.selects "BlueBag$Tape" ({ cls := "BlueBag$Tape", name := "clear", desc := "()V" } : Jvm.MethodName) ({ cls := "BlueBag$Tape", name := "clear", desc := "()V" } : Jvm.MethodName)), (Jvm.Cond.methodLink "BlueBag" (106 : Nat) ({ cls := "BlueBag$CoastReader", name := "faultPlace", desc := "()I" } : Jvm.MethodName)), (Jvm.Cond.instanceMethod ({ cls := "BlueBag$CoastReader", name := "faultPlace", desc := "()I" } : Jvm.MethodName)), (Jvm.Cond.selects "BlueBag$CoastReader" ({ cls := "BlueBag$CoastReader", name := "faultPlace", desc := "()I" } : Jvm.MethodName) ({ cls := "BlueBag$CoastReader", name := "faultPlace", desc := "()I" } : Jvm.MethodName))]
set_option maxRecDepth 100000 in
theorem sb_14 : isSub nd_14 ((tables_1_4).drop 114) = true := by decide +kernel
theorem im_14 {i : Nat} {w : Cond} (h : nd_14[i]? = some w) : w ∈ lw_tbl := tin_4 (List.mem_of_mem_drop (isSub_mem _ _ sb_14 w (List.mem_of_getElem? h)))
def nd_15 : List Cond := [(Jvm.Cond.methodLink "BlueBag" (115 : Nat) ({ cls := "BlueBag$Coast", name := "copyFrom", desc := "(LBlueBag$Coast;)V" } : Jvm.MethodName)), (Jvm.Cond.instanceMethod ({ cls := "BlueBag$Coast", name := "copyFrom", desc := "(LBlueBag$Coast;)V" } : Jvm.MethodName)), (Jvm.Cond.selects "BlueBag$Coast" ({ cls := "BlueBag$Coast", name := "copyFrom", desc := "(LBlueBag$Coast;)V" } : Jvm.MethodName) ({ cls := "BlueBag$Coast", name := "copyFrom", desc := "(LBlueBag$Coast;)V" } : Jvm.MethodName)), (Jvm.Cond.methodLink "BlueBag$Coast" (65 : Nat) ({ cls := "BlueBag$Rule", name := "copyFrom", desc := "(LBlueBag$Rule;)V" } : Jvm.MethodName)), (Jvm.Cond.instanceMethod ({ cls := "BlueBag$Rule", name := "copyFrom", desc := "(LBlueBag$Rule;)V" } : Jvm.MethodName)), (Jvm.Cond.selects "BlueBag$Rule" ({ cls := "BlueBag$Rule", name := "copyFrom", desc := "(LBlueBag$Rule;)V" } : Jvm.MethodName) ({ cls := "BlueBag$Rule", name := "copyFrom", desc := "(LBlueBag$Rule;)V" } : Jvm.MethodName)), (Jvm.Cond.methodLink "BlueBag$Rule" (26 : Nat) ({ cls := "java/lang/System", name := "arraycopy", desc := "(Ljava/lang/Object;ILjava/lang/Object;II)V" } : Jvm.MethodName)), (Jvm.Cond.methodLink "BlueBag" (121 : Nat) ({ cls := "BlueBag$Memory", name := "begin", desc := "(LBlueBag$Sky;)V" } : Jvm.MethodName)), (Jvm.Cond.instanceMethod ({ cls := "BlueBag$Memory", name := "begin", desc := "(LBlueBag$Sky;)V" } : Jvm.MethodName)), (Jvm.Cond.selects "BlueBag$Memory" ({ cls := "BlueBag$Memory", name := "begin", desc := "(LBlueBag$Sky;)V" } : Jvm.MethodName) ({ cls := "BlueBag$Memory", name := "begin", desc := "(LBlueBag$Sky;)V" } : Jvm.MethodName)), (Jvm.Cond.methodLink "BlueBag$Memory" (44 : Nat) ({ cls := "BlueBag$Acts", name := "clear", desc := "()V" } : Jvm.MethodName))]
set_option maxRecDepth 100000 in
theorem sb_15 : isSub nd_15 ((tables_1_4).drop 226) = true := by decide +kernel
theorem im_15 {i : Nat} {w : Cond} (h : nd_15[i]? = some w) : w ∈ lw_tbl := tin_4 (List.mem_of_mem_drop (isSub_mem _ _ sb_15 w (List.mem_of_getElem? h)))
set_option maxRecDepth 100000 in
theorem cw_1069 : (Jvm.Cond.code ({ cls := "BlueBag$Acts", name := "clear", desc := "()V" } : Jvm.MethodName) prog_2_method_2_code (1 : Nat) (Option.none : Option Jvm.ClassFile.FieldType)) ∈ lw_tbl := tin_5 (List.mem_of_getElem? (i := 2) rfl)
set_option maxRecDepth 100000 in
theorem cw_1072 : (Jvm.Cond.codeWith ({ cls := "BlueBagLaw", name := "count", desc := "(LBlueBag;I[J)I" } : Jvm.MethodName) method_4_code (4 : Nat) (Option.some Jvm.ClassFile.FieldType.int) [((0 : Nat), (9 : Nat), (12 : Nat), (18 : Nat))]) ∈ lw_tbl := tin_5 (List.mem_of_getElem? (i := 5) rfl)
set_option maxRecDepth 100000 in
theorem cw_1077 : (Jvm.Cond.code ({ cls := "BlueBag", name := "count", desc := "(I)I" } : Jvm.MethodName) prog_1_method_5_code (2 : Nat) (Option.some Jvm.ClassFile.FieldType.int)) ∈ lw_tbl := tin_5 (List.mem_of_getElem? (i := 10) rfl)
set_option maxRecDepth 100000 in
theorem cw_1082 : (Jvm.Cond.code ({ cls := "BlueBag$Sky", name := "allBlue", desc := "()I" } : Jvm.MethodName) prog_10_method_26_code (3 : Nat) (Option.some Jvm.ClassFile.FieldType.int)) ∈ lw_tbl := tin_5 (List.mem_of_getElem? (i := 15) rfl)
set_option maxRecDepth 100000 in
theorem cw_1086 : (Jvm.Cond.code ({ cls := "BlueBag$Memory", name := "refused", desc := "(I)I" } : Jvm.MethodName) prog_6_method_6_code (2 : Nat) (Option.some Jvm.ClassFile.FieldType.int)) ∈ lw_tbl := tin_5 (List.mem_of_getElem? (i := 19) rfl)
set_option maxRecDepth 100000 in
theorem cw_1098 : (Jvm.Cond.code ({ cls := "java/util/NoSuchElementException", name := "<init>", desc := "()V" } : Jvm.MethodName) prog_31_method_1_code (1 : Nat) (Option.none : Option Jvm.ClassFile.FieldType)) ∈ lw_tbl := tin_5 (List.mem_of_getElem? (i := 31) rfl)
set_option maxRecDepth 100000 in
theorem cw_1104 : (Jvm.Cond.codeWith ({ cls := "BlueBagLaw", name := "cell", desc := "(LBlueBag;II[J)I" } : Jvm.MethodName) method_5_code (5 : Nat) (Option.some Jvm.ClassFile.FieldType.int) [((0 : Nat), (10 : Nat), (13 : Nat), (18 : Nat))]) ∈ lw_tbl := tin_5 (List.mem_of_getElem? (i := 37) rfl)
set_option maxRecDepth 100000 in
theorem cw_1108 : (Jvm.Cond.code ({ cls := "BlueBag", name := "cell", desc := "(II)I" } : Jvm.MethodName) prog_1_method_6_code (3 : Nat) (Option.some Jvm.ClassFile.FieldType.int)) ∈ lw_tbl := tin_5 (List.mem_of_getElem? (i := 41) rfl)
set_option maxRecDepth 100000 in
theorem cw_1112 : (Jvm.Cond.code ({ cls := "BlueBag", name := "needCell", desc := "(I)V" } : Jvm.MethodName) prog_1_method_40_code (2 : Nat) (Option.none : Option Jvm.ClassFile.FieldType)) ∈ lw_tbl := tin_5 (List.mem_of_getElem? (i := 45) rfl)
set_option maxRecDepth 100000 in
theorem cw_1118 : (Jvm.Cond.code ({ cls := "BlueBag$Sky", name := "girlsAt", desc := "(I)I" } : Jvm.MethodName) prog_10_method_28_code (4 : Nat) (Option.some Jvm.ClassFile.FieldType.int)) ∈ lw_tbl := tin_5 (List.mem_of_getElem? (i := 51) rfl)
set_option maxRecDepth 100000 in
theorem cw_1122 : (Jvm.Cond.code ({ cls := "BlueBag$Sky", name := "patchBits", desc := "(II)I" } : Jvm.MethodName) prog_10_method_33_code (6 : Nat) (Option.some Jvm.ClassFile.FieldType.int)) ∈ lw_tbl := tin_5 (List.mem_of_getElem? (i := 55) rfl)
set_option maxRecDepth 100000 in
theorem cw_1126 : (Jvm.Cond.code ({ cls := "BlueBag$Sky", name := "besideWithin", desc := "(II)I" } : Jvm.MethodName) prog_10_method_34_code (7 : Nat) (Option.some Jvm.ClassFile.FieldType.int)) ∈ lw_tbl := tin_5 (List.mem_of_getElem? (i := 59) rfl)
set_option maxRecDepth 100000 in
theorem cw_1129 : (Jvm.Cond.code ({ cls := "java/lang/Math", name := "abs", desc := "(I)I" } : Jvm.MethodName) prog_22_method_59_code (1 : Nat) (Option.some Jvm.ClassFile.FieldType.int)) ∈ lw_tbl := tin_5 (List.mem_of_getElem? (i := 62) rfl)
set_option maxRecDepth 100000 in
theorem cw_1132 : (Jvm.Cond.codeWith ({ cls := "BlueBagLaw", name := "girl", desc := "(LBlueBag;II[J)I" } : Jvm.MethodName) method_6_code (5 : Nat) (Option.some Jvm.ClassFile.FieldType.int) [((0 : Nat), (10 : Nat), (13 : Nat), (18 : Nat))]) ∈ lw_tbl := tin_5 (List.mem_of_getElem? (i := 65) rfl)
set_option maxRecDepth 100000 in
theorem cw_1136 : (Jvm.Cond.code ({ cls := "BlueBag", name := "girl", desc := "(II)I" } : Jvm.MethodName) prog_1_method_7_code (3 : Nat) (Option.some Jvm.ClassFile.FieldType.int)) ∈ lw_tbl := tin_5 (List.mem_of_getElem? (i := 69) rfl)
set_option maxRecDepth 100000 in
theorem cw_1140 : (Jvm.Cond.code ({ cls := "BlueBag", name := "needGirl", desc := "(I)V" } : Jvm.MethodName) prog_1_method_41_code (2 : Nat) (Option.none : Option Jvm.ClassFile.FieldType)) ∈ lw_tbl := tin_5 (List.mem_of_getElem? (i := 73) rfl)
set_option maxRecDepth 100000 in
theorem cw_1148 : (Jvm.Cond.codeWith ({ cls := "BlueBagLaw", name := "rest", desc := "(LBlueBag;IZ[J)I" } : Jvm.MethodName) method_7_code (5 : Nat) (Option.some Jvm.ClassFile.FieldType.int) [((0 : Nat), (17 : Nat), (20 : Nat), (18 : Nat))]) ∈ lw_tbl := tin_5 (List.mem_of_getElem? (i := 81) rfl)
set_option maxRecDepth 100000 in
theorem cw_1152 : (Jvm.Cond.code ({ cls := "BlueBag", name := "rest", desc := "(IZ)Z" } : Jvm.MethodName) prog_1_method_9_code (3 : Nat) (Option.some Jvm.ClassFile.FieldType.boolean)) ∈ lw_tbl := tin_5 (List.mem_of_getElem? (i := 85) rfl)
set_option maxRecDepth 100000 in
theorem cw_1155 : (Jvm.Cond.codeWith ({ cls := "BlueBagLaw", name := "go", desc := "(LBlueBag;II[J)I" } : Jvm.MethodName) method_8_code (5 : Nat) (Option.some Jvm.ClassFile.FieldType.int) [((0 : Nat), (10 : Nat), (13 : Nat), (18 : Nat))]) ∈ lw_tbl := tin_5 (List.mem_of_getElem? (i := 88) rfl)
set_option maxRecDepth 100000 in
theorem cw_1159 : (Jvm.Cond.code ({ cls := "BlueBag", name := "go", desc := "(II)I" } : Jvm.MethodName) prog_1_method_10_code (4 : Nat) (Option.some Jvm.ClassFile.FieldType.int)) ∈ lw_tbl := tin_5 (List.mem_of_getElem? (i := 92) rfl)
set_option maxRecDepth 100000 in
theorem cw_1163 : (Jvm.Cond.codeWith ({ cls := "BlueBagLaw", name := "peg", desc := "(LBlueBag;IZ[J)I" } : Jvm.MethodName) method_9_code (5 : Nat) (Option.some Jvm.ClassFile.FieldType.int) [((0 : Nat), (10 : Nat), (13 : Nat), (18 : Nat))]) ∈ lw_tbl := tin_5 (List.mem_of_getElem? (i := 96) rfl)
set_option maxRecDepth 100000 in
theorem cw_1167 : (Jvm.Cond.code ({ cls := "BlueBag", name := "peg", desc := "(IZ)I" } : Jvm.MethodName) prog_1_method_12_code (4 : Nat) (Option.some Jvm.ClassFile.FieldType.int)) ∈ lw_tbl := tin_5 (List.mem_of_getElem? (i := 100) rfl)
set_option maxRecDepth 100000 in
theorem cw_1172 : (Jvm.Cond.codeWith ({ cls := "BlueBagLaw", name := "then", desc := "(LBlueBag;II[J)I" } : Jvm.MethodName) method_10_code (5 : Nat) (Option.some Jvm.ClassFile.FieldType.int) [((0 : Nat), (10 : Nat), (13 : Nat), (18 : Nat)), ((0 : Nat), (10 : Nat), (17 : Nat), (13 : Nat))]) ∈ lw_tbl := tin_5 (List.mem_of_getElem? (i := 105) rfl)
set_option maxRecDepth 100000 in
theorem cw_1176 : (Jvm.Cond.code ({ cls := "BlueBag", name := "then", desc := "(II)I" } : Jvm.MethodName) prog_1_method_14_code (3 : Nat) (Option.some Jvm.ClassFile.FieldType.int)) ∈ lw_tbl := tin_5 (List.mem_of_getElem? (i := 109) rfl)
set_option maxRecDepth 100000 in
theorem cw_1180 : (Jvm.Cond.code ({ cls := "BlueBag", name := "needWithin", desc := "(III)V" } : Jvm.MethodName) prog_1_method_43_code (4 : Nat) (Option.none : Option Jvm.ClassFile.FieldType)) ∈ lw_tbl := tin_5 (List.mem_of_getElem? (i := 113) rfl)
set_option maxRecDepth 100000 in
theorem cw_1183 : (Jvm.Cond.codeWith ({ cls := "BlueBagLaw", name := "sky", desc := "(LBlueBag;II[J)I" } : Jvm.MethodName) method_11_code (5 : Nat) (Option.some Jvm.ClassFile.FieldType.int) [((0 : Nat), (10 : Nat), (13 : Nat), (18 : Nat)), ((0 : Nat), (10 : Nat), (17 : Nat), (13 : Nat))]) ∈ lw_tbl := tin_5 (List.mem_of_getElem? (i := 116) rfl)
set_option maxRecDepth 100000 in
theorem cw_1187 : (Jvm.Cond.code ({ cls := "BlueBag", name := "sky", desc := "(II)I" } : Jvm.MethodName) prog_1_method_15_code (3 : Nat) (Option.some Jvm.ClassFile.FieldType.int)) ∈ lw_tbl := tin_5 (List.mem_of_getElem? (i := 120) rfl)
set_option maxRecDepth 100000 in
theorem cw_1191 : (Jvm.Cond.code ({ cls := "BlueBag", name := "needWhat", desc := "(II)V" } : Jvm.MethodName) prog_1_method_42_code (3 : Nat) (Option.none : Option Jvm.ClassFile.FieldType)) ∈ lw_tbl := tin_5 (List.mem_of_getElem? (i := 124) rfl)
set_option maxRecDepth 100000 in
theorem cw_1196 : (Jvm.Cond.codeWith ({ cls := "BlueBagLaw", name := "overdone", desc := "(LBlueBag;I[J)I" } : Jvm.MethodName) method_12_code (4 : Nat) (Option.some Jvm.ClassFile.FieldType.int) [((0 : Nat), (9 : Nat), (12 : Nat), (13 : Nat))]) ∈ lw_tbl := tin_5 (List.mem_of_getElem? (i := 129) rfl)
set_option maxRecDepth 100000 in
theorem cw_1200 : (Jvm.Cond.code ({ cls := "BlueBag", name := "overdone", desc := "(I)I" } : Jvm.MethodName) prog_1_method_16_code (2 : Nat) (Option.some Jvm.ClassFile.FieldType.int)) ∈ lw_tbl := tin_5 (List.mem_of_getElem? (i := 133) rfl)
set_option maxRecDepth 100000 in
theorem cw_1203 : (Jvm.Cond.codeWith ({ cls := "BlueBagLaw", name := "first", desc := "(LBlueBag;I[J)I" } : Jvm.MethodName) method_13_code (4 : Nat) (Option.some Jvm.ClassFile.FieldType.int) [((0 : Nat), (9 : Nat), (12 : Nat), (18 : Nat))]) ∈ lw_tbl := tin_5 (List.mem_of_getElem? (i := 136) rfl)
set_option maxRecDepth 100000 in
theorem cw_1207 : (Jvm.Cond.code ({ cls := "BlueBag", name := "first", desc := "(I)I" } : Jvm.MethodName) prog_1_method_17_code (3 : Nat) (Option.some Jvm.ClassFile.FieldType.int)) ∈ lw_tbl := tin_5 (List.mem_of_getElem? (i := 140) rfl)
set_option maxRecDepth 100000 in
theorem cw_1210 : (Jvm.Cond.codeWith ({ cls := "BlueBagLaw", name := "streak", desc := "(LBlueBag;I[J)I" } : Jvm.MethodName) method_14_code (4 : Nat) (Option.some Jvm.ClassFile.FieldType.int) [((0 : Nat), (9 : Nat), (12 : Nat), (18 : Nat))]) ∈ lw_tbl := tin_5 (List.mem_of_getElem? (i := 143) rfl)
set_option maxRecDepth 100000 in
theorem cw_1214 : (Jvm.Cond.code ({ cls := "BlueBag", name := "streak", desc := "(I)I" } : Jvm.MethodName) prog_1_method_21_code (6 : Nat) (Option.some Jvm.ClassFile.FieldType.int)) ∈ lw_tbl := tin_5 (List.mem_of_getElem? (i := 147) rfl)
set_option maxRecDepth 100000 in
theorem cw_1218 : (Jvm.Cond.code ({ cls := "BlueBag$Sky", name := "runFrom", desc := "(I)I" } : Jvm.MethodName) prog_10_method_32_code (4 : Nat) (Option.some Jvm.ClassFile.FieldType.int)) ∈ lw_tbl := tin_5 (List.mem_of_getElem? (i := 151) rfl)
set_option maxRecDepth 100000 in
theorem cw_1221 : (Jvm.Cond.codeWith ({ cls := "BlueBagLaw", name := "patch", desc := "(LBlueBag;II[J)I" } : Jvm.MethodName) method_15_code (5 : Nat) (Option.some Jvm.ClassFile.FieldType.int) [((0 : Nat), (10 : Nat), (13 : Nat), (18 : Nat)), ((0 : Nat), (10 : Nat), (17 : Nat), (13 : Nat))]) ∈ lw_tbl := tin_5 (List.mem_of_getElem? (i := 154) rfl)
set_option maxRecDepth 100000 in
theorem cw_1225 : (Jvm.Cond.code ({ cls := "BlueBag", name := "patch", desc := "(II)I" } : Jvm.MethodName) prog_1_method_22_code (3 : Nat) (Option.some Jvm.ClassFile.FieldType.int)) ∈ lw_tbl := tin_5 (List.mem_of_getElem? (i := 158) rfl)
set_option maxRecDepth 100000 in
theorem cw_1228 : (Jvm.Cond.codeWith ({ cls := "BlueBagLaw", name := "patches", desc := "(LBlueBag;I[J)I" } : Jvm.MethodName) method_16_code (4 : Nat) (Option.some Jvm.ClassFile.FieldType.int) [((0 : Nat), (9 : Nat), (12 : Nat), (13 : Nat))]) ∈ lw_tbl := tin_5 (List.mem_of_getElem? (i := 161) rfl)
set_option maxRecDepth 100000 in
theorem cw_1232 : (Jvm.Cond.code ({ cls := "BlueBag", name := "patches", desc := "(I)I" } : Jvm.MethodName) prog_1_method_23_code (5 : Nat) (Option.some Jvm.ClassFile.FieldType.int)) ∈ lw_tbl := tin_5 (List.mem_of_getElem? (i := 165) rfl)
set_option maxRecDepth 100000 in
theorem cw_1235 : (Jvm.Cond.codeWith ({ cls := "BlueBagLaw", name := "way", desc := "(LBlueBag;II[J)I" } : Jvm.MethodName) method_17_code (5 : Nat) (Option.some Jvm.ClassFile.FieldType.int) [((0 : Nat), (10 : Nat), (13 : Nat), (18 : Nat))]) ∈ lw_tbl := tin_5 (List.mem_of_getElem? (i := 168) rfl)
set_option maxRecDepth 100000 in
theorem cw_1239 : (Jvm.Cond.code ({ cls := "BlueBag", name := "way", desc := "(II)I" } : Jvm.MethodName) prog_1_method_24_code (3 : Nat) (Option.some Jvm.ClassFile.FieldType.int)) ∈ lw_tbl := tin_5 (List.mem_of_getElem? (i := 172) rfl)
set_option maxRecDepth 100000 in
theorem cw_1243 : (Jvm.Cond.code ({ cls := "BlueBag$Sky", name := "wayBetween", desc := "(II)I" } : Jvm.MethodName) prog_10_method_35_code (7 : Nat) (Option.some Jvm.ClassFile.FieldType.int)) ∈ lw_tbl := tin_5 (List.mem_of_getElem? (i := 176) rfl)
set_option maxRecDepth 100000 in
theorem cw_1246 : (Jvm.Cond.codeWith ({ cls := "BlueBagLaw", name := "toStand", desc := "(LBlueBag;II[J)I" } : Jvm.MethodName) method_18_code (5 : Nat) (Option.some Jvm.ClassFile.FieldType.int) [((0 : Nat), (10 : Nat), (13 : Nat), (18 : Nat))]) ∈ lw_tbl := tin_5 (List.mem_of_getElem? (i := 179) rfl)
set_option maxRecDepth 100000 in
theorem cw_1250 : (Jvm.Cond.code ({ cls := "BlueBag", name := "toStand", desc := "(II)I" } : Jvm.MethodName) prog_1_method_28_code (7 : Nat) (Option.some Jvm.ClassFile.FieldType.int)) ∈ lw_tbl := tin_5 (List.mem_of_getElem? (i := 183) rfl)
set_option maxRecDepth 100000 in
theorem cw_1254 : (Jvm.Cond.codeWith ({ cls := "BlueBagLaw", name := "toSwish", desc := "(LBlueBag;II[J)I" } : Jvm.MethodName) method_19_code (5 : Nat) (Option.some Jvm.ClassFile.FieldType.int) [((0 : Nat), (10 : Nat), (13 : Nat), (18 : Nat)), ((0 : Nat), (10 : Nat), (17 : Nat), (13 : Nat))]) ∈ lw_tbl := tin_5 (List.mem_of_getElem? (i := 187) rfl)
set_option maxRecDepth 100000 in
theorem cw_1258 : (Jvm.Cond.code ({ cls := "BlueBag", name := "toSwish", desc := "(II)I" } : Jvm.MethodName) prog_1_method_29_code (5 : Nat) (Option.some Jvm.ClassFile.FieldType.int)) ∈ lw_tbl := tin_5 (List.mem_of_getElem? (i := 191) rfl)
set_option maxRecDepth 100000 in
theorem cw_1262 : (Jvm.Cond.codeWith ({ cls := "BlueBagLaw", name := "sent", desc := "(LBlueBag;II[J)I" } : Jvm.MethodName) method_20_code (5 : Nat) (Option.some Jvm.ClassFile.FieldType.int) [((0 : Nat), (10 : Nat), (13 : Nat), (18 : Nat)), ((0 : Nat), (10 : Nat), (17 : Nat), (13 : Nat))]) ∈ lw_tbl := tin_5 (List.mem_of_getElem? (i := 195) rfl)
set_option maxRecDepth 100000 in
theorem cw_1266 : (Jvm.Cond.code ({ cls := "BlueBag", name := "sent", desc := "(II)I" } : Jvm.MethodName) prog_1_method_30_code (3 : Nat) (Option.some Jvm.ClassFile.FieldType.int)) ∈ lw_tbl := tin_5 (List.mem_of_getElem? (i := 199) rfl)
set_option maxRecDepth 100000 in
theorem cw_1271 : (Jvm.Cond.code ({ cls := "BlueBag$Sending", name := "find", desc := "(I)Z" } : Jvm.MethodName) prog_9_method_2_code (3 : Nat) (Option.some Jvm.ClassFile.FieldType.boolean)) ∈ lw_tbl := tin_5 (List.mem_of_getElem? (i := 204) rfl)
set_option maxRecDepth 100000 in
theorem cw_1276 : (Jvm.Cond.code ({ cls := "BlueBag$Sending", name := "fill", desc := "(III)V" } : Jvm.MethodName) prog_9_method_4_code (5 : Nat) (Option.none : Option Jvm.ClassFile.FieldType)) ∈ lw_tbl := tin_5 (List.mem_of_getElem? (i := 209) rfl)
set_option maxRecDepth 100000 in
theorem cw_1282 : (Jvm.Cond.code ({ cls := "BlueBag$Coast", name := "stepsBetween", desc := "(II)I" } : Jvm.MethodName) prog_3_method_11_code (3 : Nat) (Option.some Jvm.ClassFile.FieldType.int)) ∈ lw_tbl := tin_5 (List.mem_of_getElem? (i := 215) rfl)
set_option maxRecDepth 100000 in
theorem cw_1288 : (Jvm.Cond.code ({ cls := "BlueBag$Sending", name := "girlFor", desc := "(I)I" } : Jvm.MethodName) prog_9_method_3_code (3 : Nat) (Option.some Jvm.ClassFile.FieldType.int)) ∈ lw_tbl := tin_5 (List.mem_of_getElem? (i := 221) rfl)
set_option maxRecDepth 100000 in
theorem cw_1291 : (Jvm.Cond.codeWith ({ cls := "BlueBagLaw", name := "band", desc := "(LBlueBag;I[J)I" } : Jvm.MethodName) method_21_code (4 : Nat) (Option.some Jvm.ClassFile.FieldType.int) [((0 : Nat), (9 : Nat), (12 : Nat), (13 : Nat))]) ∈ lw_tbl := tin_5 (List.mem_of_getElem? (i := 224) rfl)
set_option maxRecDepth 100000 in
theorem cw_1295 : (Jvm.Cond.code ({ cls := "BlueBag", name := "band", desc := "(I)I" } : Jvm.MethodName) prog_1_method_19_code (4 : Nat) (Option.some Jvm.ClassFile.FieldType.int)) ∈ lw_tbl := tin_5 (List.mem_of_getElem? (i := 228) rfl)
set_option maxRecDepth 100000 in
theorem cw_1299 : (Jvm.Cond.code ({ cls := "BlueBag$Sky", name := "rowBlue", desc := "(I)I" } : Jvm.MethodName) prog_10_method_27_code (4 : Nat) (Option.some Jvm.ClassFile.FieldType.int)) ∈ lw_tbl := tin_5 (List.mem_of_getElem? (i := 232) rfl)
set_option maxRecDepth 100000 in
theorem cw_1302 : (Jvm.Cond.codeWith ({ cls := "BlueBagLaw", name := "steps", desc := "(LBlueBag;II[J)I" } : Jvm.MethodName) method_22_code (5 : Nat) (Option.some Jvm.ClassFile.FieldType.int) [((0 : Nat), (10 : Nat), (13 : Nat), (18 : Nat))]) ∈ lw_tbl := tin_5 (List.mem_of_getElem? (i := 235) rfl)
set_option maxRecDepth 100000 in
theorem cw_1306 : (Jvm.Cond.code ({ cls := "BlueBag", name := "steps", desc := "(II)I" } : Jvm.MethodName) prog_1_method_25_code (3 : Nat) (Option.some Jvm.ClassFile.FieldType.int)) ∈ lw_tbl := tin_5 (List.mem_of_getElem? (i := 239) rfl)
def nd_16 : List Cond := [(Jvm.Cond.instanceMethod ({ cls := "BlueBag$Acts", name := "clear", desc := "()V" } : Jvm.MethodName)), (Jvm.Cond.selects "BlueBag$Acts" ({ cls := "BlueBag$Acts", name := "clear", desc := "()V" } : Jvm.MethodName) ({ cls := "BlueBag$Acts", name := "clear", desc := "()V" } : Jvm.MethodName)), (Jvm.Cond.methodLink "BlueBagLaw" (119 : Nat) ({ cls := "BlueBagLaw", name := "count", desc := "(LBlueBag;I[J)I" } : Jvm.MethodName)), (Jvm.Cond.static ({ cls := "BlueBagLaw", name := "count", desc := "(LBlueBag;I[J)I" } : Jvm.MethodName)), (Jvm.Cond.classLink "BlueBagLaw" (18 : Nat) "java/util/NoSuchElementException"), (Jvm.Cond.methodLink "BlueBagLaw" (15 : Nat) ({ cls := "BlueBag", name := "count", desc := "(I)I" } : Jvm.MethodName)), (Jvm.Cond.instanceMethod ({ cls := "BlueBag", name := "count", desc := "(I)I" } : Jvm.MethodName)), (Jvm.Cond.selects "BlueBag" ({ cls := "BlueBag", name := "count", desc := "(I)I" } : Jvm.MethodName) ({ cls := "BlueBag", name := "count", desc := "(I)I" } : Jvm.MethodName)), (Jvm.Cond.methodLink "BlueBag" (128 : Nat) ({ cls := "BlueBag$Coast", name := "cells", desc := "()I" } : Jvm.MethodName)), (Jvm.Cond.methodLink "BlueBag" (158 : Nat) ({ cls := "BlueBag$Sky", name := "allBlue", desc := "()I" } : Jvm.MethodName)), (Jvm.Cond.instanceMethod ({ cls := "BlueBag$Sky", name := "allBlue", desc := "()I" } : Jvm.MethodName)), (Jvm.Cond.selects "BlueBag$Sky" ({ cls := "BlueBag$Sky", name := "allBlue", desc := "()I" } : Jvm.MethodName) ({ cls := "BlueBag$Sky", name := "allBlue", desc := "()I" } : Jvm.MethodName)), (Jvm.Cond.methodLink "BlueBag" (173 : Nat) ({ cls := "BlueBag$Memory", name := "refused", desc := "(I)I" } : Jvm.MethodName)), (Jvm.Cond.instanceMethod ({ cls := "BlueBag$Memory", name := "refused", desc := "(I)I" } : Jvm.MethodName)), (Jvm.Cond.selects "BlueBag$Memory" ({ cls := "BlueBag$Memory", name := "refused", desc := "(I)I" } : Jvm.MethodName) ({ cls := "BlueBag$Memory", name := "refused", desc := "(I)I" } : Jvm.MethodName)), (Jvm.Cond.classLink "BlueBag" (176 : Nat) "java/util/NoSuchElementException"), (Jvm.Cond.instantiable "java/util/NoSuchElementException" (6 : Nat)), (Jvm.Cond.castable "java/util/NoSuchElementException" "java/util/NoSuchElementException"), (Jvm.Cond.selects "java/util/NoSuchElementException" ({ cls := "java/lang/Throwable", name := "fillInStackTrace", desc := "(I)Ljava/lang/Throwable;" } : Jvm.MethodName) ({ cls := "java/lang/Throwable", name := "fillInStackTrace", desc := "(I)Ljava/lang/Throwable;" } : Jvm.MethodName)), (Jvm.Cond.lays "java/util/NoSuchElementException" "java/lang/Throwable" "cause" "Ljava/lang/Throwable;"), (Jvm.Cond.lays "java/util/NoSuchElementException" "java/lang/Throwable" "stackTrace" "[Ljava/lang/StackTraceElement;"), (Jvm.Cond.lays "java/util/NoSuchElementException" "java/lang/Throwable" "suppressedExceptions" "Ljava/util/List;"), (Jvm.Cond.lays "java/util/NoSuchElementException" "java/lang/Throwable" "detailMessage" "Ljava/lang/String;"), (Jvm.Cond.lays "java/util/NoSuchElementException" "java/lang/Throwable" "backtrace" "Ljava/lang/Object;"), (Jvm.Cond.methodLink "BlueBag" (178 : Nat) ({ cls := "java/util/NoSuchElementException", name := "<init>", desc := "()V" } : Jvm.MethodName)), (Jvm.Cond.instanceMethod ({ cls := "java/util/NoSuchElementException", name := "<init>", desc := "()V" } : Jvm.MethodName)), (Jvm.Cond.methodLink "java/util/NoSuchElementException" (1 : Nat) ({ cls := "java/lang/RuntimeException", name := "<init>", desc := "()V" } : Jvm.MethodName)), (Jvm.Cond.lays "java/util/NoSuchElementException" "java/lang/Throwable" "depth" "I"), (Jvm.Cond.superclass "java/util/NoSuchElementException" "java/lang/RuntimeException"), (Jvm.Cond.methodLink "BlueBagLaw" (122 : Nat) ({ cls := "BlueBagLaw", name := "cell", desc := "(LBlueBag;II[J)I" } : Jvm.MethodName)), (Jvm.Cond.static ({ cls := "BlueBagLaw", name := "cell", desc := "(LBlueBag;II[J)I" } : Jvm.MethodName)), (Jvm.Cond.methodLink "BlueBagLaw" (20 : Nat) ({ cls := "BlueBag", name := "cell", desc := "(II)I" } : Jvm.MethodName)), (Jvm.Cond.instanceMethod ({ cls := "BlueBag", name := "cell", desc := "(II)I" } : Jvm.MethodName)), (Jvm.Cond.selects "BlueBag" ({ cls := "BlueBag", name := "cell", desc := "(II)I" } : Jvm.MethodName) ({ cls := "BlueBag", name := "cell", desc := "(II)I" } : Jvm.MethodName)), (Jvm.Cond.methodLink "BlueBag" (179 : Nat) ({ cls := "BlueBag", name := "needCell", desc := "(I)V" } : Jvm.MethodName)), (Jvm.Cond.instanceMethod ({ cls := "BlueBag", name := "needCell", desc := "(I)V" } : Jvm.MethodName)), (Jvm.Cond.methodLink "BlueBag" (182 : Nat) ({ cls := "BlueBag$Sky", name := "blueOf", desc := "(I)I" } : Jvm.MethodName)), (Jvm.Cond.methodLink "BlueBag" (185 : Nat) ({ cls := "BlueBag$Coast", name := "besideBits", desc := "(I)I" } : Jvm.MethodName)), (Jvm.Cond.methodLink "BlueBag" (188 : Nat) ({ cls := "BlueBag$Sky", name := "girlsAt", desc := "(I)I" } : Jvm.MethodName)), (Jvm.Cond.instanceMethod ({ cls := "BlueBag$Sky", name := "girlsAt", desc := "(I)I" } : Jvm.MethodName)), (Jvm.Cond.selects "BlueBag$Sky" ({ cls := "BlueBag$Sky", name := "girlsAt", desc := "(I)I" } : Jvm.MethodName) ({ cls := "BlueBag$Sky", name := "girlsAt", desc := "(I)I" } : Jvm.MethodName)), (Jvm.Cond.methodLink "BlueBag" (191 : Nat) ({ cls := "BlueBag$Sky", name := "patchBits", desc := "(II)I" } : Jvm.MethodName)), (Jvm.Cond.instanceMethod ({ cls := "BlueBag$Sky", name := "patchBits", desc := "(II)I" } : Jvm.MethodName)), (Jvm.Cond.selects "BlueBag$Sky" ({ cls := "BlueBag$Sky", name := "patchBits", desc := "(II)I" } : Jvm.MethodName) ({ cls := "BlueBag$Sky", name := "patchBits", desc := "(II)I" } : Jvm.MethodName)), (Jvm.Cond.methodLink "BlueBag$Sky" (169 : Nat) ({ cls := "BlueBag$Sky", name := "besideWithin", desc := "(II)I" } : Jvm.MethodName)), (Jvm.Cond.instanceMethod ({ cls := "BlueBag$Sky", name := "besideWithin", desc := "(II)I" } : Jvm.MethodName)), (Jvm.Cond.methodLink "BlueBag$Sky" (172 : Nat) ({ cls := "java/lang/Math", name := "abs", desc := "(I)I" } : Jvm.MethodName)), (Jvm.Cond.static ({ cls := "java/lang/Math", name := "abs", desc := "(I)I" } : Jvm.MethodName)), (Jvm.Cond.methodLink "BlueBagLaw" (126 : Nat) ({ cls := "BlueBagLaw", name := "girl", desc := "(LBlueBag;II[J)I" } : Jvm.MethodName)), (Jvm.Cond.static ({ cls := "BlueBagLaw", name := "girl", desc := "(LBlueBag;II[J)I" } : Jvm.MethodName)), (Jvm.Cond.methodLink "BlueBagLaw" (24 : Nat) ({ cls := "BlueBag", name := "girl", desc := "(II)I" } : Jvm.MethodName)), (Jvm.Cond.instanceMethod ({ cls := "BlueBag", name := "girl", desc := "(II)I" } : Jvm.MethodName)), (Jvm.Cond.selects "BlueBag" ({ cls := "BlueBag", name := "girl", desc := "(II)I" } : Jvm.MethodName) ({ cls := "BlueBag", name := "girl", desc := "(II)I" } : Jvm.MethodName)), (Jvm.Cond.methodLink "BlueBag" (195 : Nat) ({ cls := "BlueBag", name := "needGirl", desc := "(I)V" } : Jvm.MethodName)), (Jvm.Cond.instanceMethod ({ cls := "BlueBag", name := "needGirl", desc := "(I)V" } : Jvm.MethodName)), (Jvm.Cond.methodLink "BlueBag" (198 : Nat) ({ cls := "BlueBag$Sky", name := "skillOf", desc := "(I)I" } : Jvm.MethodName)), (Jvm.Cond.methodLink "BlueBag" (201 : Nat) ({ cls := "BlueBag$Sky", name := "spotOf", desc := "(I)I" } : Jvm.MethodName)), (Jvm.Cond.methodLink "BlueBag" (204 : Nat) ({ cls := "BlueBag$Coast", name := "isOld", desc := "(I)Z" } : Jvm.MethodName)), (Jvm.Cond.methodLink "BlueBag" (207 : Nat) ({ cls := "java/lang/Math", name := "max", desc := "(II)I" } : Jvm.MethodName)), (Jvm.Cond.methodLink "BlueBag" (212 : Nat) ({ cls := "BlueBag$Sky", name := "dyeOf", desc := "(II)I" } : Jvm.MethodName))]
set_option maxRecDepth 100000 in
theorem sb_16 : isSub nd_16 ((tables_1_5).drop 0) = true := by decide +kernel
theorem im_16 {i : Nat} {w : Cond} (h : nd_16[i]? = some w) : w ∈ lw_tbl := tin_5 (List.mem_of_mem_drop (isSub_mem _ _ sb_16 w (List.mem_of_getElem? h)))
def nd_17 : List Cond := [(Jvm.Cond.methodLink "BlueBagLaw" (133 : Nat) ({ cls := "BlueBagLaw", name := "rest", desc := "(LBlueBag;IZ[J)I" } : Jvm.MethodName)), (Jvm.Cond.static ({ cls := "BlueBagLaw", name := "rest", desc := "(LBlueBag;IZ[J)I" } : Jvm.MethodName)), (Jvm.Cond.methodLink "BlueBagLaw" (27 : Nat) ({ cls := "BlueBag", name := "rest", desc := "(IZ)Z" } : Jvm.MethodName)), (Jvm.Cond.instanceMethod ({ cls := "BlueBag", name := "rest", desc := "(IZ)Z" } : Jvm.MethodName)), (Jvm.Cond.selects "BlueBag" ({ cls := "BlueBag", name := "rest", desc := "(IZ)Z" } : Jvm.MethodName) ({ cls := "BlueBag", name := "rest", desc := "(IZ)Z" } : Jvm.MethodName)), (Jvm.Cond.methodLink "BlueBagLaw" (137 : Nat) ({ cls := "BlueBagLaw", name := "go", desc := "(LBlueBag;II[J)I" } : Jvm.MethodName)), (Jvm.Cond.static ({ cls := "BlueBagLaw", name := "go", desc := "(LBlueBag;II[J)I" } : Jvm.MethodName)), (Jvm.Cond.methodLink "BlueBagLaw" (31 : Nat) ({ cls := "BlueBag", name := "go", desc := "(II)I" } : Jvm.MethodName)), (Jvm.Cond.instanceMethod ({ cls := "BlueBag", name := "go", desc := "(II)I" } : Jvm.MethodName)), (Jvm.Cond.selects "BlueBag" ({ cls := "BlueBag", name := "go", desc := "(II)I" } : Jvm.MethodName) ({ cls := "BlueBag", name := "go", desc := "(II)I" } : Jvm.MethodName)), (Jvm.Cond.methodLink "BlueBag" (231 : Nat) ({ cls := "BlueBag$Sky", name := "setSpot", desc := "(II)V" } : Jvm.MethodName)), (Jvm.Cond.methodLink "BlueBagLaw" (144 : Nat) ({ cls := "BlueBagLaw", name := "peg", desc := "(LBlueBag;IZ[J)I" } : Jvm.MethodName)), (Jvm.Cond.static ({ cls := "BlueBagLaw", name := "peg", desc := "(LBlueBag;IZ[J)I" } : Jvm.MethodName)), (Jvm.Cond.methodLink "BlueBagLaw" (34 : Nat) ({ cls := "BlueBag", name := "peg", desc := "(IZ)I" } : Jvm.MethodName)), (Jvm.Cond.instanceMethod ({ cls := "BlueBag", name := "peg", desc := "(IZ)I" } : Jvm.MethodName)), (Jvm.Cond.selects "BlueBag" ({ cls := "BlueBag", name := "peg", desc := "(IZ)I" } : Jvm.MethodName) ({ cls := "BlueBag", name := "peg", desc := "(IZ)I" } : Jvm.MethodName)), (Jvm.Cond.methodLink "BlueBag" (238 : Nat) ({ cls := "BlueBag$Sky", name := "isPegged", desc := "(I)Z" } : Jvm.MethodName)), (Jvm.Cond.methodLink "BlueBag" (241 : Nat) ({ cls := "BlueBag$Sky", name := "setPeg", desc := "(IZ)V" } : Jvm.MethodName)), (Jvm.Cond.methodLink "BlueBagLaw" (151 : Nat) ({ cls := "BlueBagLaw", name := "then", desc := "(LBlueBag;II[J)I" } : Jvm.MethodName)), (Jvm.Cond.static ({ cls := "BlueBagLaw", name := "then", desc := "(LBlueBag;II[J)I" } : Jvm.MethodName)), (Jvm.Cond.methodLink "BlueBagLaw" (38 : Nat) ({ cls := "BlueBag", name := "then", desc := "(II)I" } : Jvm.MethodName)), (Jvm.Cond.instanceMethod ({ cls := "BlueBag", name := "then", desc := "(II)I" } : Jvm.MethodName)), (Jvm.Cond.selects "BlueBag" ({ cls := "BlueBag", name := "then", desc := "(II)I" } : Jvm.MethodName) ({ cls := "BlueBag", name := "then", desc := "(II)I" } : Jvm.MethodName)), (Jvm.Cond.methodLink "BlueBag" (248 : Nat) ({ cls := "BlueBag", name := "needWithin", desc := "(III)V" } : Jvm.MethodName)), (Jvm.Cond.instanceMethod ({ cls := "BlueBag", name := "needWithin", desc := "(III)V" } : Jvm.MethodName)), (Jvm.Cond.methodLink "BlueBagLaw" (154 : Nat) ({ cls := "BlueBagLaw", name := "sky", desc := "(LBlueBag;II[J)I" } : Jvm.MethodName)), (Jvm.Cond.static ({ cls := "BlueBagLaw", name := "sky", desc := "(LBlueBag;II[J)I" } : Jvm.MethodName)), (Jvm.Cond.methodLink "BlueBagLaw" (41 : Nat) ({ cls := "BlueBag", name := "sky", desc := "(II)I" } : Jvm.MethodName)), (Jvm.Cond.instanceMethod ({ cls := "BlueBag", name := "sky", desc := "(II)I" } : Jvm.MethodName)), (Jvm.Cond.selects "BlueBag" ({ cls := "BlueBag", name := "sky", desc := "(II)I" } : Jvm.MethodName) ({ cls := "BlueBag", name := "sky", desc := "(II)I" } : Jvm.MethodName)), (Jvm.Cond.methodLink "BlueBag" (255 : Nat) ({ cls := "BlueBag", name := "needWhat", desc := "(II)V" } : Jvm.MethodName)), (Jvm.Cond.instanceMethod ({ cls := "BlueBag", name := "needWhat", desc := "(II)V" } : Jvm.MethodName)), (Jvm.Cond.methodLink "BlueBag" (261 : Nat) ({ cls := "BlueBag$Sky", name := "deepest", desc := "()I" } : Jvm.MethodName)), (Jvm.Cond.methodLink "BlueBag" (264 : Nat) ({ cls := "BlueBag$Sky", name := "palest", desc := "()I" } : Jvm.MethodName)), (Jvm.Cond.methodLink "BlueBagLaw" (157 : Nat) ({ cls := "BlueBagLaw", name := "overdone", desc := "(LBlueBag;I[J)I" } : Jvm.MethodName)), (Jvm.Cond.static ({ cls := "BlueBagLaw", name := "overdone", desc := "(LBlueBag;I[J)I" } : Jvm.MethodName)), (Jvm.Cond.methodLink "BlueBagLaw" (44 : Nat) ({ cls := "BlueBag", name := "overdone", desc := "(I)I" } : Jvm.MethodName)), (Jvm.Cond.instanceMethod ({ cls := "BlueBag", name := "overdone", desc := "(I)I" } : Jvm.MethodName)), (Jvm.Cond.selects "BlueBag" ({ cls := "BlueBag", name := "overdone", desc := "(I)I" } : Jvm.MethodName) ({ cls := "BlueBag", name := "overdone", desc := "(I)I" } : Jvm.MethodName)), (Jvm.Cond.methodLink "BlueBagLaw" (160 : Nat) ({ cls := "BlueBagLaw", name := "first", desc := "(LBlueBag;I[J)I" } : Jvm.MethodName)), (Jvm.Cond.static ({ cls := "BlueBagLaw", name := "first", desc := "(LBlueBag;I[J)I" } : Jvm.MethodName)), (Jvm.Cond.methodLink "BlueBagLaw" (47 : Nat) ({ cls := "BlueBag", name := "first", desc := "(I)I" } : Jvm.MethodName)), (Jvm.Cond.instanceMethod ({ cls := "BlueBag", name := "first", desc := "(I)I" } : Jvm.MethodName)), (Jvm.Cond.selects "BlueBag" ({ cls := "BlueBag", name := "first", desc := "(I)I" } : Jvm.MethodName) ({ cls := "BlueBag", name := "first", desc := "(I)I" } : Jvm.MethodName)), (Jvm.Cond.methodLink "BlueBagLaw" (167 : Nat) ({ cls := "BlueBagLaw", name := "streak", desc := "(LBlueBag;I[J)I" } : Jvm.MethodName)), (Jvm.Cond.static ({ cls := "BlueBagLaw", name := "streak", desc := "(LBlueBag;I[J)I" } : Jvm.MethodName)), (Jvm.Cond.methodLink "BlueBagLaw" (50 : Nat) ({ cls := "BlueBag", name := "streak", desc := "(I)I" } : Jvm.MethodName)), (Jvm.Cond.instanceMethod ({ cls := "BlueBag", name := "streak", desc := "(I)I" } : Jvm.MethodName)), (Jvm.Cond.selects "BlueBag" ({ cls := "BlueBag", name := "streak", desc := "(I)I" } : Jvm.MethodName) ({ cls := "BlueBag", name := "streak", desc := "(I)I" } : Jvm.MethodName)), (Jvm.Cond.methodLink "BlueBag" (280 : Nat) ({ cls := "BlueBag$Sky", name := "runFrom", desc := "(I)I" } : Jvm.MethodName)), (Jvm.Cond.instanceMethod ({ cls := "BlueBag$Sky", name := "runFrom", desc := "(I)I" } : Jvm.MethodName)), (Jvm.Cond.selects "BlueBag$Sky" ({ cls := "BlueBag$Sky", name := "runFrom", desc := "(I)I" } : Jvm.MethodName) ({ cls := "BlueBag$Sky", name := "runFrom", desc := "(I)I" } : Jvm.MethodName)), (Jvm.Cond.methodLink "BlueBagLaw" (170 : Nat) ({ cls := "BlueBagLaw", name := "patch", desc := "(LBlueBag;II[J)I" } : Jvm.MethodName)), (Jvm.Cond.static ({ cls := "BlueBagLaw", name := "patch", desc := "(LBlueBag;II[J)I" } : Jvm.MethodName)), (Jvm.Cond.methodLink "BlueBagLaw" (53 : Nat) ({ cls := "BlueBag", name := "patch", desc := "(II)I" } : Jvm.MethodName)), (Jvm.Cond.instanceMethod ({ cls := "BlueBag", name := "patch", desc := "(II)I" } : Jvm.MethodName)), (Jvm.Cond.selects "BlueBag" ({ cls := "BlueBag", name := "patch", desc := "(II)I" } : Jvm.MethodName) ({ cls := "BlueBag", name := "patch", desc := "(II)I" } : Jvm.MethodName)), (Jvm.Cond.methodLink "BlueBagLaw" (173 : Nat) ({ cls := "BlueBagLaw", name := "patches", desc := "(LBlueBag;I[J)I" } : Jvm.MethodName)), (Jvm.Cond.static ({ cls := "BlueBagLaw", name := "patches", desc := "(LBlueBag;I[J)I" } : Jvm.MethodName)), (Jvm.Cond.methodLink "BlueBagLaw" (56 : Nat) ({ cls := "BlueBag", name := "patches", desc := "(I)I" } : Jvm.MethodName))]
set_option maxRecDepth 100000 in
theorem sb_17 : isSub nd_17 ((tables_1_5).drop 79) = true := by decide +kernel
theorem im_17 {i : Nat} {w : Cond} (h : nd_17[i]? = some w) : w ∈ lw_tbl := tin_5 (List.mem_of_mem_drop (isSub_mem _ _ sb_17 w (List.mem_of_getElem? h)))
def nd_18 : List Cond := [(Jvm.Cond.instanceMethod ({ cls := "BlueBag", name := "patches", desc := "(I)I" } : Jvm.MethodName)), (Jvm.Cond.selects "BlueBag" ({ cls := "BlueBag", name := "patches", desc := "(I)I" } : Jvm.MethodName) ({ cls := "BlueBag", name := "patches", desc := "(I)I" } : Jvm.MethodName)), (Jvm.Cond.methodLink "BlueBagLaw" (176 : Nat) ({ cls := "BlueBagLaw", name := "way", desc := "(LBlueBag;II[J)I" } : Jvm.MethodName)), (Jvm.Cond.static ({ cls := "BlueBagLaw", name := "way", desc := "(LBlueBag;II[J)I" } : Jvm.MethodName)), (Jvm.Cond.methodLink "BlueBagLaw" (59 : Nat) ({ cls := "BlueBag", name := "way", desc := "(II)I" } : Jvm.MethodName)), (Jvm.Cond.instanceMethod ({ cls := "BlueBag", name := "way", desc := "(II)I" } : Jvm.MethodName)), (Jvm.Cond.selects "BlueBag" ({ cls := "BlueBag", name := "way", desc := "(II)I" } : Jvm.MethodName) ({ cls := "BlueBag", name := "way", desc := "(II)I" } : Jvm.MethodName)), (Jvm.Cond.methodLink "BlueBag" (283 : Nat) ({ cls := "BlueBag$Sky", name := "wayBetween", desc := "(II)I" } : Jvm.MethodName)), (Jvm.Cond.instanceMethod ({ cls := "BlueBag$Sky", name := "wayBetween", desc := "(II)I" } : Jvm.MethodName)), (Jvm.Cond.selects "BlueBag$Sky" ({ cls := "BlueBag$Sky", name := "wayBetween", desc := "(II)I" } : Jvm.MethodName) ({ cls := "BlueBag$Sky", name := "wayBetween", desc := "(II)I" } : Jvm.MethodName)), (Jvm.Cond.methodLink "BlueBagLaw" (183 : Nat) ({ cls := "BlueBagLaw", name := "toStand", desc := "(LBlueBag;II[J)I" } : Jvm.MethodName)), (Jvm.Cond.static ({ cls := "BlueBagLaw", name := "toStand", desc := "(LBlueBag;II[J)I" } : Jvm.MethodName)), (Jvm.Cond.methodLink "BlueBagLaw" (62 : Nat) ({ cls := "BlueBag", name := "toStand", desc := "(II)I" } : Jvm.MethodName)), (Jvm.Cond.instanceMethod ({ cls := "BlueBag", name := "toStand", desc := "(II)I" } : Jvm.MethodName)), (Jvm.Cond.selects "BlueBag" ({ cls := "BlueBag", name := "toStand", desc := "(II)I" } : Jvm.MethodName) ({ cls := "BlueBag", name := "toStand", desc := "(II)I" } : Jvm.MethodName)), (Jvm.Cond.constant "BlueBag" (289 : Nat) (1000000 : Int32)), (Jvm.Cond.methodLink "BlueBagLaw" (186 : Nat) ({ cls := "BlueBagLaw", name := "toSwish", desc := "(LBlueBag;II[J)I" } : Jvm.MethodName)), (Jvm.Cond.static ({ cls := "BlueBagLaw", name := "toSwish", desc := "(LBlueBag;II[J)I" } : Jvm.MethodName)), (Jvm.Cond.methodLink "BlueBagLaw" (65 : Nat) ({ cls := "BlueBag", name := "toSwish", desc := "(II)I" } : Jvm.MethodName)), (Jvm.Cond.instanceMethod ({ cls := "BlueBag", name := "toSwish", desc := "(II)I" } : Jvm.MethodName)), (Jvm.Cond.selects "BlueBag" ({ cls := "BlueBag", name := "toSwish", desc := "(II)I" } : Jvm.MethodName) ({ cls := "BlueBag", name := "toSwish", desc := "(II)I" } : Jvm.MethodName)), (Jvm.Cond.methodLink "BlueBag" (293 : Nat) ({ cls := "BlueBag$Sky", name := "swish", desc := "(II)V" } : Jvm.MethodName)), (Jvm.Cond.methodLink "BlueBagLaw" (189 : Nat) ({ cls := "BlueBagLaw", name := "sent", desc := "(LBlueBag;II[J)I" } : Jvm.MethodName)), (Jvm.Cond.static ({ cls := "BlueBagLaw", name := "sent", desc := "(LBlueBag;II[J)I" } : Jvm.MethodName)), (Jvm.Cond.methodLink "BlueBagLaw" (68 : Nat) ({ cls := "BlueBag", name := "sent", desc := "(II)I" } : Jvm.MethodName)), (Jvm.Cond.instanceMethod ({ cls := "BlueBag", name := "sent", desc := "(II)I" } : Jvm.MethodName)), (Jvm.Cond.selects "BlueBag" ({ cls := "BlueBag", name := "sent", desc := "(II)I" } : Jvm.MethodName) ({ cls := "BlueBag", name := "sent", desc := "(II)I" } : Jvm.MethodName)), (Jvm.Cond.methodLink "BlueBag" (296 : Nat) ({ cls := "java/lang/Integer", name := "bitCount", desc := "(I)I" } : Jvm.MethodName)), (Jvm.Cond.methodLink "BlueBag" (301 : Nat) ({ cls := "BlueBag$Sending", name := "find", desc := "(I)Z" } : Jvm.MethodName)), (Jvm.Cond.instanceMethod ({ cls := "BlueBag$Sending", name := "find", desc := "(I)Z" } : Jvm.MethodName)), (Jvm.Cond.selects "BlueBag$Sending" ({ cls := "BlueBag$Sending", name := "find", desc := "(I)Z" } : Jvm.MethodName) ({ cls := "BlueBag$Sending", name := "find", desc := "(I)Z" } : Jvm.MethodName)), (Jvm.Cond.constant "BlueBag$Sending" (40 : Nat) (1000000 : Int32)), (Jvm.Cond.methodLink "BlueBag$Sending" (44 : Nat) ({ cls := "BlueBag$Sending", name := "fill", desc := "(III)V" } : Jvm.MethodName)), (Jvm.Cond.instanceMethod ({ cls := "BlueBag$Sending", name := "fill", desc := "(III)V" } : Jvm.MethodName)), (Jvm.Cond.methodLink "BlueBag$Sending" (48 : Nat) ({ cls := "java/lang/System", name := "arraycopy", desc := "(Ljava/lang/Object;ILjava/lang/Object;II)V" } : Jvm.MethodName)), (Jvm.Cond.methodLink "BlueBag$Sending" (54 : Nat) ({ cls := "BlueBag$Sky", name := "spotOf", desc := "(I)I" } : Jvm.MethodName)), (Jvm.Cond.methodLink "BlueBag$Sending" (58 : Nat) ({ cls := "BlueBag$Coast", name := "stepsBetween", desc := "(II)I" } : Jvm.MethodName)), (Jvm.Cond.instanceMethod ({ cls := "BlueBag$Coast", name := "stepsBetween", desc := "(II)I" } : Jvm.MethodName)), (Jvm.Cond.selects "BlueBag$Coast" ({ cls := "BlueBag$Coast", name := "stepsBetween", desc := "(II)I" } : Jvm.MethodName) ({ cls := "BlueBag$Coast", name := "stepsBetween", desc := "(II)I" } : Jvm.MethodName)), (Jvm.Cond.methodLink "BlueBag$Coast" (69 : Nat) ({ cls := "BlueBag$Coast", name := "rowOf", desc := "(I)I" } : Jvm.MethodName)), (Jvm.Cond.methodLink "BlueBag$Coast" (72 : Nat) ({ cls := "java/lang/Math", name := "abs", desc := "(I)I" } : Jvm.MethodName)), (Jvm.Cond.methodLink "BlueBag" (307 : Nat) ({ cls := "BlueBag$Sending", name := "girlFor", desc := "(I)I" } : Jvm.MethodName)), (Jvm.Cond.instanceMethod ({ cls := "BlueBag$Sending", name := "girlFor", desc := "(I)I" } : Jvm.MethodName)), (Jvm.Cond.selects "BlueBag$Sending" ({ cls := "BlueBag$Sending", name := "girlFor", desc := "(I)I" } : Jvm.MethodName) ({ cls := "BlueBag$Sending", name := "girlFor", desc := "(I)I" } : Jvm.MethodName)), (Jvm.Cond.methodLink "BlueBagLaw" (192 : Nat) ({ cls := "BlueBagLaw", name := "band", desc := "(LBlueBag;I[J)I" } : Jvm.MethodName)), (Jvm.Cond.static ({ cls := "BlueBagLaw", name := "band", desc := "(LBlueBag;I[J)I" } : Jvm.MethodName)), (Jvm.Cond.methodLink "BlueBagLaw" (71 : Nat) ({ cls := "BlueBag", name := "band", desc := "(I)I" } : Jvm.MethodName)), (Jvm.Cond.instanceMethod ({ cls := "BlueBag", name := "band", desc := "(I)I" } : Jvm.MethodName)), (Jvm.Cond.selects "BlueBag" ({ cls := "BlueBag", name := "band", desc := "(I)I" } : Jvm.MethodName) ({ cls := "BlueBag", name := "band", desc := "(I)I" } : Jvm.MethodName)), (Jvm.Cond.methodLink "BlueBag" (273 : Nat) ({ cls := "BlueBag$Sky", name := "rowBlue", desc := "(I)I" } : Jvm.MethodName)), (Jvm.Cond.instanceMethod ({ cls := "BlueBag$Sky", name := "rowBlue", desc := "(I)I" } : Jvm.MethodName)), (Jvm.Cond.selects "BlueBag$Sky" ({ cls := "BlueBag$Sky", name := "rowBlue", desc := "(I)I" } : Jvm.MethodName) ({ cls := "BlueBag$Sky", name := "rowBlue", desc := "(I)I" } : Jvm.MethodName)), (Jvm.Cond.methodLink "BlueBagLaw" (199 : Nat) ({ cls := "BlueBagLaw", name := "steps", desc := "(LBlueBag;II[J)I" } : Jvm.MethodName)), (Jvm.Cond.static ({ cls := "BlueBagLaw", name := "steps", desc := "(LBlueBag;II[J)I" } : Jvm.MethodName)), (Jvm.Cond.methodLink "BlueBagLaw" (74 : Nat) ({ cls := "BlueBag", name := "steps", desc := "(II)I" } : Jvm.MethodName)), (Jvm.Cond.instanceMethod ({ cls := "BlueBag", name := "steps", desc := "(II)I" } : Jvm.MethodName)), (Jvm.Cond.selects "BlueBag" ({ cls := "BlueBag", name := "steps", desc := "(II)I" } : Jvm.MethodName) ({ cls := "BlueBag", name := "steps", desc := "(II)I" } : Jvm.MethodName))]
set_option maxRecDepth 100000 in
theorem sb_18 : isSub nd_18 ((tables_1_5).drop 163) = true := by decide +kernel
theorem im_18 {i : Nat} {w : Cond} (h : nd_18[i]? = some w) : w ∈ lw_tbl := tin_5 (List.mem_of_mem_drop (isSub_mem _ _ sb_18 w (List.mem_of_getElem? h)))
set_option maxRecDepth 100000 in
theorem cw_1310 : (Jvm.Cond.codeWith ({ cls := "BlueBagLaw", name := "nearest", desc := "(LBlueBag;I[J)I" } : Jvm.MethodName) method_23_code (4 : Nat) (Option.some Jvm.ClassFile.FieldType.int) [((0 : Nat), (9 : Nat), (12 : Nat), (18 : Nat))]) ∈ lw_tbl := tin_6 (List.mem_of_getElem? (i := 3) rfl)
set_option maxRecDepth 100000 in
theorem cw_1314 : (Jvm.Cond.code ({ cls := "BlueBag", name := "nearest", desc := "(I)I" } : Jvm.MethodName) prog_1_method_26_code (6 : Nat) (Option.some Jvm.ClassFile.FieldType.int)) ∈ lw_tbl := tin_6 (List.mem_of_getElem? (i := 7) rfl)
set_option maxRecDepth 100000 in
theorem cw_1317 : (Jvm.Cond.codeWith ({ cls := "BlueBagLaw", name := "missed", desc := "(LBlueBag;I[J)I" } : Jvm.MethodName) method_24_code (4 : Nat) (Option.some Jvm.ClassFile.FieldType.int) [((0 : Nat), (9 : Nat), (12 : Nat), (18 : Nat))]) ∈ lw_tbl := tin_6 (List.mem_of_getElem? (i := 10) rfl)
set_option maxRecDepth 100000 in
theorem cw_1321 : (Jvm.Cond.code ({ cls := "BlueBag", name := "missed", desc := "(I)I" } : Jvm.MethodName) prog_1_method_31_code (3 : Nat) (Option.some Jvm.ClassFile.FieldType.int)) ∈ lw_tbl := tin_6 (List.mem_of_getElem? (i := 14) rfl)
set_option maxRecDepth 100000 in
theorem cw_1324 : (Jvm.Cond.codeWith ({ cls := "BlueBagLaw", name := "see", desc := "(LBlueBag;III[J)I" } : Jvm.MethodName) method_25_code (6 : Nat) (Option.some Jvm.ClassFile.FieldType.int) [((0 : Nat), (12 : Nat), (15 : Nat), (18 : Nat))]) ∈ lw_tbl := tin_6 (List.mem_of_getElem? (i := 17) rfl)
set_option maxRecDepth 100000 in
theorem cw_1328 : (Jvm.Cond.code ({ cls := "BlueBag", name := "see", desc := "(III)I" } : Jvm.MethodName) prog_1_method_32_code (4 : Nat) (Option.some Jvm.ClassFile.FieldType.int)) ∈ lw_tbl := tin_6 (List.mem_of_getElem? (i := 21) rfl)
set_option maxRecDepth 100000 in
theorem cw_1332 : (Jvm.Cond.code ({ cls := "BlueBag$Memory", name := "addSeen", desc := "(III)Z" } : Jvm.MethodName) prog_6_method_7_code (4 : Nat) (Option.some Jvm.ClassFile.FieldType.boolean)) ∈ lw_tbl := tin_6 (List.mem_of_getElem? (i := 25) rfl)
set_option maxRecDepth 100000 in
theorem cw_1335 : (Jvm.Cond.codeWith ({ cls := "BlueBagLaw", name := "skilled", desc := "(LBlueBag;I[J)I" } : Jvm.MethodName) method_26_code (4 : Nat) (Option.some Jvm.ClassFile.FieldType.int) [((0 : Nat), (9 : Nat), (12 : Nat), (18 : Nat))]) ∈ lw_tbl := tin_6 (List.mem_of_getElem? (i := 28) rfl)
set_option maxRecDepth 100000 in
theorem cw_1339 : (Jvm.Cond.code ({ cls := "BlueBag", name := "skilled", desc := "(I)I" } : Jvm.MethodName) prog_1_method_33_code (6 : Nat) (Option.some Jvm.ClassFile.FieldType.int)) ∈ lw_tbl := tin_6 (List.mem_of_getElem? (i := 32) rfl)
set_option maxRecDepth 100000 in
theorem cw_1343 : (Jvm.Cond.code ({ cls := "BlueBag", name := "wouldFit", desc := "(II)Z" } : Jvm.MethodName) prog_1_method_47_code (5 : Nat) (Option.some Jvm.ClassFile.FieldType.boolean)) ∈ lw_tbl := tin_6 (List.mem_of_getElem? (i := 36) rfl)
set_option maxRecDepth 100000 in
theorem cw_1348 : (Jvm.Cond.code ({ cls := "BlueBag$Memory", name := "lastSeenDay", desc := "()I" } : Jvm.MethodName) prog_6_method_8_code (3 : Nat) (Option.some Jvm.ClassFile.FieldType.int)) ∈ lw_tbl := tin_6 (List.mem_of_getElem? (i := 41) rfl)
set_option maxRecDepth 100000 in
theorem cw_1353 : (Jvm.Cond.code ({ cls := "BlueBag$Memory", name := "fitsSeen", desc := "(LBlueBag$Sky;I)Z" } : Jvm.MethodName) prog_6_method_9_code (4 : Nat) (Option.some Jvm.ClassFile.FieldType.boolean)) ∈ lw_tbl := tin_6 (List.mem_of_getElem? (i := 46) rfl)
set_option maxRecDepth 100000 in
theorem cw_1357 : (Jvm.Cond.codeWith ({ cls := "BlueBagLaw", name := "look", desc := "(LBlueBag;I[J)I" } : Jvm.MethodName) method_27_code (4 : Nat) (Option.some Jvm.ClassFile.FieldType.int) [((0 : Nat), (9 : Nat), (12 : Nat), (18 : Nat))]) ∈ lw_tbl := tin_6 (List.mem_of_getElem? (i := 50) rfl)
set_option maxRecDepth 100000 in
theorem cw_1361 : (Jvm.Cond.code ({ cls := "BlueBag", name := "look", desc := "(I)I" } : Jvm.MethodName) prog_1_method_34_code (6 : Nat) (Option.some Jvm.ClassFile.FieldType.int)) ∈ lw_tbl := tin_6 (List.mem_of_getElem? (i := 54) rfl)
set_option maxRecDepth 100000 in
theorem cw_1365 : (Jvm.Cond.code ({ cls := "BlueBag", name := "clearBlues", desc := "()V" } : Jvm.MethodName) prog_1_method_48_code (2 : Nat) (Option.none : Option Jvm.ClassFile.FieldType)) ∈ lw_tbl := tin_6 (List.mem_of_getElem? (i := 58) rfl)
set_option maxRecDepth 100000 in
theorem cw_1369 : (Jvm.Cond.code ({ cls := "BlueBag", name := "gatherBlues", desc := "(II)V" } : Jvm.MethodName) prog_1_method_49_code (5 : Nat) (Option.none : Option Jvm.ClassFile.FieldType)) ∈ lw_tbl := tin_6 (List.mem_of_getElem? (i := 62) rfl)
set_option maxRecDepth 100000 in
theorem cw_1373 : (Jvm.Cond.code ({ cls := "BlueBag", name := "unlikeBlues", desc := "(I)I" } : Jvm.MethodName) prog_1_method_50_code (2 : Nat) (Option.some Jvm.ClassFile.FieldType.int)) ∈ lw_tbl := tin_6 (List.mem_of_getElem? (i := 66) rfl)
set_option maxRecDepth 100000 in
theorem cw_1376 : (Jvm.Cond.code ({ cls := "java/lang/Long", name := "bitCount", desc := "(J)I" } : Jvm.MethodName) prog_21_method_50_code (2 : Nat) (Option.some Jvm.ClassFile.FieldType.int)) ∈ lw_tbl := tin_6 (List.mem_of_getElem? (i := 69) rfl)
set_option maxRecDepth 100000 in
theorem cw_1382 : (Jvm.Cond.codeWith ({ cls := "BlueBagLaw", name := "game", desc := "(LBlueBag;III[J)I" } : Jvm.MethodName) method_28_code (6 : Nat) (Option.some Jvm.ClassFile.FieldType.int) [((0 : Nat), (12 : Nat), (15 : Nat), (18 : Nat)), ((0 : Nat), (12 : Nat), (19 : Nat), (13 : Nat))]) ∈ lw_tbl := tin_6 (List.mem_of_getElem? (i := 75) rfl)
set_option maxRecDepth 100000 in
theorem cw_1386 : (Jvm.Cond.code ({ cls := "BlueBag", name := "game", desc := "(III)I" } : Jvm.MethodName) prog_1_method_36_code (9 : Nat) (Option.some Jvm.ClassFile.FieldType.int)) ∈ lw_tbl := tin_6 (List.mem_of_getElem? (i := 79) rfl)
set_option maxRecDepth 100000 in
theorem cw_1390 : (Jvm.Cond.code ({ cls := "BlueBag", name := "playAll", desc := "(II)V" } : Jvm.MethodName) prog_1_method_51_code (6 : Nat) (Option.none : Option Jvm.ClassFile.FieldType)) ∈ lw_tbl := tin_6 (List.mem_of_getElem? (i := 83) rfl)
set_option maxRecDepth 100000 in
theorem cw_1394 : (Jvm.Cond.code ({ cls := "BlueBag", name := "gainAt", desc := "(III)I" } : Jvm.MethodName) prog_1_method_52_code (5 : Nat) (Option.some Jvm.ClassFile.FieldType.int)) ∈ lw_tbl := tin_6 (List.mem_of_getElem? (i := 87) rfl)
set_option maxRecDepth 100000 in
theorem cw_1397 : (Jvm.Cond.codeWith ({ cls := "BlueBagLaw", name := "skies", desc := "(LBlueBag;III[J)I" } : Jvm.MethodName) method_29_code (6 : Nat) (Option.some Jvm.ClassFile.FieldType.int) [((0 : Nat), (12 : Nat), (15 : Nat), (18 : Nat)), ((0 : Nat), (12 : Nat), (19 : Nat), (13 : Nat))]) ∈ lw_tbl := tin_6 (List.mem_of_getElem? (i := 90) rfl)
set_option maxRecDepth 100000 in
theorem cw_1401 : (Jvm.Cond.code ({ cls := "BlueBag", name := "skies", desc := "(III)I" } : Jvm.MethodName) prog_1_method_37_code (5 : Nat) (Option.some Jvm.ClassFile.FieldType.int)) ∈ lw_tbl := tin_6 (List.mem_of_getElem? (i := 94) rfl)
set_option maxRecDepth 100000 in
theorem cw_1405 : (Jvm.Cond.code ({ cls := "BlueBag", name := "drawAhead", desc := "()V" } : Jvm.MethodName) prog_1_method_53_code (2 : Nat) (Option.none : Option Jvm.ClassFile.FieldType)) ∈ lw_tbl := tin_6 (List.mem_of_getElem? (i := 98) rfl)
set_option maxRecDepth 100000 in
theorem cw_1409 : (Jvm.Cond.code ({ cls := "BlueBag$Dice", name := "draw", desc := "(I)I" } : Jvm.MethodName) prog_5_method_2_code (3 : Nat) (Option.some Jvm.ClassFile.FieldType.int)) ∈ lw_tbl := tin_6 (List.mem_of_getElem? (i := 102) rfl)
set_option maxRecDepth 100000 in
theorem cw_1416 : (Jvm.Cond.code ({ cls := "BlueBagModel", name := "<init>", desc := "()V" } : Jvm.MethodName) prog_14_method_1_code (1 : Nat) (Option.none : Option Jvm.ClassFile.FieldType)) ∈ lw_tbl := tin_6 (List.mem_of_getElem? (i := 109) rfl)
set_option maxRecDepth 100000 in
theorem cw_1431 : (Jvm.Cond.code ({ cls := "BlueBagModel", name := "begin", desc := "(I)V" } : Jvm.MethodName) prog_14_method_2_code (3 : Nat) (Option.none : Option Jvm.ClassFile.FieldType)) ∈ lw_tbl := tin_6 (List.mem_of_getElem? (i := 124) rfl)
def nd_19 : List Cond := [(Jvm.Cond.methodLink "BlueBag" (286 : Nat) ({ cls := "BlueBag$Coast", name := "stepsBetween", desc := "(II)I" } : Jvm.MethodName)), (Jvm.Cond.methodLink "BlueBagLaw" (202 : Nat) ({ cls := "BlueBagLaw", name := "nearest", desc := "(LBlueBag;I[J)I" } : Jvm.MethodName)), (Jvm.Cond.static ({ cls := "BlueBagLaw", name := "nearest", desc := "(LBlueBag;I[J)I" } : Jvm.MethodName)), (Jvm.Cond.methodLink "BlueBagLaw" (77 : Nat) ({ cls := "BlueBag", name := "nearest", desc := "(I)I" } : Jvm.MethodName)), (Jvm.Cond.instanceMethod ({ cls := "BlueBag", name := "nearest", desc := "(I)I" } : Jvm.MethodName)), (Jvm.Cond.selects "BlueBag" ({ cls := "BlueBag", name := "nearest", desc := "(I)I" } : Jvm.MethodName) ({ cls := "BlueBag", name := "nearest", desc := "(I)I" } : Jvm.MethodName)), (Jvm.Cond.methodLink "BlueBagLaw" (205 : Nat) ({ cls := "BlueBagLaw", name := "missed", desc := "(LBlueBag;I[J)I" } : Jvm.MethodName)), (Jvm.Cond.static ({ cls := "BlueBagLaw", name := "missed", desc := "(LBlueBag;I[J)I" } : Jvm.MethodName)), (Jvm.Cond.methodLink "BlueBagLaw" (80 : Nat) ({ cls := "BlueBag", name := "missed", desc := "(I)I" } : Jvm.MethodName)), (Jvm.Cond.instanceMethod ({ cls := "BlueBag", name := "missed", desc := "(I)I" } : Jvm.MethodName)), (Jvm.Cond.selects "BlueBag" ({ cls := "BlueBag", name := "missed", desc := "(I)I" } : Jvm.MethodName) ({ cls := "BlueBag", name := "missed", desc := "(I)I" } : Jvm.MethodName)), (Jvm.Cond.methodLink "BlueBagLaw" (208 : Nat) ({ cls := "BlueBagLaw", name := "see", desc := "(LBlueBag;III[J)I" } : Jvm.MethodName)), (Jvm.Cond.static ({ cls := "BlueBagLaw", name := "see", desc := "(LBlueBag;III[J)I" } : Jvm.MethodName)), (Jvm.Cond.methodLink "BlueBagLaw" (83 : Nat) ({ cls := "BlueBag", name := "see", desc := "(III)I" } : Jvm.MethodName)), (Jvm.Cond.instanceMethod ({ cls := "BlueBag", name := "see", desc := "(III)I" } : Jvm.MethodName)), (Jvm.Cond.selects "BlueBag" ({ cls := "BlueBag", name := "see", desc := "(III)I" } : Jvm.MethodName) ({ cls := "BlueBag", name := "see", desc := "(III)I" } : Jvm.MethodName)), (Jvm.Cond.methodLink "BlueBag" (310 : Nat) ({ cls := "BlueBag$Memory", name := "addSeen", desc := "(III)Z" } : Jvm.MethodName)), (Jvm.Cond.instanceMethod ({ cls := "BlueBag$Memory", name := "addSeen", desc := "(III)Z" } : Jvm.MethodName)), (Jvm.Cond.selects "BlueBag$Memory" ({ cls := "BlueBag$Memory", name := "addSeen", desc := "(III)Z" } : Jvm.MethodName) ({ cls := "BlueBag$Memory", name := "addSeen", desc := "(III)Z" } : Jvm.MethodName)), (Jvm.Cond.methodLink "BlueBagLaw" (212 : Nat) ({ cls := "BlueBagLaw", name := "skilled", desc := "(LBlueBag;I[J)I" } : Jvm.MethodName)), (Jvm.Cond.static ({ cls := "BlueBagLaw", name := "skilled", desc := "(LBlueBag;I[J)I" } : Jvm.MethodName)), (Jvm.Cond.methodLink "BlueBagLaw" (87 : Nat) ({ cls := "BlueBag", name := "skilled", desc := "(I)I" } : Jvm.MethodName)), (Jvm.Cond.instanceMethod ({ cls := "BlueBag", name := "skilled", desc := "(I)I" } : Jvm.MethodName)), (Jvm.Cond.selects "BlueBag" ({ cls := "BlueBag", name := "skilled", desc := "(I)I" } : Jvm.MethodName) ({ cls := "BlueBag", name := "skilled", desc := "(I)I" } : Jvm.MethodName)), (Jvm.Cond.methodLink "BlueBag" (314 : Nat) ({ cls := "BlueBag", name := "wouldFit", desc := "(II)Z" } : Jvm.MethodName)), (Jvm.Cond.instanceMethod ({ cls := "BlueBag", name := "wouldFit", desc := "(II)Z" } : Jvm.MethodName)), (Jvm.Cond.methodLink "BlueBag" (345 : Nat) ({ cls := "BlueBag$Sky", name := "setSkill", desc := "(II)V" } : Jvm.MethodName)), (Jvm.Cond.methodLink "BlueBag" (348 : Nat) ({ cls := "BlueBag$Memory", name := "lastSeenDay", desc := "()I" } : Jvm.MethodName)), (Jvm.Cond.instanceMethod ({ cls := "BlueBag$Memory", name := "lastSeenDay", desc := "()I" } : Jvm.MethodName)), (Jvm.Cond.selects "BlueBag$Memory" ({ cls := "BlueBag$Memory", name := "lastSeenDay", desc := "()I" } : Jvm.MethodName) ({ cls := "BlueBag$Memory", name := "lastSeenDay", desc := "()I" } : Jvm.MethodName)), (Jvm.Cond.methodLink "BlueBag$Memory" (63 : Nat) ({ cls := "java/lang/Math", name := "max", desc := "(II)I" } : Jvm.MethodName)), (Jvm.Cond.methodLink "BlueBag" (351 : Nat) ({ cls := "BlueBag$Memory", name := "fitsSeen", desc := "(LBlueBag$Sky;I)Z" } : Jvm.MethodName)), (Jvm.Cond.instanceMethod ({ cls := "BlueBag$Memory", name := "fitsSeen", desc := "(LBlueBag$Sky;I)Z" } : Jvm.MethodName)), (Jvm.Cond.selects "BlueBag$Memory" ({ cls := "BlueBag$Memory", name := "fitsSeen", desc := "(LBlueBag$Sky;I)Z" } : Jvm.MethodName) ({ cls := "BlueBag$Memory", name := "fitsSeen", desc := "(LBlueBag$Sky;I)Z" } : Jvm.MethodName)), (Jvm.Cond.methodLink "BlueBag$Memory" (69 : Nat) ({ cls := "BlueBag$Sky", name := "blueOf", desc := "(I)I" } : Jvm.MethodName)), (Jvm.Cond.methodLink "BlueBagLaw" (215 : Nat) ({ cls := "BlueBagLaw", name := "look", desc := "(LBlueBag;I[J)I" } : Jvm.MethodName)), (Jvm.Cond.static ({ cls := "BlueBagLaw", name := "look", desc := "(LBlueBag;I[J)I" } : Jvm.MethodName)), (Jvm.Cond.methodLink "BlueBagLaw" (90 : Nat) ({ cls := "BlueBag", name := "look", desc := "(I)I" } : Jvm.MethodName)), (Jvm.Cond.instanceMethod ({ cls := "BlueBag", name := "look", desc := "(I)I" } : Jvm.MethodName)), (Jvm.Cond.selects "BlueBag" ({ cls := "BlueBag", name := "look", desc := "(I)I" } : Jvm.MethodName) ({ cls := "BlueBag", name := "look", desc := "(I)I" } : Jvm.MethodName)), (Jvm.Cond.methodLink "BlueBag" (318 : Nat) ({ cls := "BlueBag", name := "clearBlues", desc := "()V" } : Jvm.MethodName)), (Jvm.Cond.instanceMethod ({ cls := "BlueBag", name := "clearBlues", desc := "()V" } : Jvm.MethodName)), (Jvm.Cond.methodLink "BlueBag" (321 : Nat) ({ cls := "BlueBag", name := "gatherBlues", desc := "(II)V" } : Jvm.MethodName)), (Jvm.Cond.instanceMethod ({ cls := "BlueBag", name := "gatherBlues", desc := "(II)V" } : Jvm.MethodName)), (Jvm.Cond.methodLink "BlueBag" (324 : Nat) ({ cls := "BlueBag", name := "unlikeBlues", desc := "(I)I" } : Jvm.MethodName)), (Jvm.Cond.instanceMethod ({ cls := "BlueBag", name := "unlikeBlues", desc := "(I)I" } : Jvm.MethodName)), (Jvm.Cond.methodLink "BlueBag" (355 : Nat) ({ cls := "java/lang/Long", name := "bitCount", desc := "(J)I" } : Jvm.MethodName)), (Jvm.Cond.static ({ cls := "java/lang/Long", name := "bitCount", desc := "(J)I" } : Jvm.MethodName)), (Jvm.Cond.constantLong "java/lang/Long" (314 : Nat) (6148914691236517205 : Int64)), (Jvm.Cond.constantLong "java/lang/Long" (316 : Nat) (3689348814741910323 : Int64)), (Jvm.Cond.constantLong "java/lang/Long" (318 : Nat) (1085102592571150095 : Int64)), (Jvm.Cond.methodLink "BlueBagLaw" (222 : Nat) ({ cls := "BlueBagLaw", name := "game", desc := "(LBlueBag;III[J)I" } : Jvm.MethodName)), (Jvm.Cond.static ({ cls := "BlueBagLaw", name := "game", desc := "(LBlueBag;III[J)I" } : Jvm.MethodName)), (Jvm.Cond.methodLink "BlueBagLaw" (93 : Nat) ({ cls := "BlueBag", name := "game", desc := "(III)I" } : Jvm.MethodName)), (Jvm.Cond.instanceMethod ({ cls := "BlueBag", name := "game", desc := "(III)I" } : Jvm.MethodName)), (Jvm.Cond.selects "BlueBag" ({ cls := "BlueBag", name := "game", desc := "(III)I" } : Jvm.MethodName) ({ cls := "BlueBag", name := "game", desc := "(III)I" } : Jvm.MethodName)), (Jvm.Cond.methodLink "BlueBag" (327 : Nat) ({ cls := "BlueBag", name := "playAll", desc := "(II)V" } : Jvm.MethodName)), (Jvm.Cond.instanceMethod ({ cls := "BlueBag", name := "playAll", desc := "(II)V" } : Jvm.MethodName)), (Jvm.Cond.methodLink "BlueBag" (330 : Nat) ({ cls := "BlueBag", name := "gainAt", desc := "(III)I" } : Jvm.MethodName)), (Jvm.Cond.instanceMethod ({ cls := "BlueBag", name := "gainAt", desc := "(III)I" } : Jvm.MethodName))]
set_option maxRecDepth 100000 in
theorem sb_19 : isSub nd_19 ((tables_1_6).drop 0) = true := by decide +kernel
theorem im_19 {i : Nat} {w : Cond} (h : nd_19[i]? = some w) : w ∈ lw_tbl := tin_6 (List.mem_of_mem_drop (isSub_mem _ _ sb_19 w (List.mem_of_getElem? h)))
def nd_20 : List Cond := [(Jvm.Cond.methodLink "BlueBagLaw" (225 : Nat) ({ cls := "BlueBagLaw", name := "skies", desc := "(LBlueBag;III[J)I" } : Jvm.MethodName)), (Jvm.Cond.static ({ cls := "BlueBagLaw", name := "skies", desc := "(LBlueBag;III[J)I" } : Jvm.MethodName)), (Jvm.Cond.methodLink "BlueBagLaw" (96 : Nat) ({ cls := "BlueBag", name := "skies", desc := "(III)I" } : Jvm.MethodName)), (Jvm.Cond.instanceMethod ({ cls := "BlueBag", name := "skies", desc := "(III)I" } : Jvm.MethodName)), (Jvm.Cond.selects "BlueBag" ({ cls := "BlueBag", name := "skies", desc := "(III)I" } : Jvm.MethodName) ({ cls := "BlueBag", name := "skies", desc := "(III)I" } : Jvm.MethodName)), (Jvm.Cond.methodLink "BlueBag" (337 : Nat) ({ cls := "BlueBag", name := "drawAhead", desc := "()V" } : Jvm.MethodName)), (Jvm.Cond.instanceMethod ({ cls := "BlueBag", name := "drawAhead", desc := "()V" } : Jvm.MethodName)), (Jvm.Cond.methodLink "BlueBag" (360 : Nat) ({ cls := "BlueBag$Dice", name := "draw", desc := "(I)I" } : Jvm.MethodName)), (Jvm.Cond.instanceMethod ({ cls := "BlueBag$Dice", name := "draw", desc := "(I)I" } : Jvm.MethodName)), (Jvm.Cond.selects "BlueBag$Dice" ({ cls := "BlueBag$Dice", name := "draw", desc := "(I)I" } : Jvm.MethodName) ({ cls := "BlueBag$Dice", name := "draw", desc := "(I)I" } : Jvm.MethodName)), (Jvm.Cond.constant "BlueBag$Dice" (13 : Nat) (1103515245 : Int32)), (Jvm.Cond.methodLink "BlueBag" (363 : Nat) ({ cls := "BlueBag$Sky", name := "addBlue", desc := "(II)V" } : Jvm.MethodName)), (Jvm.Cond.classLink "BlueBagLaw" (100 : Nat) "BlueBagModel"), (Jvm.Cond.instantiable "BlueBagModel" (64 : Nat)), (Jvm.Cond.methodLink "BlueBagLaw" (102 : Nat) ({ cls := "BlueBagModel", name := "<init>", desc := "()V" } : Jvm.MethodName)), (Jvm.Cond.instanceMethod ({ cls := "BlueBagModel", name := "<init>", desc := "()V" } : Jvm.MethodName)), (Jvm.Cond.methodLink "BlueBagModel" (3 : Nat) ({ cls := "java/lang/Object", name := "<init>", desc := "()V" } : Jvm.MethodName)), (Jvm.Cond.classLink "BlueBagModel" (9 : Nat) "java/lang/String"), (Jvm.Cond.arrayOver (Jvm.ClassFile.FieldType.object "java/lang/String")), (Jvm.Cond.methodLink "BlueBagModel" (143 : Nat) ({ cls := "BlueBagModel", name := "begin", desc := "(I)V" } : Jvm.MethodName)), (Jvm.Cond.instanceMethod ({ cls := "BlueBagModel", name := "begin", desc := "(I)V" } : Jvm.MethodName)), (Jvm.Cond.fieldLink "BlueBagModel" (15 : Nat) "BlueBagModel" "women" "[Ljava/lang/String;"), (Jvm.Cond.fieldLink "BlueBagModel" (31 : Nat) "BlueBagModel" "ofDyes" "[Ljava/lang/String;"), (Jvm.Cond.fieldLink "BlueBagModel" (34 : Nat) "BlueBagModel" "ofFades" "[Ljava/lang/String;"), (Jvm.Cond.fieldLink "BlueBagModel" (37 : Nat) "BlueBagModel" "values" "[Ljava/lang/String;"), (Jvm.Cond.fieldLink "BlueBagModel" (150 : Nat) "BlueBagModel" "code" "I"), (Jvm.Cond.fieldLink "BlueBagModel" (40 : Nat) "BlueBagModel" "told" "[I"), (Jvm.Cond.fieldLink "BlueBagModel" (44 : Nat) "BlueBagModel" "blueTold" "[I"), (Jvm.Cond.fieldLink "BlueBagModel" (47 : Nat) "BlueBagModel" "aged" "[I"), (Jvm.Cond.fieldLink "BlueBagModel" (50 : Nat) "BlueBagModel" "skillTold" "[I"), (Jvm.Cond.fieldLink "BlueBagModel" (53 : Nat) "BlueBagModel" "cellTold" "[I"), (Jvm.Cond.fieldLink "BlueBagModel" (56 : Nat) "BlueBagModel" "signsDyes" "[I"), (Jvm.Cond.fieldLink "BlueBagModel" (59 : Nat) "BlueBagModel" "signsFades" "[I"), (Jvm.Cond.fieldLink "BlueBagModel" (62 : Nat) "BlueBagModel" "status" "[I"), (Jvm.Cond.fieldLink "BlueBagModel" (65 : Nat) "BlueBagModel" "skills" "[I"), (Jvm.Cond.fieldLink "BlueBagModel" (68 : Nat) "BlueBagModel" "tape" "[I"), (Jvm.Cond.fieldLink "BlueBagModel" (161 : Nat) "BlueBagModel" "taped" "I"), (Jvm.Cond.fieldLink "BlueBagModel" (167 : Nat) "BlueBagModel" "at" "I"), (Jvm.Cond.fieldLink "BlueBagModel" (164 : Nat) "BlueBagModel" "size" "I"), (Jvm.Cond.fieldLink "BlueBagModel" (177 : Nat) "BlueBagModel" "token" "I"), (Jvm.Cond.fieldLink "BlueBagModel" (187 : Nat) "BlueBagModel" "number" "I"), (Jvm.Cond.fieldLink "BlueBagModel" (174 : Nat) "BlueBagModel" "begins" "I"), (Jvm.Cond.fieldLink "BlueBagModel" (200 : Nat) "BlueBagModel" "stops" "I"), (Jvm.Cond.fieldLink "BlueBagModel" (203 : Nat) "BlueBagModel" "bad" "I"), (Jvm.Cond.fieldLink "BlueBagModel" (206 : Nat) "BlueBagModel" "badPlace" "I"), (Jvm.Cond.fieldLink "BlueBagModel" (71 : Nat) "BlueBagModel" "faultPlace" "I"), (Jvm.Cond.fieldLink "BlueBagModel" (280 : Nat) "BlueBagModel" "blued" "I"), (Jvm.Cond.fieldLink "BlueBagModel" (236 : Nat) "BlueBagModel" "anyCell" "Z"), (Jvm.Cond.fieldLink "BlueBagModel" (240 : Nat) "BlueBagModel" "ofFading" "Z"), (Jvm.Cond.fieldLink "BlueBagModel" (75 : Nat) "BlueBagModel" "blue" "[I"), (Jvm.Cond.fieldLink "BlueBagModel" (77 : Nat) "BlueBagModel" "where" "[I"), (Jvm.Cond.fieldLink "BlueBagModel" (80 : Nat) "BlueBagModel" "past" "[I"), (Jvm.Cond.fieldLink "BlueBagModel" (331 : Nat) "BlueBagModel" "day" "I"), (Jvm.Cond.fieldLink "BlueBagModel" (147 : Nat) "BlueBagModel" "knobs" "I"), (Jvm.Cond.fieldLink "BlueBagModel" (333 : Nat) "BlueBagModel" "martins" "I"), (Jvm.Cond.fieldLink "BlueBagModel" (336 : Nat) "BlueBagModel" "pegs" "I"), (Jvm.Cond.fieldLink "BlueBagModel" (339 : Nat) "BlueBagModel" "resting" "I"), (Jvm.Cond.fieldLink "BlueBagModel" (342 : Nat) "BlueBagModel" "acts" "I"), (Jvm.Cond.fieldLink "BlueBagModel" (345 : Nat) "BlueBagModel" "seen" "I"), (Jvm.Cond.fieldLink "BlueBagModel" (83 : Nat) "BlueBagModel" "asked" "[I")]
set_option maxRecDepth 100000 in
theorem sb_20 : isSub nd_20 ((tables_1_6).drop 88) = true := by decide +kernel
theorem im_20 {i : Nat} {w : Cond} (h : nd_20[i]? = some w) : w ∈ lw_tbl := tin_6 (List.mem_of_mem_drop (isSub_mem _ _ sb_20 w (List.mem_of_getElem? h)))
def nd_21 : List Cond := [(Jvm.Cond.fieldLink "BlueBagModel" (86 : Nat) "BlueBagModel" "stack" "[I"), (Jvm.Cond.fieldLink "BlueBagModel" (89 : Nat) "BlueBagModel" "fading" "[I"), (Jvm.Cond.fieldLink "BlueBagModel" (393 : Nat) "BlueBagModel" "over" "I"), (Jvm.Cond.fieldLink "BlueBagModel" (92 : Nat) "BlueBagModel" "rowThen" "[I"), (Jvm.Cond.fieldLink "BlueBagModel" (95 : Nat) "BlueBagModel" "blueThen" "[I"), (Jvm.Cond.fieldLink "BlueBagModel" (98 : Nat) "BlueBagModel" "leastBy" "[I"), (Jvm.Cond.fieldLink "BlueBagModel" (101 : Nat) "BlueBagModel" "goals" "[I"), (Jvm.Cond.fieldLink "BlueBagModel" (104 : Nat) "BlueBagModel" "seenCell" "[I"), (Jvm.Cond.fieldLink "BlueBagModel" (107 : Nat) "BlueBagModel" "seenIn" "[I"), (Jvm.Cond.fieldLink "BlueBagModel" (110 : Nat) "BlueBagModel" "seenBlue" "[I"), (Jvm.Cond.fieldLink "BlueBagModel" (113 : Nat) "BlueBagModel" "rowSeen" "[I"), (Jvm.Cond.fieldLink "BlueBagModel" (116 : Nat) "BlueBagModel" "fits" "[I"), (Jvm.Cond.fieldLink "BlueBagModel" (119 : Nat) "BlueBagModel" "bluesThen" "[I"), (Jvm.Cond.fieldLink "BlueBagModel" (472 : Nat) "BlueBagModel" "fitMany" "I"), (Jvm.Cond.fieldLink "BlueBagModel" (122 : Nat) "BlueBagModel" "gains" "[I"), (Jvm.Cond.fieldLink "BlueBagModel" (490 : Nat) "BlueBagModel" "seedNow" "I"), (Jvm.Cond.fieldLink "BlueBagModel" (348 : Nat) "BlueBagModel" "hasImage" "Z"), (Jvm.Cond.fieldLink "BlueBagModel" (500 : Nat) "BlueBagModel" "actsThen" "I"), (Jvm.Cond.fieldLink "BlueBagModel" (503 : Nat) "BlueBagModel" "seenThen" "I"), (Jvm.Cond.fieldLink "BlueBagModel" (125 : Nat) "BlueBagModel" "imageRow" "[I"), (Jvm.Cond.fieldLink "BlueBagModel" (128 : Nat) "BlueBagModel" "pastThen" "[I"), (Jvm.Cond.fieldLink "BlueBagModel" (131 : Nat) "BlueBagModel" "seenCellThen" "[I"), (Jvm.Cond.fieldLink "BlueBagModel" (134 : Nat) "BlueBagModel" "seenInThen" "[I"), (Jvm.Cond.fieldLink "BlueBagModel" (137 : Nat) "BlueBagModel" "seenBlueThen" "[I"), (Jvm.Cond.fieldLink "BlueBagModel" (140 : Nat) "BlueBagModel" "statusThen" "[I"), (Jvm.Cond.laysFinal "BlueBagModel" "BlueBagModel" "women" "[Ljava/lang/String;"), (Jvm.Cond.laysFinal "BlueBagModel" "BlueBagModel" "ofDyes" "[Ljava/lang/String;"), (Jvm.Cond.laysFinal "BlueBagModel" "BlueBagModel" "ofFades" "[Ljava/lang/String;"), (Jvm.Cond.lays "BlueBagModel" "BlueBagModel" "values" "[Ljava/lang/String;"), (Jvm.Cond.lays "BlueBagModel" "BlueBagModel" "code" "I"), (Jvm.Cond.laysFinal "BlueBagModel" "BlueBagModel" "told" "[I"), (Jvm.Cond.laysFinal "BlueBagModel" "BlueBagModel" "blueTold" "[I"), (Jvm.Cond.laysFinal "BlueBagModel" "BlueBagModel" "aged" "[I"), (Jvm.Cond.laysFinal "BlueBagModel" "BlueBagModel" "skillTold" "[I"), (Jvm.Cond.laysFinal "BlueBagModel" "BlueBagModel" "cellTold" "[I"), (Jvm.Cond.laysFinal "BlueBagModel" "BlueBagModel" "signsDyes" "[I"), (Jvm.Cond.laysFinal "BlueBagModel" "BlueBagModel" "signsFades" "[I"), (Jvm.Cond.laysFinal "BlueBagModel" "BlueBagModel" "status" "[I"), (Jvm.Cond.laysFinal "BlueBagModel" "BlueBagModel" "skills" "[I"), (Jvm.Cond.laysFinal "BlueBagModel" "BlueBagModel" "tape" "[I"), (Jvm.Cond.lays "BlueBagModel" "BlueBagModel" "taped" "I"), (Jvm.Cond.lays "BlueBagModel" "BlueBagModel" "at" "I"), (Jvm.Cond.lays "BlueBagModel" "BlueBagModel" "size" "I"), (Jvm.Cond.lays "BlueBagModel" "BlueBagModel" "token" "I"), (Jvm.Cond.lays "BlueBagModel" "BlueBagModel" "number" "I"), (Jvm.Cond.lays "BlueBagModel" "BlueBagModel" "begins" "I"), (Jvm.Cond.lays "BlueBagModel" "BlueBagModel" "stops" "I"), (Jvm.Cond.lays "BlueBagModel" "BlueBagModel" "bad" "I"), (Jvm.Cond.lays "BlueBagModel" "BlueBagModel" "badPlace" "I"), (Jvm.Cond.lays "BlueBagModel" "BlueBagModel" "faultPlace" "I"), (Jvm.Cond.lays "BlueBagModel" "BlueBagModel" "blued" "I")]
set_option maxRecDepth 100000 in
theorem sb_21 : isSub nd_21 ((tables_1_6).drop 164) = true := by decide +kernel
theorem im_21 {i : Nat} {w : Cond} (h : nd_21[i]? = some w) : w ∈ lw_tbl := tin_6 (List.mem_of_mem_drop (isSub_mem _ _ sb_21 w (List.mem_of_getElem? h)))
set_option maxRecDepth 100000 in
theorem cw_1628 : (Jvm.Cond.code ({ cls := "BlueBagModel", name := "feed", desc := "(IIIII)I" } : Jvm.MethodName) prog_14_method_12_code (8 : Nat) (Option.some Jvm.ClassFile.FieldType.int)) ∈ lw_tbl := tin_7 (List.mem_of_getElem? (i := 81) rfl)
set_option maxRecDepth 100000 in
theorem cw_1632 : (Jvm.Cond.code ({ cls := "BlueBagModel", name := "coast", desc := "(I)I" } : Jvm.MethodName) prog_14_method_40_code (3 : Nat) (Option.some Jvm.ClassFile.FieldType.int)) ∈ lw_tbl := tin_7 (List.mem_of_getElem? (i := 85) rfl)
set_option maxRecDepth 100000 in
theorem cw_1636 : (Jvm.Cond.code ({ cls := "BlueBagModel", name := "fail", desc := "(I)I" } : Jvm.MethodName) prog_14_method_4_code (2 : Nat) (Option.some Jvm.ClassFile.FieldType.int)) ∈ lw_tbl := tin_7 (List.mem_of_getElem? (i := 89) rfl)
set_option maxRecDepth 100000 in
theorem cw_1640 : (Jvm.Cond.code ({ cls := "BlueBagModel", name := "stepOn", desc := "()V" } : Jvm.MethodName) prog_14_method_17_code (2 : Nat) (Option.none : Option Jvm.ClassFile.FieldType)) ∈ lw_tbl := tin_7 (List.mem_of_getElem? (i := 93) rfl)
set_option maxRecDepth 100000 in
theorem cw_1644 : (Jvm.Cond.code ({ cls := "BlueBagModel", name := "byteAt", desc := "(I)I" } : Jvm.MethodName) prog_14_method_13_code (2 : Nat) (Option.some Jvm.ClassFile.FieldType.int)) ∈ lw_tbl := tin_7 (List.mem_of_getElem? (i := 97) rfl)
set_option maxRecDepth 100000 in
theorem cw_1647 : (Jvm.Cond.code ({ cls := "BlueBagModel", name := "isLetter", desc := "(I)Z" } : Jvm.MethodName) prog_14_method_14_code (1 : Nat) (Option.some Jvm.ClassFile.FieldType.boolean)) ∈ lw_tbl := tin_7 (List.mem_of_getElem? (i := 100) rfl)
set_option maxRecDepth 100000 in
theorem cw_1650 : (Jvm.Cond.code ({ cls := "BlueBagModel", name := "isDigit", desc := "(I)Z" } : Jvm.MethodName) prog_14_method_15_code (1 : Nat) (Option.some Jvm.ClassFile.FieldType.boolean)) ∈ lw_tbl := tin_7 (List.mem_of_getElem? (i := 103) rfl)
set_option maxRecDepth 100000 in
theorem cw_1655 : (Jvm.Cond.code ({ cls := "BlueBagModel", name := "isMark", desc := "(I)Z" } : Jvm.MethodName) prog_14_method_16_code (1 : Nat) (Option.some Jvm.ClassFile.FieldType.boolean)) ∈ lw_tbl := tin_7 (List.mem_of_getElem? (i := 108) rfl)
set_option maxRecDepth 100000 in
theorem cw_1659 : (Jvm.Cond.code ({ cls := "BlueBagModel", name := "readLine", desc := "(I)I" } : Jvm.MethodName) prog_14_method_39_code (4 : Nat) (Option.some Jvm.ClassFile.FieldType.int)) ∈ lw_tbl := tin_7 (List.mem_of_getElem? (i := 112) rfl)
set_option maxRecDepth 100000 in
theorem cw_1663 : (Jvm.Cond.code ({ cls := "BlueBagModel", name := "which", desc := "([Ljava/lang/String;)I" } : Jvm.MethodName) prog_14_method_20_code (3 : Nat) (Option.some Jvm.ClassFile.FieldType.int)) ∈ lw_tbl := tin_7 (List.mem_of_getElem? (i := 116) rfl)
set_option maxRecDepth 100000 in
theorem cw_1667 : (Jvm.Cond.code ({ cls := "BlueBagModel", name := "is", desc := "(Ljava/lang/String;)Z" } : Jvm.MethodName) prog_14_method_19_code (4 : Nat) (Option.some Jvm.ClassFile.FieldType.boolean)) ∈ lw_tbl := tin_7 (List.mem_of_getElem? (i := 120) rfl)
set_option maxRecDepth 100000 in
theorem cw_1679 : (Jvm.Cond.code ({ cls := "BlueBagModel", name := "wrong", desc := "(I)V" } : Jvm.MethodName) prog_14_method_18_code (2 : Nat) (Option.none : Option Jvm.ClassFile.FieldType)) ∈ lw_tbl := tin_7 (List.mem_of_getElem? (i := 132) rfl)
set_option maxRecDepth 100000 in
theorem cw_1683 : (Jvm.Cond.code ({ cls := "BlueBagModel", name := "sayOnce", desc := "(I)V" } : Jvm.MethodName) prog_14_method_38_code (2 : Nat) (Option.none : Option Jvm.ClassFile.FieldType)) ∈ lw_tbl := tin_7 (List.mem_of_getElem? (i := 136) rfl)
set_option maxRecDepth 100000 in
theorem cw_1687 : (Jvm.Cond.code ({ cls := "BlueBagModel", name := "saySky", desc := "()V" } : Jvm.MethodName) prog_14_method_33_code (1 : Nat) (Option.none : Option Jvm.ClassFile.FieldType)) ∈ lw_tbl := tin_7 (List.mem_of_getElem? (i := 140) rfl)
set_option maxRecDepth 100000 in
theorem cw_1691 : (Jvm.Cond.code ({ cls := "BlueBagModel", name := "readNumber", desc := "(II)I" } : Jvm.MethodName) prog_14_method_24_code (4 : Nat) (Option.some Jvm.ClassFile.FieldType.int)) ∈ lw_tbl := tin_7 (List.mem_of_getElem? (i := 144) rfl)
set_option maxRecDepth 100000 in
theorem cw_1695 : (Jvm.Cond.code ({ cls := "BlueBagModel", name := "numberNow", desc := "(II)I" } : Jvm.MethodName) prog_14_method_23_code (3 : Nat) (Option.some Jvm.ClassFile.FieldType.int)) ∈ lw_tbl := tin_7 (List.mem_of_getElem? (i := 148) rfl)
set_option maxRecDepth 100000 in
theorem cw_1699 : (Jvm.Cond.code ({ cls := "BlueBagModel", name := "sayRule", desc := "(Z)V" } : Jvm.MethodName) prog_14_method_37_code (2 : Nat) (Option.none : Option Jvm.ClassFile.FieldType)) ∈ lw_tbl := tin_7 (List.mem_of_getElem? (i := 152) rfl)
set_option maxRecDepth 100000 in
theorem cw_1703 : (Jvm.Cond.code ({ cls := "BlueBagModel", name := "readExpression", desc := "(I)V" } : Jvm.MethodName) prog_14_method_32_code (3 : Nat) (Option.none : Option Jvm.ClassFile.FieldType)) ∈ lw_tbl := tin_7 (List.mem_of_getElem? (i := 156) rfl)
set_option maxRecDepth 100000 in
theorem cw_1707 : (Jvm.Cond.code ({ cls := "BlueBagModel", name := "isMarked", desc := "(I)Z" } : Jvm.MethodName) prog_14_method_21_code (2 : Nat) (Option.some Jvm.ClassFile.FieldType.boolean)) ∈ lw_tbl := tin_7 (List.mem_of_getElem? (i := 160) rfl)
set_option maxRecDepth 100000 in
theorem cw_1711 : (Jvm.Cond.code ({ cls := "BlueBagModel", name := "readAnd", desc := "(I)V" } : Jvm.MethodName) prog_14_method_31_code (2 : Nat) (Option.none : Option Jvm.ClassFile.FieldType)) ∈ lw_tbl := tin_7 (List.mem_of_getElem? (i := 164) rfl)
set_option maxRecDepth 100000 in
theorem cw_1715 : (Jvm.Cond.code ({ cls := "BlueBagModel", name := "readNot", desc := "(I)V" } : Jvm.MethodName) prog_14_method_30_code (4 : Nat) (Option.none : Option Jvm.ClassFile.FieldType)) ∈ lw_tbl := tin_7 (List.mem_of_getElem? (i := 168) rfl)
set_option maxRecDepth 100000 in
theorem cw_1720 : (Jvm.Cond.code ({ cls := "BlueBagModel", name := "readSum", desc := "(I)V" } : Jvm.MethodName) prog_14_method_29_code (3 : Nat) (Option.none : Option Jvm.ClassFile.FieldType)) ∈ lw_tbl := tin_7 (List.mem_of_getElem? (i := 173) rfl)
set_option maxRecDepth 100000 in
theorem cw_1724 : (Jvm.Cond.code ({ cls := "BlueBagModel", name := "readProduct", desc := "(I)V" } : Jvm.MethodName) prog_14_method_28_code (3 : Nat) (Option.none : Option Jvm.ClassFile.FieldType)) ∈ lw_tbl := tin_7 (List.mem_of_getElem? (i := 177) rfl)
set_option maxRecDepth 100000 in
theorem cw_1728 : (Jvm.Cond.code ({ cls := "BlueBagModel", name := "readPart", desc := "(I)V" } : Jvm.MethodName) prog_14_method_27_code (3 : Nat) (Option.none : Option Jvm.ClassFile.FieldType)) ∈ lw_tbl := tin_7 (List.mem_of_getElem? (i := 181) rfl)
set_option maxRecDepth 100000 in
theorem cw_1732 : (Jvm.Cond.code ({ cls := "BlueBagModel", name := "lay", desc := "(I)V" } : Jvm.MethodName) prog_14_method_26_code (4 : Nat) (Option.none : Option Jvm.ClassFile.FieldType)) ∈ lw_tbl := tin_7 (List.mem_of_getElem? (i := 185) rfl)
set_option maxRecDepth 100000 in
theorem cw_1736 : (Jvm.Cond.code ({ cls := "BlueBagModel", name := "mark", desc := "(I)V" } : Jvm.MethodName) prog_14_method_22_code (2 : Nat) (Option.none : Option Jvm.ClassFile.FieldType)) ∈ lw_tbl := tin_7 (List.mem_of_getElem? (i := 189) rfl)
set_option maxRecDepth 100000 in
theorem cw_1742 : (Jvm.Cond.code ({ cls := "BlueBagModel", name := "sayWoman", desc := "(I)V" } : Jvm.MethodName) prog_14_method_35_code (3 : Nat) (Option.none : Option Jvm.ClassFile.FieldType)) ∈ lw_tbl := tin_7 (List.mem_of_getElem? (i := 195) rfl)
set_option maxRecDepth 100000 in
theorem cw_1746 : (Jvm.Cond.code ({ cls := "BlueBagModel", name := "cellNow", desc := "(I)I" } : Jvm.MethodName) prog_14_method_25_code (3 : Nat) (Option.some Jvm.ClassFile.FieldType.int)) ∈ lw_tbl := tin_7 (List.mem_of_getElem? (i := 199) rfl)
set_option maxRecDepth 100000 in
theorem cw_1749 : (Jvm.Cond.code ({ cls := "BlueBagModel", name := "isOf", desc := "(II)Z" } : Jvm.MethodName) prog_14_method_7_code (2 : Nat) (Option.some Jvm.ClassFile.FieldType.boolean)) ∈ lw_tbl := tin_7 (List.mem_of_getElem? (i := 202) rfl)
set_option maxRecDepth 100000 in
theorem cw_1753 : (Jvm.Cond.code ({ cls := "BlueBagModel", name := "sayBlue", desc := "()V" } : Jvm.MethodName) prog_14_method_34_code (2 : Nat) (Option.none : Option Jvm.ClassFile.FieldType)) ∈ lw_tbl := tin_7 (List.mem_of_getElem? (i := 206) rfl)
set_option maxRecDepth 100000 in
theorem cw_1758 : (Jvm.Cond.code ({ cls := "BlueBagModel", name := "sayPegs", desc := "()V" } : Jvm.MethodName) prog_14_method_36_code (2 : Nat) (Option.none : Option Jvm.ClassFile.FieldType)) ∈ lw_tbl := tin_7 (List.mem_of_getElem? (i := 211) rfl)
set_option maxRecDepth 100000 in
theorem cw_1762 : (Jvm.Cond.code ({ cls := "BlueBagModel", name := "takeOver", desc := "()V" } : Jvm.MethodName) prog_14_method_42_code (3 : Nat) (Option.none : Option Jvm.ClassFile.FieldType)) ∈ lw_tbl := tin_7 (List.mem_of_getElem? (i := 215) rfl)
set_option maxRecDepth 100000 in
theorem cw_1765 : (Jvm.Cond.code ({ cls := "BlueBagModel", name := "takeHalf", desc := "([I)V" } : Jvm.MethodName) prog_14_method_41_code (2 : Nat) (Option.none : Option Jvm.ClassFile.FieldType)) ∈ lw_tbl := tin_7 (List.mem_of_getElem? (i := 218) rfl)
set_option maxRecDepth 100000 in
theorem cw_1769 : (Jvm.Cond.code ({ cls := "BlueBagModel", name := "fault", desc := "()I" } : Jvm.MethodName) prog_14_method_43_code (1 : Nat) (Option.some Jvm.ClassFile.FieldType.int)) ∈ lw_tbl := tin_7 (List.mem_of_getElem? (i := 222) rfl)
set_option maxRecDepth 100000 in
theorem cw_1773 : (Jvm.Cond.code ({ cls := "BlueBagModel", name := "count", desc := "(I)I" } : Jvm.MethodName) prog_14_method_61_code (2 : Nat) (Option.some Jvm.ClassFile.FieldType.int)) ∈ lw_tbl := tin_7 (List.mem_of_getElem? (i := 226) rfl)
set_option maxRecDepth 100000 in
theorem cw_1777 : (Jvm.Cond.code ({ cls := "BlueBagModel", name := "cells", desc := "()I" } : Jvm.MethodName) prog_14_method_9_code (1 : Nat) (Option.some Jvm.ClassFile.FieldType.int)) ∈ lw_tbl := tin_7 (List.mem_of_getElem? (i := 230) rfl)
set_option maxRecDepth 100000 in
theorem cw_1781 : (Jvm.Cond.code ({ cls := "BlueBagModel", name := "allBlue", desc := "()I" } : Jvm.MethodName) prog_14_method_60_code (3 : Nat) (Option.some Jvm.ClassFile.FieldType.int)) ∈ lw_tbl := tin_7 (List.mem_of_getElem? (i := 234) rfl)
set_option maxRecDepth 100000 in
theorem cw_1785 : (Jvm.Cond.code ({ cls := "BlueBagModel", name := "cell", desc := "(II)I" } : Jvm.MethodName) prog_14_method_64_code (3 : Nat) (Option.some Jvm.ClassFile.FieldType.int)) ∈ lw_tbl := tin_7 (List.mem_of_getElem? (i := 238) rfl)
def nd_22 : List Cond := [(Jvm.Cond.lays "BlueBagModel" "BlueBagModel" "anyCell" "Z"), (Jvm.Cond.lays "BlueBagModel" "BlueBagModel" "ofFading" "Z"), (Jvm.Cond.laysFinal "BlueBagModel" "BlueBagModel" "blue" "[I"), (Jvm.Cond.laysFinal "BlueBagModel" "BlueBagModel" "where" "[I"), (Jvm.Cond.laysFinal "BlueBagModel" "BlueBagModel" "past" "[I"), (Jvm.Cond.lays "BlueBagModel" "BlueBagModel" "day" "I"), (Jvm.Cond.lays "BlueBagModel" "BlueBagModel" "knobs" "I"), (Jvm.Cond.lays "BlueBagModel" "BlueBagModel" "martins" "I"), (Jvm.Cond.lays "BlueBagModel" "BlueBagModel" "pegs" "I"), (Jvm.Cond.lays "BlueBagModel" "BlueBagModel" "resting" "I"), (Jvm.Cond.lays "BlueBagModel" "BlueBagModel" "acts" "I"), (Jvm.Cond.lays "BlueBagModel" "BlueBagModel" "seen" "I"), (Jvm.Cond.laysFinal "BlueBagModel" "BlueBagModel" "asked" "[I"), (Jvm.Cond.laysFinal "BlueBagModel" "BlueBagModel" "stack" "[I"), (Jvm.Cond.laysFinal "BlueBagModel" "BlueBagModel" "fading" "[I"), (Jvm.Cond.lays "BlueBagModel" "BlueBagModel" "over" "I"), (Jvm.Cond.laysFinal "BlueBagModel" "BlueBagModel" "rowThen" "[I"), (Jvm.Cond.laysFinal "BlueBagModel" "BlueBagModel" "blueThen" "[I"), (Jvm.Cond.laysFinal "BlueBagModel" "BlueBagModel" "leastBy" "[I"), (Jvm.Cond.laysFinal "BlueBagModel" "BlueBagModel" "goals" "[I"), (Jvm.Cond.laysFinal "BlueBagModel" "BlueBagModel" "seenCell" "[I"), (Jvm.Cond.laysFinal "BlueBagModel" "BlueBagModel" "seenIn" "[I"), (Jvm.Cond.laysFinal "BlueBagModel" "BlueBagModel" "seenBlue" "[I"), (Jvm.Cond.laysFinal "BlueBagModel" "BlueBagModel" "rowSeen" "[I"), (Jvm.Cond.laysFinal "BlueBagModel" "BlueBagModel" "fits" "[I"), (Jvm.Cond.laysFinal "BlueBagModel" "BlueBagModel" "bluesThen" "[I"), (Jvm.Cond.lays "BlueBagModel" "BlueBagModel" "fitMany" "I"), (Jvm.Cond.laysFinal "BlueBagModel" "BlueBagModel" "gains" "[I"), (Jvm.Cond.lays "BlueBagModel" "BlueBagModel" "seedNow" "I"), (Jvm.Cond.lays "BlueBagModel" "BlueBagModel" "hasImage" "Z"), (Jvm.Cond.lays "BlueBagModel" "BlueBagModel" "actsThen" "I"), (Jvm.Cond.lays "BlueBagModel" "BlueBagModel" "seenThen" "I"), (Jvm.Cond.laysFinal "BlueBagModel" "BlueBagModel" "imageRow" "[I"), (Jvm.Cond.laysFinal "BlueBagModel" "BlueBagModel" "pastThen" "[I"), (Jvm.Cond.laysFinal "BlueBagModel" "BlueBagModel" "seenCellThen" "[I"), (Jvm.Cond.laysFinal "BlueBagModel" "BlueBagModel" "seenInThen" "[I"), (Jvm.Cond.laysFinal "BlueBagModel" "BlueBagModel" "seenBlueThen" "[I"), (Jvm.Cond.laysFinal "BlueBagModel" "BlueBagModel" "statusThen" "[I"), (Jvm.Cond.methodLink "BlueBagLaw" (107 : Nat) ({ cls := "BlueBagModel", name := "feed", desc := "(IIIII)I" } : Jvm.MethodName)), (Jvm.Cond.instanceMethod ({ cls := "BlueBagModel", name := "feed", desc := "(IIIII)I" } : Jvm.MethodName)), (Jvm.Cond.selects "BlueBagModel" ({ cls := "BlueBagModel", name := "feed", desc := "(IIIII)I" } : Jvm.MethodName) ({ cls := "BlueBagModel", name := "feed", desc := "(IIIII)I" } : Jvm.MethodName)), (Jvm.Cond.methodLink "BlueBagLaw" (113 : Nat) ({ cls := "BlueBagModel", name := "coast", desc := "(I)I" } : Jvm.MethodName)), (Jvm.Cond.instanceMethod ({ cls := "BlueBagModel", name := "coast", desc := "(I)I" } : Jvm.MethodName)), (Jvm.Cond.selects "BlueBagModel" ({ cls := "BlueBagModel", name := "coast", desc := "(I)I" } : Jvm.MethodName) ({ cls := "BlueBagModel", name := "coast", desc := "(I)I" } : Jvm.MethodName)), (Jvm.Cond.methodLink "BlueBagModel" (318 : Nat) ({ cls := "BlueBagModel", name := "fail", desc := "(I)I" } : Jvm.MethodName)), (Jvm.Cond.instanceMethod ({ cls := "BlueBagModel", name := "fail", desc := "(I)I" } : Jvm.MethodName)), (Jvm.Cond.methodLink "BlueBagModel" (226 : Nat) ({ cls := "BlueBagModel", name := "stepOn", desc := "()V" } : Jvm.MethodName)), (Jvm.Cond.instanceMethod ({ cls := "BlueBagModel", name := "stepOn", desc := "()V" } : Jvm.MethodName)), (Jvm.Cond.methodLink "BlueBagModel" (170 : Nat) ({ cls := "BlueBagModel", name := "byteAt", desc := "(I)I" } : Jvm.MethodName)), (Jvm.Cond.instanceMethod ({ cls := "BlueBagModel", name := "byteAt", desc := "(I)I" } : Jvm.MethodName)), (Jvm.Cond.methodLink "BlueBagModel" (180 : Nat) ({ cls := "BlueBagModel", name := "isLetter", desc := "(I)Z" } : Jvm.MethodName)), (Jvm.Cond.static ({ cls := "BlueBagModel", name := "isLetter", desc := "(I)Z" } : Jvm.MethodName)), (Jvm.Cond.methodLink "BlueBagModel" (184 : Nat) ({ cls := "BlueBagModel", name := "isDigit", desc := "(I)Z" } : Jvm.MethodName)), (Jvm.Cond.static ({ cls := "BlueBagModel", name := "isDigit", desc := "(I)Z" } : Jvm.MethodName)), (Jvm.Cond.constant "BlueBagModel" (190 : Nat) (100000 : Int32)), (Jvm.Cond.methodLink "BlueBagModel" (191 : Nat) ({ cls := "java/lang/Math", name := "min", desc := "(II)I" } : Jvm.MethodName)), (Jvm.Cond.methodLink "BlueBagModel" (197 : Nat) ({ cls := "BlueBagModel", name := "isMark", desc := "(I)Z" } : Jvm.MethodName)), (Jvm.Cond.static ({ cls := "BlueBagModel", name := "isMark", desc := "(I)Z" } : Jvm.MethodName)), (Jvm.Cond.methodLink "BlueBagModel" (321 : Nat) ({ cls := "BlueBagModel", name := "readLine", desc := "(I)I" } : Jvm.MethodName)), (Jvm.Cond.instanceMethod ({ cls := "BlueBagModel", name := "readLine", desc := "(I)I" } : Jvm.MethodName))]
set_option maxRecDepth 100000 in
theorem sb_22 : isSub nd_22 ((tables_1_7).drop 1) = true := by decide +kernel
theorem im_22 {i : Nat} {w : Cond} (h : nd_22[i]? = some w) : w ∈ lw_tbl := tin_7 (List.mem_of_mem_drop (isSub_mem _ _ sb_22 w (List.mem_of_getElem? h)))
def nd_23 : List Cond := [(Jvm.Cond.methodLink "BlueBagModel" (249 : Nat) ({ cls := "BlueBagModel", name := "which", desc := "([Ljava/lang/String;)I" } : Jvm.MethodName)), (Jvm.Cond.instanceMethod ({ cls := "BlueBagModel", name := "which", desc := "([Ljava/lang/String;)I" } : Jvm.MethodName)), (Jvm.Cond.methodLink "BlueBagModel" (216 : Nat) ({ cls := "BlueBagModel", name := "is", desc := "(Ljava/lang/String;)Z" } : Jvm.MethodName)), (Jvm.Cond.instanceMethod ({ cls := "BlueBagModel", name := "is", desc := "(Ljava/lang/String;)Z" } : Jvm.MethodName)), (Jvm.Cond.methodLink "BlueBagModel" (209 : Nat) ({ cls := "java/lang/String", name := "length", desc := "()I" } : Jvm.MethodName)), (Jvm.Cond.methodLink "BlueBagModel" (212 : Nat) ({ cls := "java/lang/String", name := "charAt", desc := "(I)C" } : Jvm.MethodName)), (Jvm.Cond.methodLink "BlueBagModel" (223 : Nat) ({ cls := "BlueBagModel", name := "wrong", desc := "(I)V" } : Jvm.MethodName)), (Jvm.Cond.instanceMethod ({ cls := "BlueBagModel", name := "wrong", desc := "(I)V" } : Jvm.MethodName)), (Jvm.Cond.methodLink "BlueBagModel" (304 : Nat) ({ cls := "BlueBagModel", name := "sayOnce", desc := "(I)V" } : Jvm.MethodName)), (Jvm.Cond.instanceMethod ({ cls := "BlueBagModel", name := "sayOnce", desc := "(I)V" } : Jvm.MethodName)), (Jvm.Cond.methodLink "BlueBagModel" (286 : Nat) ({ cls := "BlueBagModel", name := "saySky", desc := "()V" } : Jvm.MethodName)), (Jvm.Cond.instanceMethod ({ cls := "BlueBagModel", name := "saySky", desc := "()V" } : Jvm.MethodName)), (Jvm.Cond.methodLink "BlueBagModel" (243 : Nat) ({ cls := "BlueBagModel", name := "readNumber", desc := "(II)I" } : Jvm.MethodName)), (Jvm.Cond.instanceMethod ({ cls := "BlueBagModel", name := "readNumber", desc := "(II)I" } : Jvm.MethodName)), (Jvm.Cond.methodLink "BlueBagModel" (229 : Nat) ({ cls := "BlueBagModel", name := "numberNow", desc := "(II)I" } : Jvm.MethodName)), (Jvm.Cond.instanceMethod ({ cls := "BlueBagModel", name := "numberNow", desc := "(II)I" } : Jvm.MethodName)), (Jvm.Cond.methodLink "BlueBagModel" (289 : Nat) ({ cls := "BlueBagModel", name := "sayRule", desc := "(Z)V" } : Jvm.MethodName)), (Jvm.Cond.instanceMethod ({ cls := "BlueBagModel", name := "sayRule", desc := "(Z)V" } : Jvm.MethodName)), (Jvm.Cond.methodLink "BlueBagModel" (256 : Nat) ({ cls := "BlueBagModel", name := "readExpression", desc := "(I)V" } : Jvm.MethodName)), (Jvm.Cond.instanceMethod ({ cls := "BlueBagModel", name := "readExpression", desc := "(I)V" } : Jvm.MethodName)), (Jvm.Cond.methodLink "BlueBagModel" (220 : Nat) ({ cls := "BlueBagModel", name := "isMarked", desc := "(I)Z" } : Jvm.MethodName)), (Jvm.Cond.instanceMethod ({ cls := "BlueBagModel", name := "isMarked", desc := "(I)Z" } : Jvm.MethodName)), (Jvm.Cond.methodLink "BlueBagModel" (275 : Nat) ({ cls := "BlueBagModel", name := "readAnd", desc := "(I)V" } : Jvm.MethodName)), (Jvm.Cond.instanceMethod ({ cls := "BlueBagModel", name := "readAnd", desc := "(I)V" } : Jvm.MethodName)), (Jvm.Cond.methodLink "BlueBagModel" (270 : Nat) ({ cls := "BlueBagModel", name := "readNot", desc := "(I)V" } : Jvm.MethodName)), (Jvm.Cond.instanceMethod ({ cls := "BlueBagModel", name := "readNot", desc := "(I)V" } : Jvm.MethodName)), (Jvm.Cond.methodLink "BlueBagModel" (267 : Nat) ({ cls := "BlueBagModel", name := "readSum", desc := "(I)V" } : Jvm.MethodName)), (Jvm.Cond.instanceMethod ({ cls := "BlueBagModel", name := "readSum", desc := "(I)V" } : Jvm.MethodName)), (Jvm.Cond.methodLink "BlueBagModel" (262 : Nat) ({ cls := "BlueBagModel", name := "readProduct", desc := "(I)V" } : Jvm.MethodName)), (Jvm.Cond.instanceMethod ({ cls := "BlueBagModel", name := "readProduct", desc := "(I)V" } : Jvm.MethodName)), (Jvm.Cond.methodLink "BlueBagModel" (259 : Nat) ({ cls := "BlueBagModel", name := "readPart", desc := "(I)V" } : Jvm.MethodName)), (Jvm.Cond.instanceMethod ({ cls := "BlueBagModel", name := "readPart", desc := "(I)V" } : Jvm.MethodName)), (Jvm.Cond.methodLink "BlueBagModel" (246 : Nat) ({ cls := "BlueBagModel", name := "lay", desc := "(I)V" } : Jvm.MethodName)), (Jvm.Cond.instanceMethod ({ cls := "BlueBagModel", name := "lay", desc := "(I)V" } : Jvm.MethodName)), (Jvm.Cond.methodLink "BlueBagModel" (253 : Nat) ({ cls := "BlueBagModel", name := "mark", desc := "(I)V" } : Jvm.MethodName)), (Jvm.Cond.instanceMethod ({ cls := "BlueBagModel", name := "mark", desc := "(I)V" } : Jvm.MethodName)), (Jvm.Cond.methodLink "BlueBagModel" (307 : Nat) ({ cls := "BlueBagModel", name := "sayWoman", desc := "(I)V" } : Jvm.MethodName)), (Jvm.Cond.instanceMethod ({ cls := "BlueBagModel", name := "sayWoman", desc := "(I)V" } : Jvm.MethodName)), (Jvm.Cond.methodLink "BlueBagModel" (283 : Nat) ({ cls := "BlueBagModel", name := "cellNow", desc := "(I)I" } : Jvm.MethodName)), (Jvm.Cond.instanceMethod ({ cls := "BlueBagModel", name := "cellNow", desc := "(I)I" } : Jvm.MethodName)), (Jvm.Cond.methodLink "BlueBagModel" (232 : Nat) ({ cls := "BlueBagModel", name := "isOf", desc := "(II)Z" } : Jvm.MethodName)), (Jvm.Cond.static ({ cls := "BlueBagModel", name := "isOf", desc := "(II)Z" } : Jvm.MethodName)), (Jvm.Cond.methodLink "BlueBagModel" (310 : Nat) ({ cls := "BlueBagModel", name := "sayBlue", desc := "()V" } : Jvm.MethodName)), (Jvm.Cond.instanceMethod ({ cls := "BlueBagModel", name := "sayBlue", desc := "()V" } : Jvm.MethodName)), (Jvm.Cond.methodLink "BlueBagModel" (315 : Nat) ({ cls := "BlueBagModel", name := "sayPegs", desc := "()V" } : Jvm.MethodName)), (Jvm.Cond.instanceMethod ({ cls := "BlueBagModel", name := "sayPegs", desc := "()V" } : Jvm.MethodName)), (Jvm.Cond.methodLink "BlueBagModel" (324 : Nat) ({ cls := "BlueBagModel", name := "takeOver", desc := "()V" } : Jvm.MethodName)), (Jvm.Cond.instanceMethod ({ cls := "BlueBagModel", name := "takeOver", desc := "()V" } : Jvm.MethodName)), (Jvm.Cond.methodLink "BlueBagModel" (327 : Nat) ({ cls := "BlueBagModel", name := "takeHalf", desc := "([I)V" } : Jvm.MethodName)), (Jvm.Cond.static ({ cls := "BlueBagModel", name := "takeHalf", desc := "([I)V" } : Jvm.MethodName)), (Jvm.Cond.methodLink "BlueBagLaw" (118 : Nat) ({ cls := "BlueBagModel", name := "fault", desc := "()I" } : Jvm.MethodName)), (Jvm.Cond.instanceMethod ({ cls := "BlueBagModel", name := "fault", desc := "()I" } : Jvm.MethodName)), (Jvm.Cond.selects "BlueBagModel" ({ cls := "BlueBagModel", name := "fault", desc := "()I" } : Jvm.MethodName) ({ cls := "BlueBagModel", name := "fault", desc := "()I" } : Jvm.MethodName)), (Jvm.Cond.methodLink "BlueBagLaw" (121 : Nat) ({ cls := "BlueBagModel", name := "count", desc := "(I)I" } : Jvm.MethodName)), (Jvm.Cond.instanceMethod ({ cls := "BlueBagModel", name := "count", desc := "(I)I" } : Jvm.MethodName)), (Jvm.Cond.selects "BlueBagModel" ({ cls := "BlueBagModel", name := "count", desc := "(I)I" } : Jvm.MethodName) ({ cls := "BlueBagModel", name := "count", desc := "(I)I" } : Jvm.MethodName)), (Jvm.Cond.methodLink "BlueBagModel" (153 : Nat) ({ cls := "BlueBagModel", name := "cells", desc := "()I" } : Jvm.MethodName)), (Jvm.Cond.instanceMethod ({ cls := "BlueBagModel", name := "cells", desc := "()I" } : Jvm.MethodName)), (Jvm.Cond.methodLink "BlueBagModel" (405 : Nat) ({ cls := "BlueBagModel", name := "allBlue", desc := "()I" } : Jvm.MethodName)), (Jvm.Cond.instanceMethod ({ cls := "BlueBagModel", name := "allBlue", desc := "()I" } : Jvm.MethodName))]
set_option maxRecDepth 100000 in
theorem sb_23 : isSub nd_23 ((tables_1_7).drop 113) = true := by decide +kernel
theorem im_23 {i : Nat} {w : Cond} (h : nd_23[i]? = some w) : w ∈ lw_tbl := tin_7 (List.mem_of_mem_drop (isSub_mem _ _ sb_23 w (List.mem_of_getElem? h)))
def nd_24 : List Cond := [(Jvm.Cond.methodLink "BlueBagLaw" (125 : Nat) ({ cls := "BlueBagModel", name := "cell", desc := "(II)I" } : Jvm.MethodName)), (Jvm.Cond.instanceMethod ({ cls := "BlueBagModel", name := "cell", desc := "(II)I" } : Jvm.MethodName)), (Jvm.Cond.selects "BlueBagModel" ({ cls := "BlueBagModel", name := "cell", desc := "(II)I" } : Jvm.MethodName) ({ cls := "BlueBagModel", name := "cell", desc := "(II)I" } : Jvm.MethodName)), (Jvm.Cond.methodLink "BlueBagModel" (408 : Nat) ({ cls := "BlueBagModel", name := "isCell", desc := "(I)Z" } : Jvm.MethodName))]
set_option maxRecDepth 100000 in
theorem sb_24 : isSub nd_24 ((tables_1_7).drop 235) = true := by decide +kernel
theorem im_24 {i : Nat} {w : Cond} (h : nd_24[i]? = some w) : w ∈ lw_tbl := tin_7 (List.mem_of_mem_drop (isSub_mem _ _ sb_24 w (List.mem_of_getElem? h)))
set_option maxRecDepth 100000 in
theorem cw_1789 : (Jvm.Cond.code ({ cls := "BlueBagModel", name := "isCell", desc := "(I)Z" } : Jvm.MethodName) prog_14_method_10_code (2 : Nat) (Option.some Jvm.ClassFile.FieldType.boolean)) ∈ lw_tbl := tin_8 (List.mem_of_getElem? (i := 2) rfl)
set_option maxRecDepth 100000 in
theorem cw_1792 : (Jvm.Cond.code ({ cls := "BlueBagModel", name := "isIn", desc := "(JJJ)Z" } : Jvm.MethodName) prog_14_method_6_code (6 : Nat) (Option.some Jvm.ClassFile.FieldType.boolean)) ∈ lw_tbl := tin_8 (List.mem_of_getElem? (i := 5) rfl)
set_option maxRecDepth 100000 in
theorem cw_1796 : (Jvm.Cond.code ({ cls := "BlueBagModel", name := "besideOf", desc := "(I)I" } : Jvm.MethodName) prog_14_method_49_code (4 : Nat) (Option.some Jvm.ClassFile.FieldType.int)) ∈ lw_tbl := tin_8 (List.mem_of_getElem? (i := 9) rfl)
set_option maxRecDepth 100000 in
theorem cw_1800 : (Jvm.Cond.code ({ cls := "BlueBagModel", name := "farOf", desc := "(II)I" } : Jvm.MethodName) prog_14_method_48_code (3 : Nat) (Option.some Jvm.ClassFile.FieldType.int)) ∈ lw_tbl := tin_8 (List.mem_of_getElem? (i := 13) rfl)
set_option maxRecDepth 100000 in
theorem cw_1804 : (Jvm.Cond.code ({ cls := "BlueBagModel", name := "columnOf", desc := "(I)I" } : Jvm.MethodName) prog_14_method_46_code (2 : Nat) (Option.some Jvm.ClassFile.FieldType.int)) ∈ lw_tbl := tin_8 (List.mem_of_getElem? (i := 17) rfl)
set_option maxRecDepth 100000 in
theorem cw_1809 : (Jvm.Cond.code ({ cls := "BlueBagModel", name := "rowOf", desc := "(I)I" } : Jvm.MethodName) prog_14_method_47_code (2 : Nat) (Option.some Jvm.ClassFile.FieldType.int)) ∈ lw_tbl := tin_8 (List.mem_of_getElem? (i := 22) rfl)
set_option maxRecDepth 100000 in
theorem cw_1813 : (Jvm.Cond.code ({ cls := "BlueBagModel", name := "girlsAt", desc := "(I)I" } : Jvm.MethodName) prog_14_method_62_code (4 : Nat) (Option.some Jvm.ClassFile.FieldType.int)) ∈ lw_tbl := tin_8 (List.mem_of_getElem? (i := 26) rfl)
set_option maxRecDepth 100000 in
theorem cw_1817 : (Jvm.Cond.code ({ cls := "BlueBagModel", name := "patchOf", desc := "(II)I" } : Jvm.MethodName) prog_14_method_63_code (8 : Nat) (Option.some Jvm.ClassFile.FieldType.int)) ∈ lw_tbl := tin_8 (List.mem_of_getElem? (i := 30) rfl)
set_option maxRecDepth 100000 in
theorem cw_1821 : (Jvm.Cond.code ({ cls := "BlueBagModel", name := "girl", desc := "(II)I" } : Jvm.MethodName) prog_14_method_65_code (3 : Nat) (Option.some Jvm.ClassFile.FieldType.int)) ∈ lw_tbl := tin_8 (List.mem_of_getElem? (i := 34) rfl)
set_option maxRecDepth 100000 in
theorem cw_1825 : (Jvm.Cond.code ({ cls := "BlueBagModel", name := "isGirl", desc := "(I)Z" } : Jvm.MethodName) prog_14_method_11_code (2 : Nat) (Option.some Jvm.ClassFile.FieldType.boolean)) ∈ lw_tbl := tin_8 (List.mem_of_getElem? (i := 38) rfl)
set_option maxRecDepth 100000 in
theorem cw_1830 : (Jvm.Cond.code ({ cls := "BlueBagModel", name := "dyesOf", desc := "(II)I" } : Jvm.MethodName) prog_14_method_54_code (4 : Nat) (Option.some Jvm.ClassFile.FieldType.int)) ∈ lw_tbl := tin_8 (List.mem_of_getElem? (i := 43) rfl)
set_option maxRecDepth 100000 in
theorem cw_1834 : (Jvm.Cond.code ({ cls := "BlueBagModel", name := "ask", desc := "(I)V" } : Jvm.MethodName) prog_14_method_53_code (2 : Nat) (Option.none : Option Jvm.ClassFile.FieldType)) ∈ lw_tbl := tin_8 (List.mem_of_getElem? (i := 47) rfl)
set_option maxRecDepth 100000 in
theorem cw_1838 : (Jvm.Cond.code ({ cls := "BlueBagModel", name := "blueBeside", desc := "(I)I" } : Jvm.MethodName) prog_14_method_50_code (5 : Nat) (Option.some Jvm.ClassFile.FieldType.int)) ∈ lw_tbl := tin_8 (List.mem_of_getElem? (i := 51) rfl)
set_option maxRecDepth 100000 in
theorem cw_1842 : (Jvm.Cond.code ({ cls := "BlueBagModel", name := "valueNow", desc := "([II)I" } : Jvm.MethodName) prog_14_method_52_code (6 : Nat) (Option.some Jvm.ClassFile.FieldType.int)) ∈ lw_tbl := tin_8 (List.mem_of_getElem? (i := 55) rfl)
set_option maxRecDepth 100000 in
theorem cw_1845 : (Jvm.Cond.code ({ cls := "BlueBagModel", name := "reckon", desc := "(III)I" } : Jvm.MethodName) prog_14_method_51_code (3 : Nat) (Option.some Jvm.ClassFile.FieldType.int)) ∈ lw_tbl := tin_8 (List.mem_of_getElem? (i := 58) rfl)
set_option maxRecDepth 100000 in
theorem cw_1849 : (Jvm.Cond.code ({ cls := "BlueBagModel", name := "days", desc := "(I)I" } : Jvm.MethodName) prog_14_method_68_code (2 : Nat) (Option.some Jvm.ClassFile.FieldType.int)) ∈ lw_tbl := tin_8 (List.mem_of_getElem? (i := 62) rfl)
set_option maxRecDepth 100000 in
theorem cw_1854 : (Jvm.Cond.code ({ cls := "BlueBagModel", name := "refuse", desc := "(I)I" } : Jvm.MethodName) prog_14_method_66_code (2 : Nat) (Option.some Jvm.ClassFile.FieldType.int)) ∈ lw_tbl := tin_8 (List.mem_of_getElem? (i := 67) rfl)
set_option maxRecDepth 100000 in
theorem cw_1858 : (Jvm.Cond.code ({ cls := "BlueBagModel", name := "keep", desc := "()V" } : Jvm.MethodName) prog_14_method_67_code (2 : Nat) (Option.none : Option Jvm.ClassFile.FieldType)) ∈ lw_tbl := tin_8 (List.mem_of_getElem? (i := 71) rfl)
set_option maxRecDepth 100000 in
theorem cw_1862 : (Jvm.Cond.code ({ cls := "BlueBagModel", name := "pack", desc := "([II)V" } : Jvm.MethodName) prog_14_method_44_code (4 : Nat) (Option.none : Option Jvm.ClassFile.FieldType)) ∈ lw_tbl := tin_8 (List.mem_of_getElem? (i := 75) rfl)
set_option maxRecDepth 100000 in
theorem cw_1866 : (Jvm.Cond.code ({ cls := "BlueBagModel", name := "goOn", desc := "(I)V" } : Jvm.MethodName) prog_14_method_59_code (3 : Nat) (Option.none : Option Jvm.ClassFile.FieldType)) ∈ lw_tbl := tin_8 (List.mem_of_getElem? (i := 79) rfl)
set_option maxRecDepth 100000 in
theorem cw_1870 : (Jvm.Cond.code ({ cls := "BlueBagModel", name := "aDay", desc := "()V" } : Jvm.MethodName) prog_14_method_58_code (2 : Nat) (Option.none : Option Jvm.ClassFile.FieldType)) ∈ lw_tbl := tin_8 (List.mem_of_getElem? (i := 83) rfl)
set_option maxRecDepth 100000 in
theorem cw_1874 : (Jvm.Cond.code ({ cls := "BlueBagModel", name := "swish", desc := "(II)V" } : Jvm.MethodName) prog_14_method_57_code (7 : Nat) (Option.none : Option Jvm.ClassFile.FieldType)) ∈ lw_tbl := tin_8 (List.mem_of_getElem? (i := 87) rfl)
set_option maxRecDepth 100000 in
theorem cw_1878 : (Jvm.Cond.code ({ cls := "BlueBagModel", name := "dye", desc := "(II)V" } : Jvm.MethodName) prog_14_method_56_code (3 : Nat) (Option.none : Option Jvm.ClassFile.FieldType)) ∈ lw_tbl := tin_8 (List.mem_of_getElem? (i := 91) rfl)
set_option maxRecDepth 100000 in
theorem cw_1881 : (Jvm.Cond.code ({ cls := "BlueBagModel", name := "bitsOf", desc := "(I)I" } : Jvm.MethodName) prog_14_method_8_code (3 : Nat) (Option.some Jvm.ClassFile.FieldType.int)) ∈ lw_tbl := tin_8 (List.mem_of_getElem? (i := 94) rfl)
set_option maxRecDepth 100000 in
theorem cw_1885 : (Jvm.Cond.code ({ cls := "BlueBagModel", name := "fadesOf", desc := "(I)I" } : Jvm.MethodName) prog_14_method_55_code (3 : Nat) (Option.some Jvm.ClassFile.FieldType.int)) ∈ lw_tbl := tin_8 (List.mem_of_getElem? (i := 98) rfl)
set_option maxRecDepth 100000 in
theorem cw_1889 : (Jvm.Cond.code ({ cls := "BlueBagModel", name := "rest", desc := "(IZ)Z" } : Jvm.MethodName) prog_14_method_69_code (3 : Nat) (Option.some Jvm.ClassFile.FieldType.boolean)) ∈ lw_tbl := tin_8 (List.mem_of_getElem? (i := 102) rfl)
set_option maxRecDepth 100000 in
theorem cw_1893 : (Jvm.Cond.code ({ cls := "BlueBagModel", name := "failing", desc := "(I)Z" } : Jvm.MethodName) prog_14_method_5_code (2 : Nat) (Option.some Jvm.ClassFile.FieldType.boolean)) ∈ lw_tbl := tin_8 (List.mem_of_getElem? (i := 106) rfl)
set_option maxRecDepth 100000 in
theorem cw_1897 : (Jvm.Cond.code ({ cls := "BlueBagModel", name := "go", desc := "(II)I" } : Jvm.MethodName) prog_14_method_70_code (4 : Nat) (Option.some Jvm.ClassFile.FieldType.int)) ∈ lw_tbl := tin_8 (List.mem_of_getElem? (i := 110) rfl)
set_option maxRecDepth 100000 in
theorem cw_1901 : (Jvm.Cond.code ({ cls := "BlueBagModel", name := "bag", desc := "(I)I" } : Jvm.MethodName) prog_14_method_71_code (2 : Nat) (Option.some Jvm.ClassFile.FieldType.int)) ∈ lw_tbl := tin_8 (List.mem_of_getElem? (i := 114) rfl)
set_option maxRecDepth 100000 in
theorem cw_1906 : (Jvm.Cond.code ({ cls := "BlueBagModel", name := "peg", desc := "(IZ)I" } : Jvm.MethodName) prog_14_method_72_code (4 : Nat) (Option.some Jvm.ClassFile.FieldType.int)) ∈ lw_tbl := tin_8 (List.mem_of_getElem? (i := 119) rfl)
set_option maxRecDepth 100000 in
theorem cw_1910 : (Jvm.Cond.code ({ cls := "BlueBagModel", name := "undo", desc := "()I" } : Jvm.MethodName) prog_14_method_73_code (1 : Nat) (Option.some Jvm.ClassFile.FieldType.int)) ∈ lw_tbl := tin_8 (List.mem_of_getElem? (i := 123) rfl)
set_option maxRecDepth 100000 in
theorem cw_1914 : (Jvm.Cond.code ({ cls := "BlueBagModel", name := "unpack", desc := "([II)V" } : Jvm.MethodName) prog_14_method_45_code (4 : Nat) (Option.none : Option Jvm.ClassFile.FieldType)) ∈ lw_tbl := tin_8 (List.mem_of_getElem? (i := 127) rfl)
set_option maxRecDepth 100000 in
theorem cw_1918 : (Jvm.Cond.code ({ cls := "BlueBagModel", name := "then", desc := "(II)I" } : Jvm.MethodName) prog_14_method_74_code (4 : Nat) (Option.some Jvm.ClassFile.FieldType.int)) ∈ lw_tbl := tin_8 (List.mem_of_getElem? (i := 131) rfl)
set_option maxRecDepth 100000 in
theorem cw_1923 : (Jvm.Cond.code ({ cls := "BlueBagModel", name := "sky", desc := "(II)I" } : Jvm.MethodName) prog_14_method_77_code (4 : Nat) (Option.some Jvm.ClassFile.FieldType.int)) ∈ lw_tbl := tin_8 (List.mem_of_getElem? (i := 136) rfl)
set_option maxRecDepth 100000 in
theorem cw_1928 : (Jvm.Cond.code ({ cls := "BlueBagModel", name := "uneven", desc := "()I" } : Jvm.MethodName) prog_14_method_76_code (1 : Nat) (Option.some Jvm.ClassFile.FieldType.int)) ∈ lw_tbl := tin_8 (List.mem_of_getElem? (i := 141) rfl)
set_option maxRecDepth 100000 in
theorem cw_1932 : (Jvm.Cond.code ({ cls := "BlueBagModel", name := "extreme", desc := "(Z)I" } : Jvm.MethodName) prog_14_method_75_code (4 : Nat) (Option.some Jvm.ClassFile.FieldType.int)) ∈ lw_tbl := tin_8 (List.mem_of_getElem? (i := 145) rfl)
set_option maxRecDepth 100000 in
theorem cw_1936 : (Jvm.Cond.code ({ cls := "BlueBagModel", name := "overdone", desc := "(I)I" } : Jvm.MethodName) prog_14_method_78_code (2 : Nat) (Option.some Jvm.ClassFile.FieldType.int)) ∈ lw_tbl := tin_8 (List.mem_of_getElem? (i := 149) rfl)
set_option maxRecDepth 100000 in
theorem cw_1940 : (Jvm.Cond.code ({ cls := "BlueBagModel", name := "first", desc := "(I)I" } : Jvm.MethodName) prog_14_method_79_code (4 : Nat) (Option.some Jvm.ClassFile.FieldType.int)) ∈ lw_tbl := tin_8 (List.mem_of_getElem? (i := 153) rfl)
set_option maxRecDepth 100000 in
theorem cw_1944 : (Jvm.Cond.code ({ cls := "BlueBagModel", name := "spent", desc := "()I" } : Jvm.MethodName) prog_14_method_80_code (3 : Nat) (Option.some Jvm.ClassFile.FieldType.int)) ∈ lw_tbl := tin_8 (List.mem_of_getElem? (i := 157) rfl)
set_option maxRecDepth 100000 in
theorem cw_1948 : (Jvm.Cond.code ({ cls := "BlueBagModel", name := "band", desc := "(I)I" } : Jvm.MethodName) prog_14_method_81_code (7 : Nat) (Option.some Jvm.ClassFile.FieldType.int)) ∈ lw_tbl := tin_8 (List.mem_of_getElem? (i := 161) rfl)
set_option maxRecDepth 100000 in
theorem cw_1952 : (Jvm.Cond.code ({ cls := "BlueBagModel", name := "steady", desc := "()I" } : Jvm.MethodName) prog_14_method_82_code (5 : Nat) (Option.some Jvm.ClassFile.FieldType.int)) ∈ lw_tbl := tin_8 (List.mem_of_getElem? (i := 165) rfl)
set_option maxRecDepth 100000 in
theorem cw_1955 : (Jvm.Cond.code ({ cls := "BlueBagModel", name := "copyTo", desc := "([I[I)V" } : Jvm.MethodName) prog_14_method_110_code (3 : Nat) (Option.none : Option Jvm.ClassFile.FieldType)) ∈ lw_tbl := tin_8 (List.mem_of_getElem? (i := 168) rfl)
set_option maxRecDepth 100000 in
theorem cw_1959 : (Jvm.Cond.code ({ cls := "BlueBagModel", name := "streak", desc := "(I)I" } : Jvm.MethodName) prog_14_method_84_code (4 : Nat) (Option.some Jvm.ClassFile.FieldType.int)) ∈ lw_tbl := tin_8 (List.mem_of_getElem? (i := 172) rfl)
set_option maxRecDepth 100000 in
theorem cw_1963 : (Jvm.Cond.code ({ cls := "BlueBagModel", name := "streakFrom", desc := "(I)I" } : Jvm.MethodName) prog_14_method_83_code (3 : Nat) (Option.some Jvm.ClassFile.FieldType.int)) ∈ lw_tbl := tin_8 (List.mem_of_getElem? (i := 176) rfl)
set_option maxRecDepth 100000 in
theorem cw_1967 : (Jvm.Cond.code ({ cls := "BlueBagModel", name := "patch", desc := "(II)I" } : Jvm.MethodName) prog_14_method_85_code (3 : Nat) (Option.some Jvm.ClassFile.FieldType.int)) ∈ lw_tbl := tin_8 (List.mem_of_getElem? (i := 180) rfl)
set_option maxRecDepth 100000 in
theorem cw_1972 : (Jvm.Cond.code ({ cls := "BlueBagModel", name := "patches", desc := "(I)I" } : Jvm.MethodName) prog_14_method_86_code (5 : Nat) (Option.some Jvm.ClassFile.FieldType.int)) ∈ lw_tbl := tin_8 (List.mem_of_getElem? (i := 185) rfl)
set_option maxRecDepth 100000 in
theorem cw_1976 : (Jvm.Cond.code ({ cls := "BlueBagModel", name := "way", desc := "(II)I" } : Jvm.MethodName) prog_14_method_87_code (7 : Nat) (Option.some Jvm.ClassFile.FieldType.int)) ∈ lw_tbl := tin_8 (List.mem_of_getElem? (i := 189) rfl)
set_option maxRecDepth 100000 in
theorem cw_1980 : (Jvm.Cond.code ({ cls := "BlueBagModel", name := "toRest", desc := "()I" } : Jvm.MethodName) prog_14_method_89_code (6 : Nat) (Option.some Jvm.ClassFile.FieldType.int)) ∈ lw_tbl := tin_8 (List.mem_of_getElem? (i := 193) rfl)
set_option maxRecDepth 100000 in
theorem cw_1984 : (Jvm.Cond.code ({ cls := "BlueBagModel", name := "unevenNext", desc := "()I" } : Jvm.MethodName) prog_14_method_88_code (2 : Nat) (Option.some Jvm.ClassFile.FieldType.int)) ∈ lw_tbl := tin_8 (List.mem_of_getElem? (i := 197) rfl)
set_option maxRecDepth 100000 in
theorem cw_1988 : (Jvm.Cond.code ({ cls := "BlueBagModel", name := "toStand", desc := "(II)I" } : Jvm.MethodName) prog_14_method_90_code (8 : Nat) (Option.some Jvm.ClassFile.FieldType.int)) ∈ lw_tbl := tin_8 (List.mem_of_getElem? (i := 201) rfl)
set_option maxRecDepth 100000 in
theorem cw_1992 : (Jvm.Cond.code ({ cls := "BlueBagModel", name := "toSwish", desc := "(II)I" } : Jvm.MethodName) prog_14_method_91_code (4 : Nat) (Option.some Jvm.ClassFile.FieldType.int)) ∈ lw_tbl := tin_8 (List.mem_of_getElem? (i := 205) rfl)
set_option maxRecDepth 100000 in
theorem cw_1996 : (Jvm.Cond.code ({ cls := "BlueBagModel", name := "missed", desc := "(I)I" } : Jvm.MethodName) prog_14_method_92_code (4 : Nat) (Option.some Jvm.ClassFile.FieldType.int)) ∈ lw_tbl := tin_8 (List.mem_of_getElem? (i := 209) rfl)
set_option maxRecDepth 100000 in
theorem cw_2000 : (Jvm.Cond.code ({ cls := "BlueBagModel", name := "steps", desc := "(II)I" } : Jvm.MethodName) prog_14_method_93_code (3 : Nat) (Option.some Jvm.ClassFile.FieldType.int)) ∈ lw_tbl := tin_8 (List.mem_of_getElem? (i := 213) rfl)
set_option maxRecDepth 100000 in
theorem cw_2004 : (Jvm.Cond.code ({ cls := "BlueBagModel", name := "nearest", desc := "(I)I" } : Jvm.MethodName) prog_14_method_94_code (4 : Nat) (Option.some Jvm.ClassFile.FieldType.int)) ∈ lw_tbl := tin_8 (List.mem_of_getElem? (i := 217) rfl)
set_option maxRecDepth 100000 in
theorem cw_2008 : (Jvm.Cond.code ({ cls := "BlueBagModel", name := "sent", desc := "(II)I" } : Jvm.MethodName) prog_14_method_97_code (8 : Nat) (Option.some Jvm.ClassFile.FieldType.int)) ∈ lw_tbl := tin_8 (List.mem_of_getElem? (i := 221) rfl)
set_option maxRecDepth 100000 in
theorem cw_2012 : (Jvm.Cond.code ({ cls := "BlueBagModel", name := "tellLeast", desc := "(I)V" } : Jvm.MethodName) prog_14_method_96_code (7 : Nat) (Option.none : Option Jvm.ClassFile.FieldType)) ∈ lw_tbl := tin_8 (List.mem_of_getElem? (i := 225) rfl)
set_option maxRecDepth 100000 in
theorem cw_2016 : (Jvm.Cond.code ({ cls := "BlueBagModel", name := "with", desc := "(III)I" } : Jvm.MethodName) prog_14_method_95_code (4 : Nat) (Option.some Jvm.ClassFile.FieldType.int)) ∈ lw_tbl := tin_8 (List.mem_of_getElem? (i := 229) rfl)
set_option maxRecDepth 100000 in
theorem cw_2020 : (Jvm.Cond.code ({ cls := "BlueBagModel", name := "see", desc := "(III)I" } : Jvm.MethodName) prog_14_method_98_code (4 : Nat) (Option.some Jvm.ClassFile.FieldType.int)) ∈ lw_tbl := tin_8 (List.mem_of_getElem? (i := 233) rfl)
set_option maxRecDepth 100000 in
theorem cw_2024 : (Jvm.Cond.code ({ cls := "BlueBagModel", name := "skilled", desc := "(I)I" } : Jvm.MethodName) prog_14_method_101_code (2 : Nat) (Option.some Jvm.ClassFile.FieldType.int)) ∈ lw_tbl := tin_8 (List.mem_of_getElem? (i := 237) rfl)
def nd_25 : List Cond := [(Jvm.Cond.instanceMethod ({ cls := "BlueBagModel", name := "isCell", desc := "(I)Z" } : Jvm.MethodName)), (Jvm.Cond.methodLink "BlueBagModel" (157 : Nat) ({ cls := "BlueBagModel", name := "isIn", desc := "(JJJ)Z" } : Jvm.MethodName)), (Jvm.Cond.static ({ cls := "BlueBagModel", name := "isIn", desc := "(JJJ)Z" } : Jvm.MethodName)), (Jvm.Cond.methodLink "BlueBagModel" (363 : Nat) ({ cls := "BlueBagModel", name := "besideOf", desc := "(I)I" } : Jvm.MethodName)), (Jvm.Cond.instanceMethod ({ cls := "BlueBagModel", name := "besideOf", desc := "(I)I" } : Jvm.MethodName)), (Jvm.Cond.methodLink "BlueBagModel" (360 : Nat) ({ cls := "BlueBagModel", name := "farOf", desc := "(II)I" } : Jvm.MethodName)), (Jvm.Cond.instanceMethod ({ cls := "BlueBagModel", name := "farOf", desc := "(II)I" } : Jvm.MethodName)), (Jvm.Cond.methodLink "BlueBagModel" (351 : Nat) ({ cls := "BlueBagModel", name := "columnOf", desc := "(I)I" } : Jvm.MethodName)), (Jvm.Cond.instanceMethod ({ cls := "BlueBagModel", name := "columnOf", desc := "(I)I" } : Jvm.MethodName)), (Jvm.Cond.methodLink "BlueBagModel" (354 : Nat) ({ cls := "java/lang/Math", name := "abs", desc := "(I)I" } : Jvm.MethodName)), (Jvm.Cond.methodLink "BlueBagModel" (357 : Nat) ({ cls := "BlueBagModel", name := "rowOf", desc := "(I)I" } : Jvm.MethodName)), (Jvm.Cond.instanceMethod ({ cls := "BlueBagModel", name := "rowOf", desc := "(I)I" } : Jvm.MethodName)), (Jvm.Cond.methodLink "BlueBagModel" (411 : Nat) ({ cls := "BlueBagModel", name := "girlsAt", desc := "(I)I" } : Jvm.MethodName)), (Jvm.Cond.instanceMethod ({ cls := "BlueBagModel", name := "girlsAt", desc := "(I)I" } : Jvm.MethodName)), (Jvm.Cond.methodLink "BlueBagModel" (414 : Nat) ({ cls := "BlueBagModel", name := "patchOf", desc := "(II)I" } : Jvm.MethodName)), (Jvm.Cond.instanceMethod ({ cls := "BlueBagModel", name := "patchOf", desc := "(II)I" } : Jvm.MethodName)), (Jvm.Cond.methodLink "BlueBagLaw" (128 : Nat) ({ cls := "BlueBagModel", name := "girl", desc := "(II)I" } : Jvm.MethodName)), (Jvm.Cond.instanceMethod ({ cls := "BlueBagModel", name := "girl", desc := "(II)I" } : Jvm.MethodName)), (Jvm.Cond.selects "BlueBagModel" ({ cls := "BlueBagModel", name := "girl", desc := "(II)I" } : Jvm.MethodName) ({ cls := "BlueBagModel", name := "girl", desc := "(II)I" } : Jvm.MethodName)), (Jvm.Cond.methodLink "BlueBagModel" (417 : Nat) ({ cls := "BlueBagModel", name := "isGirl", desc := "(I)Z" } : Jvm.MethodName)), (Jvm.Cond.instanceMethod ({ cls := "BlueBagModel", name := "isGirl", desc := "(I)Z" } : Jvm.MethodName)), (Jvm.Cond.methodLink "BlueBagModel" (380 : Nat) ({ cls := "java/lang/Math", name := "max", desc := "(II)I" } : Jvm.MethodName)), (Jvm.Cond.methodLink "BlueBagModel" (383 : Nat) ({ cls := "BlueBagModel", name := "dyesOf", desc := "(II)I" } : Jvm.MethodName)), (Jvm.Cond.instanceMethod ({ cls := "BlueBagModel", name := "dyesOf", desc := "(II)I" } : Jvm.MethodName)), (Jvm.Cond.methodLink "BlueBagModel" (373 : Nat) ({ cls := "BlueBagModel", name := "ask", desc := "(I)V" } : Jvm.MethodName)), (Jvm.Cond.instanceMethod ({ cls := "BlueBagModel", name := "ask", desc := "(I)V" } : Jvm.MethodName)), (Jvm.Cond.methodLink "BlueBagModel" (370 : Nat) ({ cls := "BlueBagModel", name := "blueBeside", desc := "(I)I" } : Jvm.MethodName)), (Jvm.Cond.instanceMethod ({ cls := "BlueBagModel", name := "blueBeside", desc := "(I)I" } : Jvm.MethodName)), (Jvm.Cond.methodLink "BlueBagModel" (376 : Nat) ({ cls := "BlueBagModel", name := "valueNow", desc := "([II)I" } : Jvm.MethodName)), (Jvm.Cond.instanceMethod ({ cls := "BlueBagModel", name := "valueNow", desc := "([II)I" } : Jvm.MethodName)), (Jvm.Cond.methodLink "BlueBagModel" (366 : Nat) ({ cls := "BlueBagModel", name := "reckon", desc := "(III)I" } : Jvm.MethodName)), (Jvm.Cond.static ({ cls := "BlueBagModel", name := "reckon", desc := "(III)I" } : Jvm.MethodName)), (Jvm.Cond.methodLink "BlueBagLaw" (132 : Nat) ({ cls := "BlueBagModel", name := "days", desc := "(I)I" } : Jvm.MethodName)), (Jvm.Cond.instanceMethod ({ cls := "BlueBagModel", name := "days", desc := "(I)I" } : Jvm.MethodName)), (Jvm.Cond.selects "BlueBagModel" ({ cls := "BlueBagModel", name := "days", desc := "(I)I" } : Jvm.MethodName) ({ cls := "BlueBagModel", name := "days", desc := "(I)I" } : Jvm.MethodName)), (Jvm.Cond.constantLong "BlueBagModel" (424 : Nat) (20 : Int64)), (Jvm.Cond.methodLink "BlueBagModel" (426 : Nat) ({ cls := "BlueBagModel", name := "refuse", desc := "(I)I" } : Jvm.MethodName)), (Jvm.Cond.instanceMethod ({ cls := "BlueBagModel", name := "refuse", desc := "(I)I" } : Jvm.MethodName)), (Jvm.Cond.methodLink "BlueBagModel" (429 : Nat) ({ cls := "BlueBagModel", name := "keep", desc := "()V" } : Jvm.MethodName)), (Jvm.Cond.instanceMethod ({ cls := "BlueBagModel", name := "keep", desc := "()V" } : Jvm.MethodName)), (Jvm.Cond.methodLink "BlueBagModel" (420 : Nat) ({ cls := "BlueBagModel", name := "pack", desc := "([II)V" } : Jvm.MethodName)), (Jvm.Cond.instanceMethod ({ cls := "BlueBagModel", name := "pack", desc := "([II)V" } : Jvm.MethodName)), (Jvm.Cond.methodLink "BlueBagModel" (432 : Nat) ({ cls := "BlueBagModel", name := "goOn", desc := "(I)V" } : Jvm.MethodName)), (Jvm.Cond.instanceMethod ({ cls := "BlueBagModel", name := "goOn", desc := "(I)V" } : Jvm.MethodName)), (Jvm.Cond.methodLink "BlueBagModel" (402 : Nat) ({ cls := "BlueBagModel", name := "aDay", desc := "()V" } : Jvm.MethodName)), (Jvm.Cond.instanceMethod ({ cls := "BlueBagModel", name := "aDay", desc := "()V" } : Jvm.MethodName)), (Jvm.Cond.methodLink "BlueBagModel" (390 : Nat) ({ cls := "BlueBagModel", name := "swish", desc := "(II)V" } : Jvm.MethodName)), (Jvm.Cond.instanceMethod ({ cls := "BlueBagModel", name := "swish", desc := "(II)V" } : Jvm.MethodName)), (Jvm.Cond.methodLink "BlueBagModel" (386 : Nat) ({ cls := "BlueBagModel", name := "dye", desc := "(II)V" } : Jvm.MethodName)), (Jvm.Cond.instanceMethod ({ cls := "BlueBagModel", name := "dye", desc := "(II)V" } : Jvm.MethodName)), (Jvm.Cond.methodLink "BlueBagModel" (396 : Nat) ({ cls := "BlueBagModel", name := "bitsOf", desc := "(I)I" } : Jvm.MethodName)), (Jvm.Cond.static ({ cls := "BlueBagModel", name := "bitsOf", desc := "(I)I" } : Jvm.MethodName)), (Jvm.Cond.methodLink "BlueBagModel" (399 : Nat) ({ cls := "BlueBagModel", name := "fadesOf", desc := "(I)I" } : Jvm.MethodName)), (Jvm.Cond.instanceMethod ({ cls := "BlueBagModel", name := "fadesOf", desc := "(I)I" } : Jvm.MethodName)), (Jvm.Cond.methodLink "BlueBagLaw" (136 : Nat) ({ cls := "BlueBagModel", name := "rest", desc := "(IZ)Z" } : Jvm.MethodName)), (Jvm.Cond.instanceMethod ({ cls := "BlueBagModel", name := "rest", desc := "(IZ)Z" } : Jvm.MethodName)), (Jvm.Cond.selects "BlueBagModel" ({ cls := "BlueBagModel", name := "rest", desc := "(IZ)Z" } : Jvm.MethodName) ({ cls := "BlueBagModel", name := "rest", desc := "(IZ)Z" } : Jvm.MethodName)), (Jvm.Cond.methodLink "BlueBagModel" (435 : Nat) ({ cls := "BlueBagModel", name := "failing", desc := "(I)Z" } : Jvm.MethodName)), (Jvm.Cond.instanceMethod ({ cls := "BlueBagModel", name := "failing", desc := "(I)Z" } : Jvm.MethodName)), (Jvm.Cond.methodLink "BlueBagLaw" (139 : Nat) ({ cls := "BlueBagModel", name := "go", desc := "(II)I" } : Jvm.MethodName))]
set_option maxRecDepth 100000 in
theorem sb_25 : isSub nd_25 ((tables_1_8).drop 1) = true := by decide +kernel
theorem im_25 {i : Nat} {w : Cond} (h : nd_25[i]? = some w) : w ∈ lw_tbl := tin_8 (List.mem_of_mem_drop (isSub_mem _ _ sb_25 w (List.mem_of_getElem? h)))
def nd_26 : List Cond := [(Jvm.Cond.instanceMethod ({ cls := "BlueBagModel", name := "go", desc := "(II)I" } : Jvm.MethodName)), (Jvm.Cond.selects "BlueBagModel" ({ cls := "BlueBagModel", name := "go", desc := "(II)I" } : Jvm.MethodName) ({ cls := "BlueBagModel", name := "go", desc := "(II)I" } : Jvm.MethodName)), (Jvm.Cond.methodLink "BlueBagLaw" (143 : Nat) ({ cls := "BlueBagModel", name := "bag", desc := "(I)I" } : Jvm.MethodName)), (Jvm.Cond.instanceMethod ({ cls := "BlueBagModel", name := "bag", desc := "(I)I" } : Jvm.MethodName)), (Jvm.Cond.selects "BlueBagModel" ({ cls := "BlueBagModel", name := "bag", desc := "(I)I" } : Jvm.MethodName) ({ cls := "BlueBagModel", name := "bag", desc := "(I)I" } : Jvm.MethodName)), (Jvm.Cond.constantLong "BlueBagModel" (438 : Nat) (50 : Int64)), (Jvm.Cond.methodLink "BlueBagLaw" (146 : Nat) ({ cls := "BlueBagModel", name := "peg", desc := "(IZ)I" } : Jvm.MethodName)), (Jvm.Cond.instanceMethod ({ cls := "BlueBagModel", name := "peg", desc := "(IZ)I" } : Jvm.MethodName)), (Jvm.Cond.selects "BlueBagModel" ({ cls := "BlueBagModel", name := "peg", desc := "(IZ)I" } : Jvm.MethodName) ({ cls := "BlueBagModel", name := "peg", desc := "(IZ)I" } : Jvm.MethodName)), (Jvm.Cond.methodLink "BlueBagLaw" (150 : Nat) ({ cls := "BlueBagModel", name := "undo", desc := "()I" } : Jvm.MethodName)), (Jvm.Cond.instanceMethod ({ cls := "BlueBagModel", name := "undo", desc := "()I" } : Jvm.MethodName)), (Jvm.Cond.selects "BlueBagModel" ({ cls := "BlueBagModel", name := "undo", desc := "()I" } : Jvm.MethodName) ({ cls := "BlueBagModel", name := "undo", desc := "()I" } : Jvm.MethodName)), (Jvm.Cond.methodLink "BlueBagModel" (440 : Nat) ({ cls := "BlueBagModel", name := "unpack", desc := "([II)V" } : Jvm.MethodName)), (Jvm.Cond.instanceMethod ({ cls := "BlueBagModel", name := "unpack", desc := "([II)V" } : Jvm.MethodName)), (Jvm.Cond.methodLink "BlueBagLaw" (153 : Nat) ({ cls := "BlueBagModel", name := "then", desc := "(II)I" } : Jvm.MethodName)), (Jvm.Cond.instanceMethod ({ cls := "BlueBagModel", name := "then", desc := "(II)I" } : Jvm.MethodName)), (Jvm.Cond.selects "BlueBagModel" ({ cls := "BlueBagModel", name := "then", desc := "(II)I" } : Jvm.MethodName) ({ cls := "BlueBagModel", name := "then", desc := "(II)I" } : Jvm.MethodName)), (Jvm.Cond.constantLong "BlueBagModel" (443 : Nat) (40 : Int64)), (Jvm.Cond.methodLink "BlueBagLaw" (156 : Nat) ({ cls := "BlueBagModel", name := "sky", desc := "(II)I" } : Jvm.MethodName)), (Jvm.Cond.instanceMethod ({ cls := "BlueBagModel", name := "sky", desc := "(II)I" } : Jvm.MethodName)), (Jvm.Cond.selects "BlueBagModel" ({ cls := "BlueBagModel", name := "sky", desc := "(II)I" } : Jvm.MethodName) ({ cls := "BlueBagModel", name := "sky", desc := "(II)I" } : Jvm.MethodName)), (Jvm.Cond.constantLong "BlueBagModel" (449 : Nat) (4 : Int64)), (Jvm.Cond.methodLink "BlueBagModel" (451 : Nat) ({ cls := "BlueBagModel", name := "uneven", desc := "()I" } : Jvm.MethodName)), (Jvm.Cond.instanceMethod ({ cls := "BlueBagModel", name := "uneven", desc := "()I" } : Jvm.MethodName)), (Jvm.Cond.methodLink "BlueBagModel" (445 : Nat) ({ cls := "BlueBagModel", name := "extreme", desc := "(Z)I" } : Jvm.MethodName)), (Jvm.Cond.instanceMethod ({ cls := "BlueBagModel", name := "extreme", desc := "(Z)I" } : Jvm.MethodName)), (Jvm.Cond.methodLink "BlueBagLaw" (159 : Nat) ({ cls := "BlueBagModel", name := "overdone", desc := "(I)I" } : Jvm.MethodName)), (Jvm.Cond.instanceMethod ({ cls := "BlueBagModel", name := "overdone", desc := "(I)I" } : Jvm.MethodName)), (Jvm.Cond.selects "BlueBagModel" ({ cls := "BlueBagModel", name := "overdone", desc := "(I)I" } : Jvm.MethodName) ({ cls := "BlueBagModel", name := "overdone", desc := "(I)I" } : Jvm.MethodName)), (Jvm.Cond.methodLink "BlueBagLaw" (162 : Nat) ({ cls := "BlueBagModel", name := "first", desc := "(I)I" } : Jvm.MethodName)), (Jvm.Cond.instanceMethod ({ cls := "BlueBagModel", name := "first", desc := "(I)I" } : Jvm.MethodName)), (Jvm.Cond.selects "BlueBagModel" ({ cls := "BlueBagModel", name := "first", desc := "(I)I" } : Jvm.MethodName) ({ cls := "BlueBagModel", name := "first", desc := "(I)I" } : Jvm.MethodName)), (Jvm.Cond.methodLink "BlueBagLaw" (166 : Nat) ({ cls := "BlueBagModel", name := "spent", desc := "()I" } : Jvm.MethodName)), (Jvm.Cond.instanceMethod ({ cls := "BlueBagModel", name := "spent", desc := "()I" } : Jvm.MethodName)), (Jvm.Cond.selects "BlueBagModel" ({ cls := "BlueBagModel", name := "spent", desc := "()I" } : Jvm.MethodName) ({ cls := "BlueBagModel", name := "spent", desc := "()I" } : Jvm.MethodName)), (Jvm.Cond.methodLink "BlueBagLaw" (194 : Nat) ({ cls := "BlueBagModel", name := "band", desc := "(I)I" } : Jvm.MethodName)), (Jvm.Cond.instanceMethod ({ cls := "BlueBagModel", name := "band", desc := "(I)I" } : Jvm.MethodName)), (Jvm.Cond.selects "BlueBagModel" ({ cls := "BlueBagModel", name := "band", desc := "(I)I" } : Jvm.MethodName) ({ cls := "BlueBagModel", name := "band", desc := "(I)I" } : Jvm.MethodName)), (Jvm.Cond.methodLink "BlueBagLaw" (198 : Nat) ({ cls := "BlueBagModel", name := "steady", desc := "()I" } : Jvm.MethodName)), (Jvm.Cond.instanceMethod ({ cls := "BlueBagModel", name := "steady", desc := "()I" } : Jvm.MethodName)), (Jvm.Cond.selects "BlueBagModel" ({ cls := "BlueBagModel", name := "steady", desc := "()I" } : Jvm.MethodName) ({ cls := "BlueBagModel", name := "steady", desc := "()I" } : Jvm.MethodName)), (Jvm.Cond.methodLink "BlueBagModel" (454 : Nat) ({ cls := "BlueBagModel", name := "copyTo", desc := "([I[I)V" } : Jvm.MethodName)), (Jvm.Cond.static ({ cls := "BlueBagModel", name := "copyTo", desc := "([I[I)V" } : Jvm.MethodName)), (Jvm.Cond.methodLink "BlueBagLaw" (169 : Nat) ({ cls := "BlueBagModel", name := "streak", desc := "(I)I" } : Jvm.MethodName)), (Jvm.Cond.instanceMethod ({ cls := "BlueBagModel", name := "streak", desc := "(I)I" } : Jvm.MethodName)), (Jvm.Cond.selects "BlueBagModel" ({ cls := "BlueBagModel", name := "streak", desc := "(I)I" } : Jvm.MethodName) ({ cls := "BlueBagModel", name := "streak", desc := "(I)I" } : Jvm.MethodName)), (Jvm.Cond.methodLink "BlueBagModel" (458 : Nat) ({ cls := "BlueBagModel", name := "streakFrom", desc := "(I)I" } : Jvm.MethodName)), (Jvm.Cond.instanceMethod ({ cls := "BlueBagModel", name := "streakFrom", desc := "(I)I" } : Jvm.MethodName)), (Jvm.Cond.methodLink "BlueBagLaw" (172 : Nat) ({ cls := "BlueBagModel", name := "patch", desc := "(II)I" } : Jvm.MethodName)), (Jvm.Cond.instanceMethod ({ cls := "BlueBagModel", name := "patch", desc := "(II)I" } : Jvm.MethodName)), (Jvm.Cond.selects "BlueBagModel" ({ cls := "BlueBagModel", name := "patch", desc := "(II)I" } : Jvm.MethodName) ({ cls := "BlueBagModel", name := "patch", desc := "(II)I" } : Jvm.MethodName)), (Jvm.Cond.constantLong "BlueBagModel" (461 : Nat) (99 : Int64)), (Jvm.Cond.methodLink "BlueBagLaw" (175 : Nat) ({ cls := "BlueBagModel", name := "patches", desc := "(I)I" } : Jvm.MethodName)), (Jvm.Cond.instanceMethod ({ cls := "BlueBagModel", name := "patches", desc := "(I)I" } : Jvm.MethodName)), (Jvm.Cond.selects "BlueBagModel" ({ cls := "BlueBagModel", name := "patches", desc := "(I)I" } : Jvm.MethodName) ({ cls := "BlueBagModel", name := "patches", desc := "(I)I" } : Jvm.MethodName)), (Jvm.Cond.methodLink "BlueBagLaw" (178 : Nat) ({ cls := "BlueBagModel", name := "way", desc := "(II)I" } : Jvm.MethodName)), (Jvm.Cond.instanceMethod ({ cls := "BlueBagModel", name := "way", desc := "(II)I" } : Jvm.MethodName)), (Jvm.Cond.selects "BlueBagModel" ({ cls := "BlueBagModel", name := "way", desc := "(II)I" } : Jvm.MethodName) ({ cls := "BlueBagModel", name := "way", desc := "(II)I" } : Jvm.MethodName)), (Jvm.Cond.methodLink "BlueBagLaw" (182 : Nat) ({ cls := "BlueBagModel", name := "toRest", desc := "()I" } : Jvm.MethodName)), (Jvm.Cond.instanceMethod ({ cls := "BlueBagModel", name := "toRest", desc := "()I" } : Jvm.MethodName))]
set_option maxRecDepth 100000 in
theorem sb_26 : isSub nd_26 ((tables_1_8).drop 108) = true := by decide +kernel
theorem im_26 {i : Nat} {w : Cond} (h : nd_26[i]? = some w) : w ∈ lw_tbl := tin_8 (List.mem_of_mem_drop (isSub_mem _ _ sb_26 w (List.mem_of_getElem? h)))
def nd_27 : List Cond := [(Jvm.Cond.selects "BlueBagModel" ({ cls := "BlueBagModel", name := "toRest", desc := "()I" } : Jvm.MethodName) ({ cls := "BlueBagModel", name := "toRest", desc := "()I" } : Jvm.MethodName)), (Jvm.Cond.methodLink "BlueBagModel" (463 : Nat) ({ cls := "BlueBagModel", name := "unevenNext", desc := "()I" } : Jvm.MethodName)), (Jvm.Cond.instanceMethod ({ cls := "BlueBagModel", name := "unevenNext", desc := "()I" } : Jvm.MethodName)), (Jvm.Cond.methodLink "BlueBagLaw" (185 : Nat) ({ cls := "BlueBagModel", name := "toStand", desc := "(II)I" } : Jvm.MethodName)), (Jvm.Cond.instanceMethod ({ cls := "BlueBagModel", name := "toStand", desc := "(II)I" } : Jvm.MethodName)), (Jvm.Cond.selects "BlueBagModel" ({ cls := "BlueBagModel", name := "toStand", desc := "(II)I" } : Jvm.MethodName) ({ cls := "BlueBagModel", name := "toStand", desc := "(II)I" } : Jvm.MethodName)), (Jvm.Cond.methodLink "BlueBagLaw" (188 : Nat) ({ cls := "BlueBagModel", name := "toSwish", desc := "(II)I" } : Jvm.MethodName)), (Jvm.Cond.instanceMethod ({ cls := "BlueBagModel", name := "toSwish", desc := "(II)I" } : Jvm.MethodName)), (Jvm.Cond.selects "BlueBagModel" ({ cls := "BlueBagModel", name := "toSwish", desc := "(II)I" } : Jvm.MethodName) ({ cls := "BlueBagModel", name := "toSwish", desc := "(II)I" } : Jvm.MethodName)), (Jvm.Cond.methodLink "BlueBagLaw" (207 : Nat) ({ cls := "BlueBagModel", name := "missed", desc := "(I)I" } : Jvm.MethodName)), (Jvm.Cond.instanceMethod ({ cls := "BlueBagModel", name := "missed", desc := "(I)I" } : Jvm.MethodName)), (Jvm.Cond.selects "BlueBagModel" ({ cls := "BlueBagModel", name := "missed", desc := "(I)I" } : Jvm.MethodName) ({ cls := "BlueBagModel", name := "missed", desc := "(I)I" } : Jvm.MethodName)), (Jvm.Cond.methodLink "BlueBagLaw" (201 : Nat) ({ cls := "BlueBagModel", name := "steps", desc := "(II)I" } : Jvm.MethodName)), (Jvm.Cond.instanceMethod ({ cls := "BlueBagModel", name := "steps", desc := "(II)I" } : Jvm.MethodName)), (Jvm.Cond.selects "BlueBagModel" ({ cls := "BlueBagModel", name := "steps", desc := "(II)I" } : Jvm.MethodName) ({ cls := "BlueBagModel", name := "steps", desc := "(II)I" } : Jvm.MethodName)), (Jvm.Cond.methodLink "BlueBagLaw" (204 : Nat) ({ cls := "BlueBagModel", name := "nearest", desc := "(I)I" } : Jvm.MethodName)), (Jvm.Cond.instanceMethod ({ cls := "BlueBagModel", name := "nearest", desc := "(I)I" } : Jvm.MethodName)), (Jvm.Cond.selects "BlueBagModel" ({ cls := "BlueBagModel", name := "nearest", desc := "(I)I" } : Jvm.MethodName) ({ cls := "BlueBagModel", name := "nearest", desc := "(I)I" } : Jvm.MethodName)), (Jvm.Cond.methodLink "BlueBagLaw" (191 : Nat) ({ cls := "BlueBagModel", name := "sent", desc := "(II)I" } : Jvm.MethodName)), (Jvm.Cond.instanceMethod ({ cls := "BlueBagModel", name := "sent", desc := "(II)I" } : Jvm.MethodName)), (Jvm.Cond.selects "BlueBagModel" ({ cls := "BlueBagModel", name := "sent", desc := "(II)I" } : Jvm.MethodName) ({ cls := "BlueBagModel", name := "sent", desc := "(II)I" } : Jvm.MethodName)), (Jvm.Cond.methodLink "BlueBagModel" (469 : Nat) ({ cls := "BlueBagModel", name := "tellLeast", desc := "(I)V" } : Jvm.MethodName)), (Jvm.Cond.instanceMethod ({ cls := "BlueBagModel", name := "tellLeast", desc := "(I)V" } : Jvm.MethodName)), (Jvm.Cond.methodLink "BlueBagModel" (466 : Nat) ({ cls := "BlueBagModel", name := "with", desc := "(III)I" } : Jvm.MethodName)), (Jvm.Cond.instanceMethod ({ cls := "BlueBagModel", name := "with", desc := "(III)I" } : Jvm.MethodName)), (Jvm.Cond.methodLink "BlueBagLaw" (211 : Nat) ({ cls := "BlueBagModel", name := "see", desc := "(III)I" } : Jvm.MethodName)), (Jvm.Cond.instanceMethod ({ cls := "BlueBagModel", name := "see", desc := "(III)I" } : Jvm.MethodName)), (Jvm.Cond.selects "BlueBagModel" ({ cls := "BlueBagModel", name := "see", desc := "(III)I" } : Jvm.MethodName) ({ cls := "BlueBagModel", name := "see", desc := "(III)I" } : Jvm.MethodName)), (Jvm.Cond.methodLink "BlueBagLaw" (214 : Nat) ({ cls := "BlueBagModel", name := "skilled", desc := "(I)I" } : Jvm.MethodName)), (Jvm.Cond.instanceMethod ({ cls := "BlueBagModel", name := "skilled", desc := "(I)I" } : Jvm.MethodName)), (Jvm.Cond.selects "BlueBagModel" ({ cls := "BlueBagModel", name := "skilled", desc := "(I)I" } : Jvm.MethodName) ({ cls := "BlueBagModel", name := "skilled", desc := "(I)I" } : Jvm.MethodName)), (Jvm.Cond.constantLong "BlueBagModel" (479 : Nat) (2 : Int64)), (Jvm.Cond.methodLink "BlueBagModel" (475 : Nat) ({ cls := "BlueBagModel", name := "isAsSeen", desc := "()Z" } : Jvm.MethodName))]
set_option maxRecDepth 100000 in
theorem sb_27 : isSub nd_27 ((tables_1_8).drop 192) = true := by decide +kernel
theorem im_27 {i : Nat} {w : Cond} (h : nd_27[i]? = some w) : w ∈ lw_tbl := tin_8 (List.mem_of_mem_drop (isSub_mem _ _ sb_27 w (List.mem_of_getElem? h)))
set_option maxRecDepth 100000 in
theorem cw_2029 : (Jvm.Cond.code ({ cls := "BlueBagModel", name := "isAsSeen", desc := "()Z" } : Jvm.MethodName) prog_14_method_99_code (5 : Nat) (Option.some Jvm.ClassFile.FieldType.boolean)) ∈ lw_tbl := tin_9 (List.mem_of_getElem? (i := 2) rfl)
set_option maxRecDepth 100000 in
theorem cw_2033 : (Jvm.Cond.code ({ cls := "BlueBagModel", name := "tellFits", desc := "()V" } : Jvm.MethodName) prog_14_method_100_code (4 : Nat) (Option.none : Option Jvm.ClassFile.FieldType)) ∈ lw_tbl := tin_9 (List.mem_of_getElem? (i := 6) rfl)
set_option maxRecDepth 100000 in
theorem cw_2037 : (Jvm.Cond.code ({ cls := "BlueBagModel", name := "look", desc := "(I)I" } : Jvm.MethodName) prog_14_method_103_code (6 : Nat) (Option.some Jvm.ClassFile.FieldType.int)) ∈ lw_tbl := tin_9 (List.mem_of_getElem? (i := 10) rfl)
set_option maxRecDepth 100000 in
theorem cw_2041 : (Jvm.Cond.code ({ cls := "BlueBagModel", name := "unlike", desc := "(I)I" } : Jvm.MethodName) prog_14_method_102_code (6 : Nat) (Option.some Jvm.ClassFile.FieldType.int)) ∈ lw_tbl := tin_9 (List.mem_of_getElem? (i := 14) rfl)
set_option maxRecDepth 100000 in
theorem cw_2045 : (Jvm.Cond.code ({ cls := "BlueBagModel", name := "forget", desc := "()V" } : Jvm.MethodName) prog_14_method_104_code (1 : Nat) (Option.none : Option Jvm.ClassFile.FieldType)) ∈ lw_tbl := tin_9 (List.mem_of_getElem? (i := 18) rfl)
set_option maxRecDepth 100000 in
theorem cw_2049 : (Jvm.Cond.code ({ cls := "BlueBagModel", name := "game", desc := "(III)I" } : Jvm.MethodName) prog_14_method_106_code (7 : Nat) (Option.some Jvm.ClassFile.FieldType.int)) ∈ lw_tbl := tin_9 (List.mem_of_getElem? (i := 22) rfl)
set_option maxRecDepth 100000 in
theorem cw_2053 : (Jvm.Cond.code ({ cls := "BlueBagModel", name := "tellGains", desc := "(II)V" } : Jvm.MethodName) prog_14_method_105_code (4 : Nat) (Option.none : Option Jvm.ClassFile.FieldType)) ∈ lw_tbl := tin_9 (List.mem_of_getElem? (i := 26) rfl)
set_option maxRecDepth 100000 in
theorem cw_2057 : (Jvm.Cond.code ({ cls := "BlueBagModel", name := "skies", desc := "(III)I" } : Jvm.MethodName) prog_14_method_109_code (6 : Nat) (Option.some Jvm.ClassFile.FieldType.int)) ∈ lw_tbl := tin_9 (List.mem_of_getElem? (i := 30) rfl)
set_option maxRecDepth 100000 in
theorem cw_2061 : (Jvm.Cond.code ({ cls := "BlueBagModel", name := "something", desc := "()V" } : Jvm.MethodName) prog_14_method_108_code (3 : Nat) (Option.none : Option Jvm.ClassFile.FieldType)) ∈ lw_tbl := tin_9 (List.mem_of_getElem? (i := 34) rfl)
set_option maxRecDepth 100000 in
theorem cw_2065 : (Jvm.Cond.code ({ cls := "BlueBagModel", name := "drawOf", desc := "(I)I" } : Jvm.MethodName) prog_14_method_107_code (2 : Nat) (Option.some Jvm.ClassFile.FieldType.int)) ∈ lw_tbl := tin_9 (List.mem_of_getElem? (i := 38) rfl)
set_option maxRecDepth 100000 in
theorem cw_2070 : (Jvm.Cond.code ({ cls := "BlueBagModel", name := "image", desc := "()V" } : Jvm.MethodName) prog_14_method_111_code (1 : Nat) (Option.none : Option Jvm.ClassFile.FieldType)) ∈ lw_tbl := tin_9 (List.mem_of_getElem? (i := 43) rfl)
set_option maxRecDepth 100000 in
theorem cw_2074 : (Jvm.Cond.code ({ cls := "BlueBagModel", name := "restore", desc := "()Z" } : Jvm.MethodName) prog_14_method_112_code (1 : Nat) (Option.some Jvm.ClassFile.FieldType.boolean)) ∈ lw_tbl := tin_9 (List.mem_of_getElem? (i := 47) rfl)
def nd_28 : List Cond := [(Jvm.Cond.instanceMethod ({ cls := "BlueBagModel", name := "isAsSeen", desc := "()Z" } : Jvm.MethodName)), (Jvm.Cond.methodLink "BlueBagModel" (481 : Nat) ({ cls := "BlueBagModel", name := "tellFits", desc := "()V" } : Jvm.MethodName)), (Jvm.Cond.instanceMethod ({ cls := "BlueBagModel", name := "tellFits", desc := "()V" } : Jvm.MethodName)), (Jvm.Cond.methodLink "BlueBagLaw" (217 : Nat) ({ cls := "BlueBagModel", name := "look", desc := "(I)I" } : Jvm.MethodName)), (Jvm.Cond.instanceMethod ({ cls := "BlueBagModel", name := "look", desc := "(I)I" } : Jvm.MethodName)), (Jvm.Cond.selects "BlueBagModel" ({ cls := "BlueBagModel", name := "look", desc := "(I)I" } : Jvm.MethodName) ({ cls := "BlueBagModel", name := "look", desc := "(I)I" } : Jvm.MethodName)), (Jvm.Cond.methodLink "BlueBagModel" (484 : Nat) ({ cls := "BlueBagModel", name := "unlike", desc := "(I)I" } : Jvm.MethodName)), (Jvm.Cond.instanceMethod ({ cls := "BlueBagModel", name := "unlike", desc := "(I)I" } : Jvm.MethodName)), (Jvm.Cond.methodLink "BlueBagLaw" (221 : Nat) ({ cls := "BlueBagModel", name := "forget", desc := "()V" } : Jvm.MethodName)), (Jvm.Cond.instanceMethod ({ cls := "BlueBagModel", name := "forget", desc := "()V" } : Jvm.MethodName)), (Jvm.Cond.selects "BlueBagModel" ({ cls := "BlueBagModel", name := "forget", desc := "()V" } : Jvm.MethodName) ({ cls := "BlueBagModel", name := "forget", desc := "()V" } : Jvm.MethodName)), (Jvm.Cond.methodLink "BlueBagLaw" (224 : Nat) ({ cls := "BlueBagModel", name := "game", desc := "(III)I" } : Jvm.MethodName)), (Jvm.Cond.instanceMethod ({ cls := "BlueBagModel", name := "game", desc := "(III)I" } : Jvm.MethodName)), (Jvm.Cond.selects "BlueBagModel" ({ cls := "BlueBagModel", name := "game", desc := "(III)I" } : Jvm.MethodName) ({ cls := "BlueBagModel", name := "game", desc := "(III)I" } : Jvm.MethodName)), (Jvm.Cond.methodLink "BlueBagModel" (487 : Nat) ({ cls := "BlueBagModel", name := "tellGains", desc := "(II)V" } : Jvm.MethodName)), (Jvm.Cond.instanceMethod ({ cls := "BlueBagModel", name := "tellGains", desc := "(II)V" } : Jvm.MethodName)), (Jvm.Cond.methodLink "BlueBagLaw" (227 : Nat) ({ cls := "BlueBagModel", name := "skies", desc := "(III)I" } : Jvm.MethodName)), (Jvm.Cond.instanceMethod ({ cls := "BlueBagModel", name := "skies", desc := "(III)I" } : Jvm.MethodName)), (Jvm.Cond.selects "BlueBagModel" ({ cls := "BlueBagModel", name := "skies", desc := "(III)I" } : Jvm.MethodName) ({ cls := "BlueBagModel", name := "skies", desc := "(III)I" } : Jvm.MethodName)), (Jvm.Cond.methodLink "BlueBagModel" (497 : Nat) ({ cls := "BlueBagModel", name := "something", desc := "()V" } : Jvm.MethodName)), (Jvm.Cond.instanceMethod ({ cls := "BlueBagModel", name := "something", desc := "()V" } : Jvm.MethodName)), (Jvm.Cond.methodLink "BlueBagModel" (494 : Nat) ({ cls := "BlueBagModel", name := "drawOf", desc := "(I)I" } : Jvm.MethodName)), (Jvm.Cond.instanceMethod ({ cls := "BlueBagModel", name := "drawOf", desc := "(I)I" } : Jvm.MethodName)), (Jvm.Cond.constant "BlueBagModel" (493 : Nat) (1103515245 : Int32)), (Jvm.Cond.methodLink "BlueBagLaw" (231 : Nat) ({ cls := "BlueBagModel", name := "image", desc := "()V" } : Jvm.MethodName)), (Jvm.Cond.instanceMethod ({ cls := "BlueBagModel", name := "image", desc := "()V" } : Jvm.MethodName)), (Jvm.Cond.selects "BlueBagModel" ({ cls := "BlueBagModel", name := "image", desc := "()V" } : Jvm.MethodName) ({ cls := "BlueBagModel", name := "image", desc := "()V" } : Jvm.MethodName)), (Jvm.Cond.methodLink "BlueBagLaw" (236 : Nat) ({ cls := "BlueBagModel", name := "restore", desc := "()Z" } : Jvm.MethodName)), (Jvm.Cond.instanceMethod ({ cls := "BlueBagModel", name := "restore", desc := "()Z" } : Jvm.MethodName)), (Jvm.Cond.selects "BlueBagModel" ({ cls := "BlueBagModel", name := "restore", desc := "()Z" } : Jvm.MethodName) ({ cls := "BlueBagModel", name := "restore", desc := "()Z" } : Jvm.MethodName)), (Jvm.Cond.sameMethod "java/lang/Throwable" "java/lang/Throwable" "fillInStackTrace" "(I)Ljava/lang/Throwable;"), (Jvm.Cond.castable "java/lang/IllegalArgumentException" "java/lang/Object"), (Jvm.Cond.castable "java/util/NoSuchElementException" "java/lang/Object"), (Jvm.Cond.castable "java/lang/Throwable" "java/lang/Object"), (Jvm.Cond.fieldLink "java/lang/String" (9 : Nat) "java/lang/String" "value" "[B"), (Jvm.Cond.fieldLink "java/lang/String" (15 : Nat) "java/lang/String" "coder" "B")]
set_option maxRecDepth 100000 in
theorem sb_28 : isSub nd_28 ((tables_1_9).drop 1) = true := by decide +kernel
theorem im_28 {i : Nat} {w : Cond} (h : nd_28[i]? = some w) : w ∈ lw_tbl := tin_9 (List.mem_of_mem_drop (isSub_mem _ _ sb_28 w (List.mem_of_getElem? h)))
theorem in_X0 : ∀ w ∈ u_ws RX0 TX0 2, w ∈ lw_tbl := by
  have e : u_ws RX0 TX0 2 = [(Jvm.Cond.laysFinal "BlueBag$Acts" "BlueBag$Acts" "rows" "[I"), (Jvm.Cond.lays "BlueBag$Acts" "BlueBag$Acts" "kept" "I")] := by decide +kernel
  rw [e]; exact List.forall_mem_cons.mpr ⟨(im_6 (i := 42) rfl), List.forall_mem_cons.mpr ⟨(im_6 (i := 43) rfl), fun _ h => absurd h List.not_mem_nil⟩⟩
theorem cls_0 : CLS 0 (RX0, TX0, 2) := ⟨rfl, in_X0, ⟨tyX0, tyX0_ok⟩, nmX0, rfl⟩
theorem in_X1 : ∀ w ∈ u_ws RX1 TX1 9, w ∈ lw_tbl := by
  have e : u_ws RX1 TX1 9 = [(Jvm.Cond.lays "BlueBag$Coast" "BlueBag$Coast" "wide" "I"), (Jvm.Cond.lays "BlueBag$Coast" "BlueBag$Coast" "high" "I"), (Jvm.Cond.lays "BlueBag$Coast" "BlueBag$Coast" "rinse" "I"), (Jvm.Cond.lays "BlueBag$Coast" "BlueBag$Coast" "bound" "I"), (Jvm.Cond.lays "BlueBag$Coast" "BlueBag$Coast" "girls" "I"), (Jvm.Cond.lays "BlueBag$Coast" "BlueBag$Coast" "olds" "I"), (Jvm.Cond.laysFinal "BlueBag$Coast" "BlueBag$Coast" "beside" "[I"), (Jvm.Cond.laysFinal "BlueBag$Coast" "BlueBag$Coast" "dyes" "LBlueBag$Rule;"), (Jvm.Cond.laysFinal "BlueBag$Coast" "BlueBag$Coast" "fades" "LBlueBag$Rule;")] := by decide +kernel
  rw [e]; exact List.forall_mem_cons.mpr ⟨(im_3 (i := 43) rfl), List.forall_mem_cons.mpr ⟨(im_3 (i := 44) rfl), List.forall_mem_cons.mpr ⟨(im_3 (i := 45) rfl), List.forall_mem_cons.mpr ⟨(im_3 (i := 46) rfl), List.forall_mem_cons.mpr ⟨(im_3 (i := 47) rfl), List.forall_mem_cons.mpr ⟨(im_3 (i := 48) rfl), List.forall_mem_cons.mpr ⟨(im_3 (i := 49) rfl), List.forall_mem_cons.mpr ⟨(im_3 (i := 50) rfl), List.forall_mem_cons.mpr ⟨(im_3 (i := 51) rfl), fun _ h => absurd h List.not_mem_nil⟩⟩⟩⟩⟩⟩⟩⟩⟩
theorem cls_1 : CLS 1 (RX1, TX1, 9) := ⟨rfl, in_X1, ⟨tyX1, tyX1_ok⟩, nmX1, rfl⟩
theorem in_X2 : ∀ w ∈ u_ws RX2 TX2 7, w ∈ lw_tbl := by
  have e : u_ws RX2 TX2 7 = [(Jvm.Cond.laysFinal "BlueBag$CoastReader" "BlueBag$CoastReader" "tokens" "LBlueBag$Tokens;"), (Jvm.Cond.laysFinal "BlueBag$CoastReader" "BlueBag$CoastReader" "rules" "LBlueBag$RuleReader;"), (Jvm.Cond.laysFinal "BlueBag$CoastReader" "BlueBag$CoastReader" "draft" "LBlueBag$Coast;"), (Jvm.Cond.laysFinal "BlueBag$CoastReader" "BlueBag$CoastReader" "draftSky" "LBlueBag$Sky;"), (Jvm.Cond.lays "BlueBag$CoastReader" "BlueBag$CoastReader" "told" "I"), (Jvm.Cond.lays "BlueBag$CoastReader" "BlueBag$CoastReader" "blues" "I"), (Jvm.Cond.lays "BlueBag$CoastReader" "BlueBag$CoastReader" "isCellTold" "Z")] := by decide +kernel
  rw [e]; exact List.forall_mem_cons.mpr ⟨(im_6 (i := 22) rfl), List.forall_mem_cons.mpr ⟨(im_6 (i := 23) rfl), List.forall_mem_cons.mpr ⟨(im_6 (i := 24) rfl), List.forall_mem_cons.mpr ⟨(im_6 (i := 25) rfl), List.forall_mem_cons.mpr ⟨(im_6 (i := 26) rfl), List.forall_mem_cons.mpr ⟨(im_6 (i := 27) rfl), List.forall_mem_cons.mpr ⟨(im_6 (i := 28) rfl), fun _ h => absurd h List.not_mem_nil⟩⟩⟩⟩⟩⟩⟩
theorem cls_2 : CLS 2 (RX2, TX2, 7) := ⟨rfl, in_X2, ⟨tyX2, tyX2_ok⟩, nmX2, rfl⟩
theorem in_X3 : ∀ w ∈ u_ws RX3 TX3 1, w ∈ lw_tbl := by
  have e : u_ws RX3 TX3 1 = [(Jvm.Cond.lays "BlueBag$Dice" "BlueBag$Dice" "seed" "I")] := by decide +kernel
  rw [e]; exact List.forall_mem_cons.mpr ⟨(im_7 (i := 30) rfl), fun _ h => absurd h List.not_mem_nil⟩
theorem cls_3 : CLS 3 (RX3, TX3, 1) := ⟨rfl, in_X3, ⟨tyX3, tyX3_ok⟩, nmX3, rfl⟩
theorem in_X4 : ∀ w ∈ u_ws RX4 TX4 7, w ∈ lw_tbl := by
  have e : u_ws RX4 TX4 7 = [(Jvm.Cond.laysFinal "BlueBag$Memory" "BlueBag$Memory" "sky" "LBlueBag$Sky;"), (Jvm.Cond.laysFinal "BlueBag$Memory" "BlueBag$Memory" "acts" "LBlueBag$Acts;"), (Jvm.Cond.laysFinal "BlueBag$Memory" "BlueBag$Memory" "seenCells" "[I"), (Jvm.Cond.laysFinal "BlueBag$Memory" "BlueBag$Memory" "seenDays" "[I"), (Jvm.Cond.laysFinal "BlueBag$Memory" "BlueBag$Memory" "seenBlues" "[I"), (Jvm.Cond.laysFinal "BlueBag$Memory" "BlueBag$Memory" "status" "[I"), (Jvm.Cond.lays "BlueBag$Memory" "BlueBag$Memory" "seen" "I")] := by decide +kernel
  rw [e]; exact List.forall_mem_cons.mpr ⟨(im_6 (i := 56) rfl), List.forall_mem_cons.mpr ⟨(im_6 (i := 57) rfl), List.forall_mem_cons.mpr ⟨(im_6 (i := 58) rfl), List.forall_mem_cons.mpr ⟨(im_6 (i := 59) rfl), List.forall_mem_cons.mpr ⟨(im_7 (i := 0) rfl), List.forall_mem_cons.mpr ⟨(im_7 (i := 1) rfl), List.forall_mem_cons.mpr ⟨(im_7 (i := 2) rfl), fun _ h => absurd h List.not_mem_nil⟩⟩⟩⟩⟩⟩⟩
theorem cls_4 : CLS 4 (RX4, TX4, 7) := ⟨rfl, in_X4, ⟨tyX4, tyX4_ok⟩, nmX4, rfl⟩
theorem in_X5 : ∀ w ∈ u_ws RX5 TX5 3, w ∈ lw_tbl := by
  have e : u_ws RX5 TX5 3 = [(Jvm.Cond.laysFinal "BlueBag$Rule" "BlueBag$Rule" "code" "[I"), (Jvm.Cond.laysFinal "BlueBag$Rule" "BlueBag$Rule" "stack" "[I"), (Jvm.Cond.lays "BlueBag$Rule" "BlueBag$Rule" "length" "I")] := by decide +kernel
  rw [e]; exact List.forall_mem_cons.mpr ⟨(im_2 (i := 56) rfl), List.forall_mem_cons.mpr ⟨(im_2 (i := 57) rfl), List.forall_mem_cons.mpr ⟨(im_2 (i := 58) rfl), fun _ h => absurd h List.not_mem_nil⟩⟩⟩
theorem cls_5 : CLS 5 (RX5, TX5, 3) := ⟨rfl, in_X5, ⟨tyX5, tyX5_ok⟩, nmX5, rfl⟩
theorem in_X6 : ∀ w ∈ u_ws RX6 TX6 3, w ∈ lw_tbl := by
  have e : u_ws RX6 TX6 3 = [(Jvm.Cond.laysFinal "BlueBag$RuleReader" "BlueBag$RuleReader" "tokens" "LBlueBag$Tokens;"), (Jvm.Cond.lays "BlueBag$RuleReader" "BlueBag$RuleReader" "rule" "LBlueBag$Rule;"), (Jvm.Cond.lays "BlueBag$RuleReader" "BlueBag$RuleReader" "isOfDyes" "Z")] := by decide +kernel
  rw [e]; exact List.forall_mem_cons.mpr ⟨(im_6 (i := 10) rfl), List.forall_mem_cons.mpr ⟨(im_6 (i := 11) rfl), List.forall_mem_cons.mpr ⟨(im_6 (i := 12) rfl), fun _ h => absurd h List.not_mem_nil⟩⟩⟩
theorem cls_6 : CLS 6 (RX6, TX6, 3) := ⟨rfl, in_X6, ⟨tyX6, tyX6_ok⟩, nmX6, rfl⟩
theorem in_X7 : ∀ w ∈ u_ws RX7 TX7 6, w ∈ lw_tbl := by
  have e : u_ws RX7 TX7 6 = [(Jvm.Cond.laysFinal "BlueBag$Sending" "BlueBag$Sending" "goals" "[I"), (Jvm.Cond.laysFinal "BlueBag$Sending" "BlueBag$Sending" "row" "[I"), (Jvm.Cond.laysFinal "BlueBag$Sending" "BlueBag$Sending" "bestRow" "[I"), (Jvm.Cond.laysFinal "BlueBag$Sending" "BlueBag$Sending" "sky" "LBlueBag$Sky;"), (Jvm.Cond.lays "BlueBag$Sending" "BlueBag$Sending" "many" "I"), (Jvm.Cond.lays "BlueBag$Sending" "BlueBag$Sending" "least" "I")] := by decide +kernel
  rw [e]; exact List.forall_mem_cons.mpr ⟨(im_7 (i := 17) rfl), List.forall_mem_cons.mpr ⟨(im_7 (i := 18) rfl), List.forall_mem_cons.mpr ⟨(im_7 (i := 19) rfl), List.forall_mem_cons.mpr ⟨(im_7 (i := 20) rfl), List.forall_mem_cons.mpr ⟨(im_7 (i := 21) rfl), List.forall_mem_cons.mpr ⟨(im_7 (i := 22) rfl), fun _ h => absurd h List.not_mem_nil⟩⟩⟩⟩⟩⟩
theorem cls_7 : CLS 7 (RX7, TX7, 6) := ⟨rfl, in_X7, ⟨tyX7, tyX7_ok⟩, nmX7, rfl⟩
theorem in_X8 : ∀ w ∈ u_ws RX8 TX8 13, w ∈ lw_tbl := by
  have e : u_ws RX8 TX8 13 = [(Jvm.Cond.laysFinal "BlueBag$Sky" "BlueBag$Sky" "coast" "LBlueBag$Coast;"), (Jvm.Cond.laysFinal "BlueBag$Sky" "BlueBag$Sky" "blue" "[I"), (Jvm.Cond.laysFinal "BlueBag$Sky" "BlueBag$Sky" "morning" "[I"), (Jvm.Cond.laysFinal "BlueBag$Sky" "BlueBag$Sky" "less" "[I"), (Jvm.Cond.laysFinal "BlueBag$Sky" "BlueBag$Sky" "spot" "[I"), (Jvm.Cond.laysFinal "BlueBag$Sky" "BlueBag$Sky" "skill" "[I"), (Jvm.Cond.laysFinal "BlueBag$Sky" "BlueBag$Sky" "values" "[I"), (Jvm.Cond.lays "BlueBag$Sky" "BlueBag$Sky" "pegs" "I"), (Jvm.Cond.lays "BlueBag$Sky" "BlueBag$Sky" "resting" "I"), (Jvm.Cond.lays "BlueBag$Sky" "BlueBag$Sky" "knobs" "I"), (Jvm.Cond.lays "BlueBag$Sky" "BlueBag$Sky" "martins" "I"), (Jvm.Cond.lays "BlueBag$Sky" "BlueBag$Sky" "day" "I"), (Jvm.Cond.lays "BlueBag$Sky" "BlueBag$Sky" "overdone" "I")] := by decide +kernel
  rw [e]; exact List.forall_mem_cons.mpr ⟨(im_4 (i := 29) rfl), List.forall_mem_cons.mpr ⟨(im_4 (i := 30) rfl), List.forall_mem_cons.mpr ⟨(im_4 (i := 31) rfl), List.forall_mem_cons.mpr ⟨(im_4 (i := 32) rfl), List.forall_mem_cons.mpr ⟨(im_4 (i := 33) rfl), List.forall_mem_cons.mpr ⟨(im_4 (i := 34) rfl), List.forall_mem_cons.mpr ⟨(im_4 (i := 35) rfl), List.forall_mem_cons.mpr ⟨(im_4 (i := 36) rfl), List.forall_mem_cons.mpr ⟨(im_4 (i := 37) rfl), List.forall_mem_cons.mpr ⟨(im_4 (i := 38) rfl), List.forall_mem_cons.mpr ⟨(im_4 (i := 39) rfl), List.forall_mem_cons.mpr ⟨(im_4 (i := 40) rfl), List.forall_mem_cons.mpr ⟨(im_4 (i := 41) rfl), fun _ h => absurd h List.not_mem_nil⟩⟩⟩⟩⟩⟩⟩⟩⟩⟩⟩⟩⟩
theorem cls_8 : CLS 8 (RX8, TX8, 13) := ⟨rfl, in_X8, ⟨tyX8, tyX8_ok⟩, nmX8, rfl⟩
theorem in_X9 : ∀ w ∈ u_ws RX9 TX9 2, w ∈ lw_tbl := by
  have e : u_ws RX9 TX9 2 = [(Jvm.Cond.laysFinal "BlueBag$Tape" "BlueBag$Tape" "bytes" "[B"), (Jvm.Cond.lays "BlueBag$Tape" "BlueBag$Tape" "length" "I")] := by decide +kernel
  rw [e]; exact List.forall_mem_cons.mpr ⟨(im_2 (i := 40) rfl), List.forall_mem_cons.mpr ⟨(im_2 (i := 41) rfl), fun _ h => absurd h List.not_mem_nil⟩⟩
theorem cls_9 : CLS 9 (RX9, TX9, 2) := ⟨rfl, in_X9, ⟨tyX9, tyX9_ok⟩, nmX9, rfl⟩
theorem in_X10 : ∀ w ∈ u_ws RX10 TX10 8, w ∈ lw_tbl := by
  have e : u_ws RX10 TX10 8 = [(Jvm.Cond.laysFinal "BlueBag$Tokens" "BlueBag$Tokens" "tape" "LBlueBag$Tape;"), (Jvm.Cond.lays "BlueBag$Tokens" "BlueBag$Tokens" "end" "I"), (Jvm.Cond.lays "BlueBag$Tokens" "BlueBag$Tokens" "kind" "I"), (Jvm.Cond.lays "BlueBag$Tokens" "BlueBag$Tokens" "start" "I"), (Jvm.Cond.lays "BlueBag$Tokens" "BlueBag$Tokens" "next" "I"), (Jvm.Cond.lays "BlueBag$Tokens" "BlueBag$Tokens" "number" "I"), (Jvm.Cond.lays "BlueBag$Tokens" "BlueBag$Tokens" "fault" "I"), (Jvm.Cond.lays "BlueBag$Tokens" "BlueBag$Tokens" "faultPlace" "I")] := by decide +kernel
  rw [e]; exact List.forall_mem_cons.mpr ⟨(im_5 (i := 1) rfl), List.forall_mem_cons.mpr ⟨(im_5 (i := 2) rfl), List.forall_mem_cons.mpr ⟨(im_5 (i := 3) rfl), List.forall_mem_cons.mpr ⟨(im_5 (i := 4) rfl), List.forall_mem_cons.mpr ⟨(im_5 (i := 5) rfl), List.forall_mem_cons.mpr ⟨(im_5 (i := 6) rfl), List.forall_mem_cons.mpr ⟨(im_6 (i := 0) rfl), List.forall_mem_cons.mpr ⟨(im_6 (i := 1) rfl), fun _ h => absurd h List.not_mem_nil⟩⟩⟩⟩⟩⟩⟩⟩
theorem cls_10 : CLS 10 (RX10, TX10, 8) := ⟨rfl, in_X10, ⟨tyX10, tyX10_ok⟩, nmX10, rfl⟩
theorem in_X11 : ∀ w ∈ u_ws RX11 TX11 13, w ∈ lw_tbl := by
  have e : u_ws RX11 TX11 13 = [(Jvm.Cond.laysFinal "BlueBag" "BlueBag" "tape" "LBlueBag$Tape;"), (Jvm.Cond.laysFinal "BlueBag" "BlueBag" "coast" "LBlueBag$Coast;"), (Jvm.Cond.laysFinal "BlueBag" "BlueBag" "reader" "LBlueBag$CoastReader;"), (Jvm.Cond.laysFinal "BlueBag" "BlueBag" "present" "LBlueBag$Memory;"), (Jvm.Cond.laysFinal "BlueBag" "BlueBag" "pictured" "LBlueBag$Memory;"), (Jvm.Cond.laysFinal "BlueBag" "BlueBag" "trial" "LBlueBag$Sky;"), (Jvm.Cond.laysFinal "BlueBag" "BlueBag" "sending" "LBlueBag$Sending;"), (Jvm.Cond.laysFinal "BlueBag" "BlueBag" "dice" "LBlueBag$Dice;"), (Jvm.Cond.laysFinal "BlueBag" "BlueBag" "lowBlues" "[J"), (Jvm.Cond.laysFinal "BlueBag" "BlueBag" "highBlues" "[J"), (Jvm.Cond.laysFinal "BlueBag" "BlueBag" "gains" "[I"), (Jvm.Cond.lays "BlueBag" "BlueBag" "isPictured" "Z"), (Jvm.Cond.lays "BlueBag" "BlueBag" "faultPlace" "I")] := by decide +kernel
  rw [e]; exact List.forall_mem_cons.mpr ⟨(im_7 (i := 44) rfl), List.forall_mem_cons.mpr ⟨(im_7 (i := 45) rfl), List.forall_mem_cons.mpr ⟨(im_7 (i := 46) rfl), List.forall_mem_cons.mpr ⟨(im_7 (i := 47) rfl), List.forall_mem_cons.mpr ⟨(im_7 (i := 48) rfl), List.forall_mem_cons.mpr ⟨(im_7 (i := 49) rfl), List.forall_mem_cons.mpr ⟨(im_7 (i := 50) rfl), List.forall_mem_cons.mpr ⟨(im_7 (i := 51) rfl), List.forall_mem_cons.mpr ⟨(im_7 (i := 52) rfl), List.forall_mem_cons.mpr ⟨(im_7 (i := 53) rfl), List.forall_mem_cons.mpr ⟨(im_7 (i := 54) rfl), List.forall_mem_cons.mpr ⟨(im_7 (i := 55) rfl), List.forall_mem_cons.mpr ⟨(im_7 (i := 56) rfl), fun _ h => absurd h List.not_mem_nil⟩⟩⟩⟩⟩⟩⟩⟩⟩⟩⟩⟩⟩
theorem cls_11 : CLS 11 (RX11, TX11, 13) := ⟨rfl, in_X11, ⟨tyX11, tyX11_ok⟩, nmX11, rfl⟩
theorem in_X12 : ∀ w ∈ u_ws RX12 TX12 64, w ∈ lw_tbl := by
  have e : u_ws RX12 TX12 64 = [(Jvm.Cond.laysFinal "BlueBagModel" "BlueBagModel" "women" "[Ljava/lang/String;"), (Jvm.Cond.laysFinal "BlueBagModel" "BlueBagModel" "ofDyes" "[Ljava/lang/String;"), (Jvm.Cond.laysFinal "BlueBagModel" "BlueBagModel" "ofFades" "[Ljava/lang/String;"), (Jvm.Cond.lays "BlueBagModel" "BlueBagModel" "values" "[Ljava/lang/String;"), (Jvm.Cond.lays "BlueBagModel" "BlueBagModel" "code" "I"), (Jvm.Cond.laysFinal "BlueBagModel" "BlueBagModel" "told" "[I"), (Jvm.Cond.laysFinal "BlueBagModel" "BlueBagModel" "blueTold" "[I"), (Jvm.Cond.laysFinal "BlueBagModel" "BlueBagModel" "aged" "[I"), (Jvm.Cond.laysFinal "BlueBagModel" "BlueBagModel" "skillTold" "[I"), (Jvm.Cond.laysFinal "BlueBagModel" "BlueBagModel" "cellTold" "[I"), (Jvm.Cond.laysFinal "BlueBagModel" "BlueBagModel" "signsDyes" "[I"), (Jvm.Cond.laysFinal "BlueBagModel" "BlueBagModel" "signsFades" "[I"), (Jvm.Cond.laysFinal "BlueBagModel" "BlueBagModel" "status" "[I"), (Jvm.Cond.laysFinal "BlueBagModel" "BlueBagModel" "skills" "[I"), (Jvm.Cond.laysFinal "BlueBagModel" "BlueBagModel" "tape" "[I"), (Jvm.Cond.lays "BlueBagModel" "BlueBagModel" "taped" "I"), (Jvm.Cond.lays "BlueBagModel" "BlueBagModel" "at" "I"), (Jvm.Cond.lays "BlueBagModel" "BlueBagModel" "size" "I"), (Jvm.Cond.lays "BlueBagModel" "BlueBagModel" "token" "I"), (Jvm.Cond.lays "BlueBagModel" "BlueBagModel" "number" "I"), (Jvm.Cond.lays "BlueBagModel" "BlueBagModel" "begins" "I"), (Jvm.Cond.lays "BlueBagModel" "BlueBagModel" "stops" "I"), (Jvm.Cond.lays "BlueBagModel" "BlueBagModel" "bad" "I"), (Jvm.Cond.lays "BlueBagModel" "BlueBagModel" "badPlace" "I"), (Jvm.Cond.lays "BlueBagModel" "BlueBagModel" "faultPlace" "I"), (Jvm.Cond.lays "BlueBagModel" "BlueBagModel" "blued" "I"), (Jvm.Cond.lays "BlueBagModel" "BlueBagModel" "anyCell" "Z"), (Jvm.Cond.lays "BlueBagModel" "BlueBagModel" "ofFading" "Z"), (Jvm.Cond.laysFinal "BlueBagModel" "BlueBagModel" "blue" "[I"), (Jvm.Cond.laysFinal "BlueBagModel" "BlueBagModel" "where" "[I"), (Jvm.Cond.laysFinal "BlueBagModel" "BlueBagModel" "past" "[I"), (Jvm.Cond.lays "BlueBagModel" "BlueBagModel" "day" "I"), (Jvm.Cond.lays "BlueBagModel" "BlueBagModel" "knobs" "I"), (Jvm.Cond.lays "BlueBagModel" "BlueBagModel" "martins" "I"), (Jvm.Cond.lays "BlueBagModel" "BlueBagModel" "pegs" "I"), (Jvm.Cond.lays "BlueBagModel" "BlueBagModel" "resting" "I"), (Jvm.Cond.lays "BlueBagModel" "BlueBagModel" "acts" "I"), (Jvm.Cond.lays "BlueBagModel" "BlueBagModel" "seen" "I"), (Jvm.Cond.laysFinal "BlueBagModel" "BlueBagModel" "asked" "[I"), (Jvm.Cond.laysFinal "BlueBagModel" "BlueBagModel" "stack" "[I"), (Jvm.Cond.laysFinal "BlueBagModel" "BlueBagModel" "fading" "[I"), (Jvm.Cond.lays "BlueBagModel" "BlueBagModel" "over" "I"), (Jvm.Cond.laysFinal "BlueBagModel" "BlueBagModel" "rowThen" "[I"), (Jvm.Cond.laysFinal "BlueBagModel" "BlueBagModel" "blueThen" "[I"), (Jvm.Cond.laysFinal "BlueBagModel" "BlueBagModel" "leastBy" "[I"), (Jvm.Cond.laysFinal "BlueBagModel" "BlueBagModel" "goals" "[I"), (Jvm.Cond.laysFinal "BlueBagModel" "BlueBagModel" "seenCell" "[I"), (Jvm.Cond.laysFinal "BlueBagModel" "BlueBagModel" "seenIn" "[I"), (Jvm.Cond.laysFinal "BlueBagModel" "BlueBagModel" "seenBlue" "[I"), (Jvm.Cond.laysFinal "BlueBagModel" "BlueBagModel" "rowSeen" "[I"), (Jvm.Cond.laysFinal "BlueBagModel" "BlueBagModel" "fits" "[I"), (Jvm.Cond.laysFinal "BlueBagModel" "BlueBagModel" "bluesThen" "[I"), (Jvm.Cond.lays "BlueBagModel" "BlueBagModel" "fitMany" "I"), (Jvm.Cond.laysFinal "BlueBagModel" "BlueBagModel" "gains" "[I"), (Jvm.Cond.lays "BlueBagModel" "BlueBagModel" "seedNow" "I"), (Jvm.Cond.lays "BlueBagModel" "BlueBagModel" "hasImage" "Z"), (Jvm.Cond.lays "BlueBagModel" "BlueBagModel" "actsThen" "I"), (Jvm.Cond.lays "BlueBagModel" "BlueBagModel" "seenThen" "I"), (Jvm.Cond.laysFinal "BlueBagModel" "BlueBagModel" "imageRow" "[I"), (Jvm.Cond.laysFinal "BlueBagModel" "BlueBagModel" "pastThen" "[I"), (Jvm.Cond.laysFinal "BlueBagModel" "BlueBagModel" "seenCellThen" "[I"), (Jvm.Cond.laysFinal "BlueBagModel" "BlueBagModel" "seenInThen" "[I"), (Jvm.Cond.laysFinal "BlueBagModel" "BlueBagModel" "seenBlueThen" "[I"), (Jvm.Cond.laysFinal "BlueBagModel" "BlueBagModel" "statusThen" "[I")] := by decide +kernel
  rw [e]; exact List.forall_mem_cons.mpr ⟨(im_21 (i := 25) rfl), List.forall_mem_cons.mpr ⟨(im_21 (i := 26) rfl), List.forall_mem_cons.mpr ⟨(im_21 (i := 27) rfl), List.forall_mem_cons.mpr ⟨(im_21 (i := 28) rfl), List.forall_mem_cons.mpr ⟨(im_21 (i := 29) rfl), List.forall_mem_cons.mpr ⟨(im_21 (i := 30) rfl), List.forall_mem_cons.mpr ⟨(im_21 (i := 31) rfl), List.forall_mem_cons.mpr ⟨(im_21 (i := 32) rfl), List.forall_mem_cons.mpr ⟨(im_21 (i := 33) rfl), List.forall_mem_cons.mpr ⟨(im_21 (i := 34) rfl), List.forall_mem_cons.mpr ⟨(im_21 (i := 35) rfl), List.forall_mem_cons.mpr ⟨(im_21 (i := 36) rfl), List.forall_mem_cons.mpr ⟨(im_21 (i := 37) rfl), List.forall_mem_cons.mpr ⟨(im_21 (i := 38) rfl), List.forall_mem_cons.mpr ⟨(im_21 (i := 39) rfl), List.forall_mem_cons.mpr ⟨(im_21 (i := 40) rfl), List.forall_mem_cons.mpr ⟨(im_21 (i := 41) rfl), List.forall_mem_cons.mpr ⟨(im_21 (i := 42) rfl), List.forall_mem_cons.mpr ⟨(im_21 (i := 43) rfl), List.forall_mem_cons.mpr ⟨(im_21 (i := 44) rfl), List.forall_mem_cons.mpr ⟨(im_21 (i := 45) rfl), List.forall_mem_cons.mpr ⟨(im_21 (i := 46) rfl), List.forall_mem_cons.mpr ⟨(im_21 (i := 47) rfl), List.forall_mem_cons.mpr ⟨(im_21 (i := 48) rfl), List.forall_mem_cons.mpr ⟨(im_21 (i := 49) rfl), List.forall_mem_cons.mpr ⟨(im_21 (i := 50) rfl), List.forall_mem_cons.mpr ⟨(im_22 (i := 0) rfl), List.forall_mem_cons.mpr ⟨(im_22 (i := 1) rfl), List.forall_mem_cons.mpr ⟨(im_22 (i := 2) rfl), List.forall_mem_cons.mpr ⟨(im_22 (i := 3) rfl), List.forall_mem_cons.mpr ⟨(im_22 (i := 4) rfl), List.forall_mem_cons.mpr ⟨(im_22 (i := 5) rfl), List.forall_mem_cons.mpr ⟨(im_22 (i := 6) rfl), List.forall_mem_cons.mpr ⟨(im_22 (i := 7) rfl), List.forall_mem_cons.mpr ⟨(im_22 (i := 8) rfl), List.forall_mem_cons.mpr ⟨(im_22 (i := 9) rfl), List.forall_mem_cons.mpr ⟨(im_22 (i := 10) rfl), List.forall_mem_cons.mpr ⟨(im_22 (i := 11) rfl), List.forall_mem_cons.mpr ⟨(im_22 (i := 12) rfl), List.forall_mem_cons.mpr ⟨(im_22 (i := 13) rfl), List.forall_mem_cons.mpr ⟨(im_22 (i := 14) rfl), List.forall_mem_cons.mpr ⟨(im_22 (i := 15) rfl), List.forall_mem_cons.mpr ⟨(im_22 (i := 16) rfl), List.forall_mem_cons.mpr ⟨(im_22 (i := 17) rfl), List.forall_mem_cons.mpr ⟨(im_22 (i := 18) rfl), List.forall_mem_cons.mpr ⟨(im_22 (i := 19) rfl), List.forall_mem_cons.mpr ⟨(im_22 (i := 20) rfl), List.forall_mem_cons.mpr ⟨(im_22 (i := 21) rfl), List.forall_mem_cons.mpr ⟨(im_22 (i := 22) rfl), List.forall_mem_cons.mpr ⟨(im_22 (i := 23) rfl), List.forall_mem_cons.mpr ⟨(im_22 (i := 24) rfl), List.forall_mem_cons.mpr ⟨(im_22 (i := 25) rfl), List.forall_mem_cons.mpr ⟨(im_22 (i := 26) rfl), List.forall_mem_cons.mpr ⟨(im_22 (i := 27) rfl), List.forall_mem_cons.mpr ⟨(im_22 (i := 28) rfl), List.forall_mem_cons.mpr ⟨(im_22 (i := 29) rfl), List.forall_mem_cons.mpr ⟨(im_22 (i := 30) rfl), List.forall_mem_cons.mpr ⟨(im_22 (i := 31) rfl), List.forall_mem_cons.mpr ⟨(im_22 (i := 32) rfl), List.forall_mem_cons.mpr ⟨(im_22 (i := 33) rfl), List.forall_mem_cons.mpr ⟨(im_22 (i := 34) rfl), List.forall_mem_cons.mpr ⟨(im_22 (i := 35) rfl), List.forall_mem_cons.mpr ⟨(im_22 (i := 36) rfl), List.forall_mem_cons.mpr ⟨(im_22 (i := 37) rfl), fun _ h => absurd h List.not_mem_nil⟩⟩⟩⟩⟩⟩⟩⟩⟩⟩⟩⟩⟩⟩⟩⟩⟩⟩⟩⟩⟩⟩⟩⟩⟩⟩⟩⟩⟩⟩⟩⟩⟩⟩⟩⟩⟩⟩⟩⟩⟩⟩⟩⟩⟩⟩⟩⟩⟩⟩⟩⟩⟩⟩⟩⟩⟩⟩⟩⟩⟩⟩⟩⟩
theorem cls_12 : CLS 12 (RX12, TX12, 64) := ⟨rfl, in_X12, ⟨tyX12, tyX12_ok⟩, nmX12, rfl⟩
theorem fl_X11_10 : FLD RX11 10 11 0 := ⟨_, cls_11, by decide, Or.inl (im_7 (i := 31) rfl)⟩
theorem fl_X11_19 : FLD RX11 19 11 1 := ⟨_, cls_11, by decide, Or.inl (im_7 (i := 32) rfl)⟩
theorem fl_X11_28 : FLD RX11 28 11 2 := ⟨_, cls_11, by decide, Or.inl (im_7 (i := 33) rfl)⟩
theorem fl_X11_37 : FLD RX11 37 11 3 := ⟨_, cls_11, by decide, Or.inl (im_7 (i := 34) rfl)⟩
theorem fl_X11_41 : FLD RX11 41 11 4 := ⟨_, cls_11, by decide, Or.inl (im_7 (i := 35) rfl)⟩
theorem fl_X11_47 : FLD RX11 47 11 5 := ⟨_, cls_11, by decide, Or.inl (im_7 (i := 36) rfl)⟩
theorem fl_X11_53 : FLD RX11 53 4 0 := ⟨_, cls_4, by decide, Or.inr ⟨"BlueBag", (im_6 (i := 47) rfl)⟩⟩
theorem fl_X11_59 : FLD RX11 59 11 6 := ⟨_, cls_11, by decide, Or.inl (im_7 (i := 37) rfl)⟩
theorem fl_X11_66 : FLD RX11 66 11 7 := ⟨_, cls_11, by decide, Or.inl (im_7 (i := 38) rfl)⟩
theorem fl_X11_70 : FLD RX11 70 11 8 := ⟨_, cls_11, by decide, Or.inl (im_7 (i := 39) rfl)⟩
theorem fl_X11_74 : FLD RX11 74 11 9 := ⟨_, cls_11, by decide, Or.inl (im_7 (i := 40) rfl)⟩
theorem fl_X11_77 : FLD RX11 77 11 10 := ⟨_, cls_11, by decide, Or.inl (im_7 (i := 41) rfl)⟩
theorem fl_X11_81 : FLD RX11 81 11 12 := ⟨_, cls_11, by decide, Or.inl (im_7 (i := 43) rfl)⟩
theorem fl_X11_93 : FLD RX11 93 9 1 := ⟨_, cls_9, by decide, Or.inr ⟨"BlueBag", (im_2 (i := 39) rfl)⟩⟩
theorem fl_X11_112 : FLD RX11 112 2 2 := ⟨_, cls_2, by decide, Or.inr ⟨"BlueBag", (im_6 (i := 16) rfl)⟩⟩
theorem fl_X11_118 : FLD RX11 118 2 3 := ⟨_, cls_2, by decide, Or.inr ⟨"BlueBag", (im_6 (i := 18) rfl)⟩⟩
theorem fl_X11_124 : FLD RX11 124 11 11 := ⟨_, cls_11, by decide, Or.inl (im_7 (i := 42) rfl)⟩
theorem fl_X11_131 : FLD RX11 131 1 0 := ⟨_, cls_1, by decide, Or.inr ⟨"BlueBag", (im_3 (i := 18) rfl)⟩⟩
theorem fl_X11_134 : FLD RX11 134 1 4 := ⟨_, cls_1, by decide, Or.inr ⟨"BlueBag", (im_3 (i := 31) rfl)⟩⟩
theorem fl_X11_137 : FLD RX11 137 8 11 := ⟨_, cls_8, by decide, Or.inr ⟨"BlueBag", (im_4 (i := 26) rfl)⟩⟩
theorem fl_X11_140 : FLD RX11 140 8 9 := ⟨_, cls_8, by decide, Or.inr ⟨"BlueBag", (im_4 (i := 21) rfl)⟩⟩
theorem fl_X11_143 : FLD RX11 143 1 2 := ⟨_, cls_1, by decide, Or.inr ⟨"BlueBag", (im_3 (i := 22) rfl)⟩⟩
theorem fl_X11_146 : FLD RX11 146 1 3 := ⟨_, cls_1, by decide, Or.inr ⟨"BlueBag", (im_3 (i := 26) rfl)⟩⟩
theorem fl_X11_149 : FLD RX11 149 8 10 := ⟨_, cls_8, by decide, Or.inr ⟨"BlueBag", (im_4 (i := 24) rfl)⟩⟩
theorem fl_X11_152 : FLD RX11 152 8 7 := ⟨_, cls_8, by decide, Or.inr ⟨"BlueBag", (im_4 (i := 16) rfl)⟩⟩
theorem fl_X11_155 : FLD RX11 155 8 8 := ⟨_, cls_8, by decide, Or.inr ⟨"BlueBag", (im_4 (i := 19) rfl)⟩⟩
theorem fl_X11_161 : FLD RX11 161 4 1 := ⟨_, cls_4, by decide, Or.inr ⟨"BlueBag", (im_6 (i := 49) rfl)⟩⟩
theorem fl_X11_165 : FLD RX11 165 0 1 := ⟨_, cls_0, by decide, Or.inr ⟨"BlueBag", (im_6 (i := 41) rfl)⟩⟩
theorem fl_X11_170 : FLD RX11 170 4 6 := ⟨_, cls_4, by decide, Or.inr ⟨"BlueBag", (im_6 (i := 55) rfl)⟩⟩
theorem fl_X11_267 : FLD RX11 267 8 12 := ⟨_, cls_8, by decide, Or.inr ⟨"BlueBag", (im_4 (i := 28) rfl)⟩⟩
theorem fl_X11_270 : FLD RX11 270 1 1 := ⟨_, cls_1, by decide, Or.inr ⟨"BlueBag", (im_3 (i := 20) rfl)⟩⟩
theorem fl_X11_304 : FLD RX11 304 7 5 := ⟨_, cls_7, by decide, Or.inr ⟨"BlueBag", (im_7 (i := 16) rfl)⟩⟩
theorem fl_X11_334 : FLD RX11 334 3 0 := ⟨_, cls_3, by decide, Or.inr ⟨"BlueBag", (im_7 (i := 29) rfl)⟩⟩
theorem fl_X0_11 : FLD RX0 11 0 0 := ⟨_, cls_0, by decide, Or.inl (im_6 (i := 39) rfl)⟩
theorem fl_X0_17 : FLD RX0 17 0 1 := ⟨_, cls_0, by decide, Or.inl (im_6 (i := 40) rfl)⟩
theorem fl_X1_9 : FLD RX1 9 1 6 := ⟨_, cls_1, by decide, Or.inl (im_3 (i := 36) rfl)⟩
theorem fl_X1_18 : FLD RX1 18 1 7 := ⟨_, cls_1, by decide, Or.inl (im_3 (i := 37) rfl)⟩
theorem fl_X1_22 : FLD RX1 22 1 8 := ⟨_, cls_1, by decide, Or.inl (im_3 (i := 40) rfl)⟩
theorem fl_X1_32 : FLD RX1 32 1 2 := ⟨_, cls_1, by decide, Or.inl (im_3 (i := 21) rfl)⟩
theorem fl_X1_36 : FLD RX1 36 1 3 := ⟨_, cls_1, by decide, Or.inl (im_3 (i := 25) rfl)⟩
theorem fl_X1_39 : FLD RX1 39 1 4 := ⟨_, cls_1, by decide, Or.inl (im_3 (i := 29) rfl)⟩
theorem fl_X1_42 : FLD RX1 42 1 5 := ⟨_, cls_1, by decide, Or.inl (im_3 (i := 34) rfl)⟩
theorem fl_X1_48 : FLD RX1 48 1 0 := ⟨_, cls_1, by decide, Or.inl (im_3 (i := 17) rfl)⟩
theorem fl_X1_51 : FLD RX1 51 1 1 := ⟨_, cls_1, by decide, Or.inl (im_3 (i := 19) rfl)⟩
theorem fl_X2_12 : FLD RX2 12 2 2 := ⟨_, cls_2, by decide, Or.inl (im_6 (i := 15) rfl)⟩
theorem fl_X2_23 : FLD RX2 23 2 3 := ⟨_, cls_2, by decide, Or.inl (im_6 (i := 17) rfl)⟩
theorem fl_X2_32 : FLD RX2 32 2 0 := ⟨_, cls_2, by decide, Or.inl (im_6 (i := 13) rfl)⟩
theorem fl_X2_38 : FLD RX2 38 1 7 := ⟨_, cls_1, by decide, Or.inr ⟨"BlueBag", (im_3 (i := 38) rfl)⟩⟩
theorem fl_X2_45 : FLD RX2 45 2 1 := ⟨_, cls_2, by decide, Or.inl (im_6 (i := 14) rfl)⟩
theorem fl_X2_53 : FLD RX2 53 2 4 := ⟨_, cls_2, by decide, Or.inl (im_6 (i := 19) rfl)⟩
theorem fl_X2_57 : FLD RX2 57 2 5 := ⟨_, cls_2, by decide, Or.inl (im_6 (i := 20) rfl)⟩
theorem fl_X2_60 : FLD RX2 60 2 6 := ⟨_, cls_2, by decide, Or.inl (im_6 (i := 21) rfl)⟩
theorem fl_X2_67 : FLD RX2 67 10 2 := ⟨_, cls_10, by decide, Or.inr ⟨"BlueBag", (im_4 (i := 49) rfl)⟩⟩
theorem fl_X2_74 : FLD RX2 74 10 6 := ⟨_, cls_10, by decide, Or.inr ⟨"BlueBag", (im_4 (i := 58) rfl)⟩⟩
theorem fl_X2_77 : FLD RX2 77 10 7 := ⟨_, cls_10, by decide, Or.inr ⟨"BlueBag", (im_5 (i := 0) rfl)⟩⟩
theorem fl_X2_129 : FLD RX2 129 1 8 := ⟨_, cls_1, by decide, Or.inr ⟨"BlueBag", (im_3 (i := 41) rfl)⟩⟩
theorem fl_X2_159 : FLD RX2 159 1 4 := ⟨_, cls_1, by decide, Or.inr ⟨"BlueBag", (im_3 (i := 32) rfl)⟩⟩
theorem fl_X2_162 : FLD RX2 162 1 5 := ⟨_, cls_1, by decide, Or.inr ⟨"BlueBag", (im_3 (i := 35) rfl)⟩⟩
theorem fl_X2_171 : FLD RX2 171 8 7 := ⟨_, cls_8, by decide, Or.inr ⟨"BlueBag", (im_4 (i := 17) rfl)⟩⟩
theorem fl_X2_178 : FLD RX2 178 8 9 := ⟨_, cls_8, by decide, Or.inr ⟨"BlueBag", (im_4 (i := 22) rfl)⟩⟩
theorem fl_X2_180 : FLD RX2 180 1 2 := ⟨_, cls_1, by decide, Or.inr ⟨"BlueBag", (im_3 (i := 23) rfl)⟩⟩
theorem fl_X2_182 : FLD RX2 182 1 3 := ⟨_, cls_1, by decide, Or.inr ⟨"BlueBag", (im_3 (i := 27) rfl)⟩⟩
theorem fl_X2_193 : FLD RX2 193 10 5 := ⟨_, cls_10, by decide, Or.inr ⟨"BlueBag", (im_4 (i := 56) rfl)⟩⟩
theorem fl_X3_7 : FLD RX3 7 3 0 := ⟨_, cls_3, by decide, Or.inl (im_7 (i := 28) rfl)⟩
theorem fl_X4_12 : FLD RX4 12 4 1 := ⟨_, cls_4, by decide, Or.inl (im_6 (i := 48) rfl)⟩
theorem fl_X4_18 : FLD RX4 18 4 2 := ⟨_, cls_4, by decide, Or.inl (im_6 (i := 50) rfl)⟩
theorem fl_X4_22 : FLD RX4 22 4 3 := ⟨_, cls_4, by decide, Or.inl (im_6 (i := 51) rfl)⟩
theorem fl_X4_25 : FLD RX4 25 4 4 := ⟨_, cls_4, by decide, Or.inl (im_6 (i := 52) rfl)⟩
theorem fl_X4_28 : FLD RX4 28 4 5 := ⟨_, cls_4, by decide, Or.inl (im_6 (i := 53) rfl)⟩
theorem fl_X4_36 : FLD RX4 36 4 0 := ⟨_, cls_4, by decide, Or.inl (im_6 (i := 46) rfl)⟩
theorem fl_X4_47 : FLD RX4 47 4 6 := ⟨_, cls_4, by decide, Or.inl (im_6 (i := 54) rfl)⟩
theorem fl_X5_9 : FLD RX5 9 5 0 := ⟨_, cls_5, by decide, Or.inl (im_2 (i := 53) rfl)⟩
theorem fl_X5_15 : FLD RX5 15 5 1 := ⟨_, cls_5, by decide, Or.inl (im_2 (i := 54) rfl)⟩
theorem fl_X5_18 : FLD RX5 18 5 2 := ⟨_, cls_5, by decide, Or.inl (im_2 (i := 55) rfl)⟩
theorem fl_X6_9 : FLD RX6 9 6 0 := ⟨_, cls_6, by decide, Or.inl (im_6 (i := 7) rfl)⟩
theorem fl_X6_15 : FLD RX6 15 6 1 := ⟨_, cls_6, by decide, Or.inl (im_6 (i := 8) rfl)⟩
theorem fl_X6_19 : FLD RX6 19 6 2 := ⟨_, cls_6, by decide, Or.inl (im_6 (i := 9) rfl)⟩
theorem fl_X6_28 : FLD RX6 28 10 2 := ⟨_, cls_10, by decide, Or.inr ⟨"BlueBag", (im_4 (i := 50) rfl)⟩⟩
theorem fl_X6_77 : FLD RX6 77 10 5 := ⟨_, cls_10, by decide, Or.inr ⟨"BlueBag", (im_4 (i := 55) rfl)⟩⟩
theorem fl_X7_9 : FLD RX7 9 7 0 := ⟨_, cls_7, by decide, Or.inl (im_7 (i := 10) rfl)⟩
theorem fl_X7_15 : FLD RX7 15 7 1 := ⟨_, cls_7, by decide, Or.inl (im_7 (i := 11) rfl)⟩
theorem fl_X7_18 : FLD RX7 18 7 2 := ⟨_, cls_7, by decide, Or.inl (im_7 (i := 12) rfl)⟩
theorem fl_X7_21 : FLD RX7 21 7 3 := ⟨_, cls_7, by decide, Or.inl (im_7 (i := 13) rfl)⟩
theorem fl_X7_25 : FLD RX7 25 7 4 := ⟨_, cls_7, by decide, Or.inl (im_7 (i := 14) rfl)⟩
theorem fl_X7_29 : FLD RX7 29 8 0 := ⟨_, cls_8, by decide, Or.inr ⟨"BlueBag", (im_4 (i := 8) rfl)⟩⟩
theorem fl_X7_35 : FLD RX7 35 1 4 := ⟨_, cls_1, by decide, Or.inr ⟨"BlueBag", (im_3 (i := 30) rfl)⟩⟩
theorem fl_X7_41 : FLD RX7 41 7 5 := ⟨_, cls_7, by decide, Or.inl (im_7 (i := 15) rfl)⟩
theorem fl_X8_9 : FLD RX8 9 8 1 := ⟨_, cls_8, by decide, Or.inl (im_4 (i := 9) rfl)⟩
theorem fl_X8_15 : FLD RX8 15 8 2 := ⟨_, cls_8, by decide, Or.inl (im_4 (i := 10) rfl)⟩
theorem fl_X8_18 : FLD RX8 18 8 3 := ⟨_, cls_8, by decide, Or.inl (im_4 (i := 11) rfl)⟩
theorem fl_X8_21 : FLD RX8 21 8 4 := ⟨_, cls_8, by decide, Or.inl (im_4 (i := 12) rfl)⟩
theorem fl_X8_24 : FLD RX8 24 8 5 := ⟨_, cls_8, by decide, Or.inl (im_4 (i := 13) rfl)⟩
theorem fl_X8_29 : FLD RX8 29 8 6 := ⟨_, cls_8, by decide, Or.inl (im_4 (i := 14) rfl)⟩
theorem fl_X8_32 : FLD RX8 32 8 0 := ⟨_, cls_8, by decide, Or.inl (im_4 (i := 7) rfl)⟩
theorem fl_X8_39 : FLD RX8 39 8 7 := ⟨_, cls_8, by decide, Or.inl (im_4 (i := 15) rfl)⟩
theorem fl_X8_43 : FLD RX8 43 8 8 := ⟨_, cls_8, by decide, Or.inl (im_4 (i := 18) rfl)⟩
theorem fl_X8_46 : FLD RX8 46 8 9 := ⟨_, cls_8, by decide, Or.inl (im_4 (i := 20) rfl)⟩
theorem fl_X8_49 : FLD RX8 49 8 10 := ⟨_, cls_8, by decide, Or.inl (im_4 (i := 23) rfl)⟩
theorem fl_X8_52 : FLD RX8 52 8 11 := ⟨_, cls_8, by decide, Or.inl (im_4 (i := 25) rfl)⟩
theorem fl_X8_55 : FLD RX8 55 8 12 := ⟨_, cls_8, by decide, Or.inl (im_4 (i := 27) rfl)⟩
theorem fl_X8_74 : FLD RX8 74 1 4 := ⟨_, cls_1, by decide, Or.inr ⟨"BlueBag", (im_3 (i := 33) rfl)⟩⟩
theorem fl_X8_89 : FLD RX8 89 1 2 := ⟨_, cls_1, by decide, Or.inr ⟨"BlueBag", (im_3 (i := 24) rfl)⟩⟩
theorem fl_X8_98 : FLD RX8 98 1 3 := ⟨_, cls_1, by decide, Or.inr ⟨"BlueBag", (im_3 (i := 28) rfl)⟩⟩
theorem fl_X8_110 : FLD RX8 110 1 8 := ⟨_, cls_1, by decide, Or.inr ⟨"BlueBag", (im_3 (i := 42) rfl)⟩⟩
theorem fl_X8_154 : FLD RX8 154 1 7 := ⟨_, cls_1, by decide, Or.inr ⟨"BlueBag", (im_3 (i := 39) rfl)⟩⟩
theorem fl_X9_9 : FLD RX9 9 9 0 := ⟨_, cls_9, by decide, Or.inl (im_2 (i := 37) rfl)⟩
theorem fl_X9_15 : FLD RX9 15 9 1 := ⟨_, cls_9, by decide, Or.inl (im_2 (i := 38) rfl)⟩
theorem fl_X10_9 : FLD RX10 9 10 0 := ⟨_, cls_10, by decide, Or.inl (im_4 (i := 47) rfl)⟩
theorem fl_X10_15 : FLD RX10 15 10 1 := ⟨_, cls_10, by decide, Or.inl (im_4 (i := 48) rfl)⟩
theorem fl_X10_19 : FLD RX10 19 10 4 := ⟨_, cls_10, by decide, Or.inl (im_4 (i := 53) rfl)⟩
theorem fl_X10_22 : FLD RX10 22 10 6 := ⟨_, cls_10, by decide, Or.inl (im_4 (i := 57) rfl)⟩
theorem fl_X10_25 : FLD RX10 25 10 7 := ⟨_, cls_10, by decide, Or.inl (im_4 (i := 59) rfl)⟩
theorem fl_X10_31 : FLD RX10 31 10 3 := ⟨_, cls_10, by decide, Or.inl (im_4 (i := 52) rfl)⟩
theorem fl_X10_44 : FLD RX10 44 10 5 := ⟨_, cls_10, by decide, Or.inl (im_4 (i := 54) rfl)⟩
theorem fl_X10_47 : FLD RX10 47 10 2 := ⟨_, cls_10, by decide, Or.inl (im_4 (i := 51) rfl)⟩
theorem fl_X12_15 : FLD RX12 15 12 0 := ⟨_, cls_12, by decide, Or.inl (im_20 (i := 21) rfl)⟩
theorem fl_X12_31 : FLD RX12 31 12 1 := ⟨_, cls_12, by decide, Or.inl (im_20 (i := 22) rfl)⟩
theorem fl_X12_34 : FLD RX12 34 12 2 := ⟨_, cls_12, by decide, Or.inl (im_20 (i := 23) rfl)⟩
theorem fl_X12_37 : FLD RX12 37 12 3 := ⟨_, cls_12, by decide, Or.inl (im_20 (i := 24) rfl)⟩
theorem fl_X12_40 : FLD RX12 40 12 5 := ⟨_, cls_12, by decide, Or.inl (im_20 (i := 26) rfl)⟩
theorem fl_X12_44 : FLD RX12 44 12 6 := ⟨_, cls_12, by decide, Or.inl (im_20 (i := 27) rfl)⟩
theorem fl_X12_47 : FLD RX12 47 12 7 := ⟨_, cls_12, by decide, Or.inl (im_20 (i := 28) rfl)⟩
theorem fl_X12_50 : FLD RX12 50 12 8 := ⟨_, cls_12, by decide, Or.inl (im_20 (i := 29) rfl)⟩
theorem fl_X12_53 : FLD RX12 53 12 9 := ⟨_, cls_12, by decide, Or.inl (im_20 (i := 30) rfl)⟩
theorem fl_X12_56 : FLD RX12 56 12 10 := ⟨_, cls_12, by decide, Or.inl (im_20 (i := 31) rfl)⟩
theorem fl_X12_59 : FLD RX12 59 12 11 := ⟨_, cls_12, by decide, Or.inl (im_20 (i := 32) rfl)⟩
theorem fl_X12_62 : FLD RX12 62 12 12 := ⟨_, cls_12, by decide, Or.inl (im_20 (i := 33) rfl)⟩
theorem fl_X12_65 : FLD RX12 65 12 13 := ⟨_, cls_12, by decide, Or.inl (im_20 (i := 34) rfl)⟩
theorem fl_X12_68 : FLD RX12 68 12 14 := ⟨_, cls_12, by decide, Or.inl (im_20 (i := 35) rfl)⟩
theorem fl_X12_71 : FLD RX12 71 12 24 := ⟨_, cls_12, by decide, Or.inl (im_20 (i := 45) rfl)⟩
theorem fl_X12_75 : FLD RX12 75 12 28 := ⟨_, cls_12, by decide, Or.inl (im_20 (i := 49) rfl)⟩
theorem fl_X12_77 : FLD RX12 77 12 29 := ⟨_, cls_12, by decide, Or.inl (im_20 (i := 50) rfl)⟩
theorem fl_X12_80 : FLD RX12 80 12 30 := ⟨_, cls_12, by decide, Or.inl (im_20 (i := 51) rfl)⟩
theorem fl_X12_83 : FLD RX12 83 12 38 := ⟨_, cls_12, by decide, Or.inl (im_20 (i := 59) rfl)⟩
theorem fl_X12_86 : FLD RX12 86 12 39 := ⟨_, cls_12, by decide, Or.inl (im_21 (i := 0) rfl)⟩
theorem fl_X12_89 : FLD RX12 89 12 40 := ⟨_, cls_12, by decide, Or.inl (im_21 (i := 1) rfl)⟩
theorem fl_X12_92 : FLD RX12 92 12 42 := ⟨_, cls_12, by decide, Or.inl (im_21 (i := 3) rfl)⟩
theorem fl_X12_95 : FLD RX12 95 12 43 := ⟨_, cls_12, by decide, Or.inl (im_21 (i := 4) rfl)⟩
theorem fl_X12_98 : FLD RX12 98 12 44 := ⟨_, cls_12, by decide, Or.inl (im_21 (i := 5) rfl)⟩
theorem fl_X12_101 : FLD RX12 101 12 45 := ⟨_, cls_12, by decide, Or.inl (im_21 (i := 6) rfl)⟩
theorem fl_X12_104 : FLD RX12 104 12 46 := ⟨_, cls_12, by decide, Or.inl (im_21 (i := 7) rfl)⟩
theorem fl_X12_107 : FLD RX12 107 12 47 := ⟨_, cls_12, by decide, Or.inl (im_21 (i := 8) rfl)⟩
theorem fl_X12_110 : FLD RX12 110 12 48 := ⟨_, cls_12, by decide, Or.inl (im_21 (i := 9) rfl)⟩
theorem fl_X12_113 : FLD RX12 113 12 49 := ⟨_, cls_12, by decide, Or.inl (im_21 (i := 10) rfl)⟩
theorem fl_X12_116 : FLD RX12 116 12 50 := ⟨_, cls_12, by decide, Or.inl (im_21 (i := 11) rfl)⟩
theorem fl_X12_119 : FLD RX12 119 12 51 := ⟨_, cls_12, by decide, Or.inl (im_21 (i := 12) rfl)⟩
theorem fl_X12_122 : FLD RX12 122 12 53 := ⟨_, cls_12, by decide, Or.inl (im_21 (i := 14) rfl)⟩
theorem fl_X12_125 : FLD RX12 125 12 58 := ⟨_, cls_12, by decide, Or.inl (im_21 (i := 19) rfl)⟩
theorem fl_X12_128 : FLD RX12 128 12 59 := ⟨_, cls_12, by decide, Or.inl (im_21 (i := 20) rfl)⟩
theorem fl_X12_131 : FLD RX12 131 12 60 := ⟨_, cls_12, by decide, Or.inl (im_21 (i := 21) rfl)⟩
theorem fl_X12_134 : FLD RX12 134 12 61 := ⟨_, cls_12, by decide, Or.inl (im_21 (i := 22) rfl)⟩
theorem fl_X12_137 : FLD RX12 137 12 62 := ⟨_, cls_12, by decide, Or.inl (im_21 (i := 23) rfl)⟩
theorem fl_X12_140 : FLD RX12 140 12 63 := ⟨_, cls_12, by decide, Or.inl (im_21 (i := 24) rfl)⟩
theorem fl_X12_147 : FLD RX12 147 12 32 := ⟨_, cls_12, by decide, Or.inl (im_20 (i := 53) rfl)⟩
theorem fl_X12_150 : FLD RX12 150 12 4 := ⟨_, cls_12, by decide, Or.inl (im_20 (i := 25) rfl)⟩
theorem fl_X12_161 : FLD RX12 161 12 15 := ⟨_, cls_12, by decide, Or.inl (im_20 (i := 36) rfl)⟩
theorem fl_X12_164 : FLD RX12 164 12 17 := ⟨_, cls_12, by decide, Or.inl (im_20 (i := 38) rfl)⟩
theorem fl_X12_167 : FLD RX12 167 12 16 := ⟨_, cls_12, by decide, Or.inl (im_20 (i := 37) rfl)⟩
theorem fl_X12_174 : FLD RX12 174 12 20 := ⟨_, cls_12, by decide, Or.inl (im_20 (i := 41) rfl)⟩
theorem fl_X12_177 : FLD RX12 177 12 18 := ⟨_, cls_12, by decide, Or.inl (im_20 (i := 39) rfl)⟩
theorem fl_X12_187 : FLD RX12 187 12 19 := ⟨_, cls_12, by decide, Or.inl (im_20 (i := 40) rfl)⟩
theorem fl_X12_200 : FLD RX12 200 12 21 := ⟨_, cls_12, by decide, Or.inl (im_20 (i := 42) rfl)⟩
theorem fl_X12_203 : FLD RX12 203 12 22 := ⟨_, cls_12, by decide, Or.inl (im_20 (i := 43) rfl)⟩
theorem fl_X12_206 : FLD RX12 206 12 23 := ⟨_, cls_12, by decide, Or.inl (im_20 (i := 44) rfl)⟩
theorem fl_X12_236 : FLD RX12 236 12 26 := ⟨_, cls_12, by decide, Or.inl (im_20 (i := 47) rfl)⟩
theorem fl_X12_240 : FLD RX12 240 12 27 := ⟨_, cls_12, by decide, Or.inl (im_20 (i := 48) rfl)⟩
theorem fl_X12_280 : FLD RX12 280 12 25 := ⟨_, cls_12, by decide, Or.inl (im_20 (i := 46) rfl)⟩
theorem fl_X12_331 : FLD RX12 331 12 31 := ⟨_, cls_12, by decide, Or.inl (im_20 (i := 52) rfl)⟩
theorem fl_X12_333 : FLD RX12 333 12 33 := ⟨_, cls_12, by decide, Or.inl (im_20 (i := 54) rfl)⟩
theorem fl_X12_336 : FLD RX12 336 12 34 := ⟨_, cls_12, by decide, Or.inl (im_20 (i := 55) rfl)⟩
theorem fl_X12_339 : FLD RX12 339 12 35 := ⟨_, cls_12, by decide, Or.inl (im_20 (i := 56) rfl)⟩
theorem fl_X12_342 : FLD RX12 342 12 36 := ⟨_, cls_12, by decide, Or.inl (im_20 (i := 57) rfl)⟩
theorem fl_X12_345 : FLD RX12 345 12 37 := ⟨_, cls_12, by decide, Or.inl (im_20 (i := 58) rfl)⟩
theorem fl_X12_348 : FLD RX12 348 12 55 := ⟨_, cls_12, by decide, Or.inl (im_21 (i := 16) rfl)⟩
theorem fl_X12_393 : FLD RX12 393 12 41 := ⟨_, cls_12, by decide, Or.inl (im_21 (i := 2) rfl)⟩
theorem fl_X12_472 : FLD RX12 472 12 52 := ⟨_, cls_12, by decide, Or.inl (im_21 (i := 13) rfl)⟩
theorem fl_X12_490 : FLD RX12 490 12 54 := ⟨_, cls_12, by decide, Or.inl (im_21 (i := 15) rfl)⟩
theorem fl_X12_500 : FLD RX12 500 12 56 := ⟨_, cls_12, by decide, Or.inl (im_21 (i := 17) rfl)⟩
theorem fl_X12_503 : FLD RX12 503 12 57 := ⟨_, cls_12, by decide, Or.inl (im_21 (i := 18) rfl)⟩
theorem ft_0_0 : FLT 0 0 (.array .int) true := by intro q hq; cases hq; exact ⟨by decide +kernel, rfl⟩
theorem ft_0_1 : FLT 0 1 .int false := by intro q hq; cases hq; exact ⟨by decide +kernel, rfl⟩
theorem ft_1_0 : FLT 1 0 .int false := by intro q hq; cases hq; exact ⟨by decide +kernel, rfl⟩
theorem ft_1_1 : FLT 1 1 .int false := by intro q hq; cases hq; exact ⟨by decide +kernel, rfl⟩
theorem ft_1_2 : FLT 1 2 .int false := by intro q hq; cases hq; exact ⟨by decide +kernel, rfl⟩
theorem ft_1_3 : FLT 1 3 .int false := by intro q hq; cases hq; exact ⟨by decide +kernel, rfl⟩
theorem ft_1_4 : FLT 1 4 .int false := by intro q hq; cases hq; exact ⟨by decide +kernel, rfl⟩
theorem ft_1_5 : FLT 1 5 .int false := by intro q hq; cases hq; exact ⟨by decide +kernel, rfl⟩
theorem ft_1_6 : FLT 1 6 (.array .int) true := by intro q hq; cases hq; exact ⟨by decide +kernel, rfl⟩
theorem ft_1_7 : FLT 1 7 (.object "BlueBag$Rule") true := by intro q hq; cases hq; exact ⟨by decide +kernel, rfl⟩
theorem ft_1_8 : FLT 1 8 (.object "BlueBag$Rule") true := by intro q hq; cases hq; exact ⟨by decide +kernel, rfl⟩
theorem ft_2_0 : FLT 2 0 (.object "BlueBag$Tokens") true := by intro q hq; cases hq; exact ⟨by decide +kernel, rfl⟩
theorem ft_2_1 : FLT 2 1 (.object "BlueBag$RuleReader") true := by intro q hq; cases hq; exact ⟨by decide +kernel, rfl⟩
theorem ft_2_2 : FLT 2 2 (.object "BlueBag$Coast") true := by intro q hq; cases hq; exact ⟨by decide +kernel, rfl⟩
theorem ft_2_3 : FLT 2 3 (.object "BlueBag$Sky") true := by intro q hq; cases hq; exact ⟨by decide +kernel, rfl⟩
theorem ft_2_4 : FLT 2 4 .int false := by intro q hq; cases hq; exact ⟨by decide +kernel, rfl⟩
theorem ft_2_5 : FLT 2 5 .int false := by intro q hq; cases hq; exact ⟨by decide +kernel, rfl⟩
theorem ft_2_6 : FLT 2 6 .boolean false := by intro q hq; cases hq; exact ⟨by decide +kernel, rfl⟩
theorem ft_3_0 : FLT 3 0 .int false := by intro q hq; cases hq; exact ⟨by decide +kernel, rfl⟩
theorem ft_4_0 : FLT 4 0 (.object "BlueBag$Sky") true := by intro q hq; cases hq; exact ⟨by decide +kernel, rfl⟩
theorem ft_4_1 : FLT 4 1 (.object "BlueBag$Acts") true := by intro q hq; cases hq; exact ⟨by decide +kernel, rfl⟩
theorem ft_4_2 : FLT 4 2 (.array .int) true := by intro q hq; cases hq; exact ⟨by decide +kernel, rfl⟩
theorem ft_4_3 : FLT 4 3 (.array .int) true := by intro q hq; cases hq; exact ⟨by decide +kernel, rfl⟩
theorem ft_4_4 : FLT 4 4 (.array .int) true := by intro q hq; cases hq; exact ⟨by decide +kernel, rfl⟩
theorem ft_4_5 : FLT 4 5 (.array .int) true := by intro q hq; cases hq; exact ⟨by decide +kernel, rfl⟩
theorem ft_4_6 : FLT 4 6 .int false := by intro q hq; cases hq; exact ⟨by decide +kernel, rfl⟩
theorem ft_5_0 : FLT 5 0 (.array .int) true := by intro q hq; cases hq; exact ⟨by decide +kernel, rfl⟩
theorem ft_5_1 : FLT 5 1 (.array .int) true := by intro q hq; cases hq; exact ⟨by decide +kernel, rfl⟩
theorem ft_5_2 : FLT 5 2 .int false := by intro q hq; cases hq; exact ⟨by decide +kernel, rfl⟩
theorem ft_6_0 : FLT 6 0 (.object "BlueBag$Tokens") true := by intro q hq; cases hq; exact ⟨by decide +kernel, rfl⟩
theorem ft_6_1 : FLT 6 1 (.object "BlueBag$Rule") false := by intro q hq; cases hq; exact ⟨by decide +kernel, rfl⟩
theorem ft_6_2 : FLT 6 2 .boolean false := by intro q hq; cases hq; exact ⟨by decide +kernel, rfl⟩
theorem ft_7_0 : FLT 7 0 (.array .int) true := by intro q hq; cases hq; exact ⟨by decide +kernel, rfl⟩
theorem ft_7_1 : FLT 7 1 (.array .int) true := by intro q hq; cases hq; exact ⟨by decide +kernel, rfl⟩
theorem ft_7_2 : FLT 7 2 (.array .int) true := by intro q hq; cases hq; exact ⟨by decide +kernel, rfl⟩
theorem ft_7_3 : FLT 7 3 (.object "BlueBag$Sky") true := by intro q hq; cases hq; exact ⟨by decide +kernel, rfl⟩
theorem ft_7_4 : FLT 7 4 .int false := by intro q hq; cases hq; exact ⟨by decide +kernel, rfl⟩
theorem ft_7_5 : FLT 7 5 .int false := by intro q hq; cases hq; exact ⟨by decide +kernel, rfl⟩
theorem ft_8_0 : FLT 8 0 (.object "BlueBag$Coast") true := by intro q hq; cases hq; exact ⟨by decide +kernel, rfl⟩
theorem ft_8_1 : FLT 8 1 (.array .int) true := by intro q hq; cases hq; exact ⟨by decide +kernel, rfl⟩
theorem ft_8_2 : FLT 8 2 (.array .int) true := by intro q hq; cases hq; exact ⟨by decide +kernel, rfl⟩
theorem ft_8_3 : FLT 8 3 (.array .int) true := by intro q hq; cases hq; exact ⟨by decide +kernel, rfl⟩
theorem ft_8_4 : FLT 8 4 (.array .int) true := by intro q hq; cases hq; exact ⟨by decide +kernel, rfl⟩
theorem ft_8_5 : FLT 8 5 (.array .int) true := by intro q hq; cases hq; exact ⟨by decide +kernel, rfl⟩
theorem ft_8_6 : FLT 8 6 (.array .int) true := by intro q hq; cases hq; exact ⟨by decide +kernel, rfl⟩
theorem ft_8_7 : FLT 8 7 .int false := by intro q hq; cases hq; exact ⟨by decide +kernel, rfl⟩
theorem ft_8_8 : FLT 8 8 .int false := by intro q hq; cases hq; exact ⟨by decide +kernel, rfl⟩
theorem ft_8_9 : FLT 8 9 .int false := by intro q hq; cases hq; exact ⟨by decide +kernel, rfl⟩
theorem ft_8_10 : FLT 8 10 .int false := by intro q hq; cases hq; exact ⟨by decide +kernel, rfl⟩
theorem ft_8_11 : FLT 8 11 .int false := by intro q hq; cases hq; exact ⟨by decide +kernel, rfl⟩
theorem ft_8_12 : FLT 8 12 .int false := by intro q hq; cases hq; exact ⟨by decide +kernel, rfl⟩
theorem ft_9_0 : FLT 9 0 (.array .byte) true := by intro q hq; cases hq; exact ⟨by decide +kernel, rfl⟩
theorem ft_9_1 : FLT 9 1 .int false := by intro q hq; cases hq; exact ⟨by decide +kernel, rfl⟩
theorem ft_10_0 : FLT 10 0 (.object "BlueBag$Tape") true := by intro q hq; cases hq; exact ⟨by decide +kernel, rfl⟩
theorem ft_10_1 : FLT 10 1 .int false := by intro q hq; cases hq; exact ⟨by decide +kernel, rfl⟩
theorem ft_10_2 : FLT 10 2 .int false := by intro q hq; cases hq; exact ⟨by decide +kernel, rfl⟩
theorem ft_10_3 : FLT 10 3 .int false := by intro q hq; cases hq; exact ⟨by decide +kernel, rfl⟩
theorem ft_10_4 : FLT 10 4 .int false := by intro q hq; cases hq; exact ⟨by decide +kernel, rfl⟩
theorem ft_10_5 : FLT 10 5 .int false := by intro q hq; cases hq; exact ⟨by decide +kernel, rfl⟩
theorem ft_10_6 : FLT 10 6 .int false := by intro q hq; cases hq; exact ⟨by decide +kernel, rfl⟩
theorem ft_10_7 : FLT 10 7 .int false := by intro q hq; cases hq; exact ⟨by decide +kernel, rfl⟩
theorem ft_11_0 : FLT 11 0 (.object "BlueBag$Tape") true := by intro q hq; cases hq; exact ⟨by decide +kernel, rfl⟩
theorem ft_11_1 : FLT 11 1 (.object "BlueBag$Coast") true := by intro q hq; cases hq; exact ⟨by decide +kernel, rfl⟩
theorem ft_11_2 : FLT 11 2 (.object "BlueBag$CoastReader") true := by intro q hq; cases hq; exact ⟨by decide +kernel, rfl⟩
theorem ft_11_3 : FLT 11 3 (.object "BlueBag$Memory") true := by intro q hq; cases hq; exact ⟨by decide +kernel, rfl⟩
theorem ft_11_4 : FLT 11 4 (.object "BlueBag$Memory") true := by intro q hq; cases hq; exact ⟨by decide +kernel, rfl⟩
theorem ft_11_5 : FLT 11 5 (.object "BlueBag$Sky") true := by intro q hq; cases hq; exact ⟨by decide +kernel, rfl⟩
theorem ft_11_6 : FLT 11 6 (.object "BlueBag$Sending") true := by intro q hq; cases hq; exact ⟨by decide +kernel, rfl⟩
theorem ft_11_7 : FLT 11 7 (.object "BlueBag$Dice") true := by intro q hq; cases hq; exact ⟨by decide +kernel, rfl⟩
theorem ft_11_8 : FLT 11 8 (.array .long) true := by intro q hq; cases hq; exact ⟨by decide +kernel, rfl⟩
theorem ft_11_9 : FLT 11 9 (.array .long) true := by intro q hq; cases hq; exact ⟨by decide +kernel, rfl⟩
theorem ft_11_10 : FLT 11 10 (.array .int) true := by intro q hq; cases hq; exact ⟨by decide +kernel, rfl⟩
theorem ft_11_11 : FLT 11 11 .boolean false := by intro q hq; cases hq; exact ⟨by decide +kernel, rfl⟩
theorem ft_11_12 : FLT 11 12 .int false := by intro q hq; cases hq; exact ⟨by decide +kernel, rfl⟩
theorem ft_12_0 : FLT 12 0 (.array (.object "java/lang/String")) true := by intro q hq; cases hq; exact ⟨by decide +kernel, rfl⟩
theorem ft_12_1 : FLT 12 1 (.array (.object "java/lang/String")) true := by intro q hq; cases hq; exact ⟨by decide +kernel, rfl⟩
theorem ft_12_2 : FLT 12 2 (.array (.object "java/lang/String")) true := by intro q hq; cases hq; exact ⟨by decide +kernel, rfl⟩
theorem ft_12_3 : FLT 12 3 (.array (.object "java/lang/String")) false := by intro q hq; cases hq; exact ⟨by decide +kernel, rfl⟩
theorem ft_12_4 : FLT 12 4 .int false := by intro q hq; cases hq; exact ⟨by decide +kernel, rfl⟩
theorem ft_12_5 : FLT 12 5 (.array .int) true := by intro q hq; cases hq; exact ⟨by decide +kernel, rfl⟩
theorem ft_12_6 : FLT 12 6 (.array .int) true := by intro q hq; cases hq; exact ⟨by decide +kernel, rfl⟩
theorem ft_12_7 : FLT 12 7 (.array .int) true := by intro q hq; cases hq; exact ⟨by decide +kernel, rfl⟩
theorem ft_12_8 : FLT 12 8 (.array .int) true := by intro q hq; cases hq; exact ⟨by decide +kernel, rfl⟩
theorem ft_12_9 : FLT 12 9 (.array .int) true := by intro q hq; cases hq; exact ⟨by decide +kernel, rfl⟩
theorem ft_12_10 : FLT 12 10 (.array .int) true := by intro q hq; cases hq; exact ⟨by decide +kernel, rfl⟩
theorem ft_12_11 : FLT 12 11 (.array .int) true := by intro q hq; cases hq; exact ⟨by decide +kernel, rfl⟩
theorem ft_12_12 : FLT 12 12 (.array .int) true := by intro q hq; cases hq; exact ⟨by decide +kernel, rfl⟩
theorem ft_12_13 : FLT 12 13 (.array .int) true := by intro q hq; cases hq; exact ⟨by decide +kernel, rfl⟩
theorem ft_12_14 : FLT 12 14 (.array .int) true := by intro q hq; cases hq; exact ⟨by decide +kernel, rfl⟩
theorem ft_12_15 : FLT 12 15 .int false := by intro q hq; cases hq; exact ⟨by decide +kernel, rfl⟩
theorem ft_12_16 : FLT 12 16 .int false := by intro q hq; cases hq; exact ⟨by decide +kernel, rfl⟩
theorem ft_12_17 : FLT 12 17 .int false := by intro q hq; cases hq; exact ⟨by decide +kernel, rfl⟩
theorem ft_12_18 : FLT 12 18 .int false := by intro q hq; cases hq; exact ⟨by decide +kernel, rfl⟩
theorem ft_12_19 : FLT 12 19 .int false := by intro q hq; cases hq; exact ⟨by decide +kernel, rfl⟩
theorem ft_12_20 : FLT 12 20 .int false := by intro q hq; cases hq; exact ⟨by decide +kernel, rfl⟩
theorem ft_12_21 : FLT 12 21 .int false := by intro q hq; cases hq; exact ⟨by decide +kernel, rfl⟩
theorem ft_12_22 : FLT 12 22 .int false := by intro q hq; cases hq; exact ⟨by decide +kernel, rfl⟩
theorem ft_12_23 : FLT 12 23 .int false := by intro q hq; cases hq; exact ⟨by decide +kernel, rfl⟩
theorem ft_12_24 : FLT 12 24 .int false := by intro q hq; cases hq; exact ⟨by decide +kernel, rfl⟩
theorem ft_12_25 : FLT 12 25 .int false := by intro q hq; cases hq; exact ⟨by decide +kernel, rfl⟩
theorem ft_12_26 : FLT 12 26 .boolean false := by intro q hq; cases hq; exact ⟨by decide +kernel, rfl⟩
theorem ft_12_27 : FLT 12 27 .boolean false := by intro q hq; cases hq; exact ⟨by decide +kernel, rfl⟩
theorem ft_12_28 : FLT 12 28 (.array .int) true := by intro q hq; cases hq; exact ⟨by decide +kernel, rfl⟩
theorem ft_12_29 : FLT 12 29 (.array .int) true := by intro q hq; cases hq; exact ⟨by decide +kernel, rfl⟩
theorem ft_12_30 : FLT 12 30 (.array .int) true := by intro q hq; cases hq; exact ⟨by decide +kernel, rfl⟩
theorem ft_12_31 : FLT 12 31 .int false := by intro q hq; cases hq; exact ⟨by decide +kernel, rfl⟩
theorem ft_12_32 : FLT 12 32 .int false := by intro q hq; cases hq; exact ⟨by decide +kernel, rfl⟩
theorem ft_12_33 : FLT 12 33 .int false := by intro q hq; cases hq; exact ⟨by decide +kernel, rfl⟩
theorem ft_12_34 : FLT 12 34 .int false := by intro q hq; cases hq; exact ⟨by decide +kernel, rfl⟩
theorem ft_12_35 : FLT 12 35 .int false := by intro q hq; cases hq; exact ⟨by decide +kernel, rfl⟩
theorem ft_12_36 : FLT 12 36 .int false := by intro q hq; cases hq; exact ⟨by decide +kernel, rfl⟩
theorem ft_12_37 : FLT 12 37 .int false := by intro q hq; cases hq; exact ⟨by decide +kernel, rfl⟩
theorem ft_12_38 : FLT 12 38 (.array .int) true := by intro q hq; cases hq; exact ⟨by decide +kernel, rfl⟩
theorem ft_12_39 : FLT 12 39 (.array .int) true := by intro q hq; cases hq; exact ⟨by decide +kernel, rfl⟩
theorem ft_12_40 : FLT 12 40 (.array .int) true := by intro q hq; cases hq; exact ⟨by decide +kernel, rfl⟩
theorem ft_12_41 : FLT 12 41 .int false := by intro q hq; cases hq; exact ⟨by decide +kernel, rfl⟩
theorem ft_12_42 : FLT 12 42 (.array .int) true := by intro q hq; cases hq; exact ⟨by decide +kernel, rfl⟩
theorem ft_12_43 : FLT 12 43 (.array .int) true := by intro q hq; cases hq; exact ⟨by decide +kernel, rfl⟩
theorem ft_12_44 : FLT 12 44 (.array .int) true := by intro q hq; cases hq; exact ⟨by decide +kernel, rfl⟩
theorem ft_12_45 : FLT 12 45 (.array .int) true := by intro q hq; cases hq; exact ⟨by decide +kernel, rfl⟩
theorem ft_12_46 : FLT 12 46 (.array .int) true := by intro q hq; cases hq; exact ⟨by decide +kernel, rfl⟩
theorem ft_12_47 : FLT 12 47 (.array .int) true := by intro q hq; cases hq; exact ⟨by decide +kernel, rfl⟩
theorem ft_12_48 : FLT 12 48 (.array .int) true := by intro q hq; cases hq; exact ⟨by decide +kernel, rfl⟩
theorem ft_12_49 : FLT 12 49 (.array .int) true := by intro q hq; cases hq; exact ⟨by decide +kernel, rfl⟩
theorem ft_12_50 : FLT 12 50 (.array .int) true := by intro q hq; cases hq; exact ⟨by decide +kernel, rfl⟩
theorem ft_12_51 : FLT 12 51 (.array .int) true := by intro q hq; cases hq; exact ⟨by decide +kernel, rfl⟩
theorem ft_12_52 : FLT 12 52 .int false := by intro q hq; cases hq; exact ⟨by decide +kernel, rfl⟩
theorem ft_12_53 : FLT 12 53 (.array .int) true := by intro q hq; cases hq; exact ⟨by decide +kernel, rfl⟩
theorem ft_12_54 : FLT 12 54 .int false := by intro q hq; cases hq; exact ⟨by decide +kernel, rfl⟩
theorem ft_12_55 : FLT 12 55 .boolean false := by intro q hq; cases hq; exact ⟨by decide +kernel, rfl⟩
theorem ft_12_56 : FLT 12 56 .int false := by intro q hq; cases hq; exact ⟨by decide +kernel, rfl⟩
theorem ft_12_57 : FLT 12 57 .int false := by intro q hq; cases hq; exact ⟨by decide +kernel, rfl⟩
theorem ft_12_58 : FLT 12 58 (.array .int) true := by intro q hq; cases hq; exact ⟨by decide +kernel, rfl⟩
theorem ft_12_59 : FLT 12 59 (.array .int) true := by intro q hq; cases hq; exact ⟨by decide +kernel, rfl⟩
theorem ft_12_60 : FLT 12 60 (.array .int) true := by intro q hq; cases hq; exact ⟨by decide +kernel, rfl⟩
theorem ft_12_61 : FLT 12 61 (.array .int) true := by intro q hq; cases hq; exact ⟨by decide +kernel, rfl⟩
theorem ft_12_62 : FLT 12 62 (.array .int) true := by intro q hq; cases hq; exact ⟨by decide +kernel, rfl⟩
theorem ft_12_63 : FLT 12 63 (.array .int) true := by intro q hq; cases hq; exact ⟨by decide +kernel, rfl⟩
theorem mw_X11_init : MW yX11_init cX11_init 1 none 0 := ⟨cw_138, (im_2 (i := 1) rfl), by decide, by decide +kernel⟩
theorem mw_X11_bag : MW yX11_bag cX11_bag 2 (some .int) 1 := ⟨cw_660, (im_2 (i := 1) rfl), by decide, by decide +kernel⟩
theorem mw_X11_band : MW yX11_band cX11_band 4 (some .int) 1 := ⟨cw_1295, (im_2 (i := 1) rfl), by decide, by decide +kernel⟩
theorem mw_X11_cell : MW yX11_cell cX11_cell 3 (some .int) 2 := ⟨cw_1108, (im_2 (i := 1) rfl), by decide, by decide +kernel⟩
theorem mw_X11_clearBlues : MW yX11_clearBlues cX11_clearBlues 2 none 0 := ⟨cw_1365, (im_2 (i := 1) rfl), by decide, by decide +kernel⟩
theorem mw_X11_coast : MW yX11_coast cX11_coast 3 (some .int) 1 := ⟨cw_751, (im_2 (i := 1) rfl), by decide, by decide +kernel⟩
theorem mw_X11_count : MW yX11_count cX11_count 2 (some .int) 1 := ⟨cw_1077, (im_2 (i := 1) rfl), by decide, by decide +kernel⟩
theorem mw_X11_days : MW yX11_days cX11_days 3 (some .int) 1 := ⟨cw_539, (im_2 (i := 1) rfl), by decide, by decide +kernel⟩
theorem mw_X11_drawAhead : MW yX11_drawAhead cX11_drawAhead 2 none 0 := ⟨cw_1405, (im_2 (i := 1) rfl), by decide, by decide +kernel⟩
theorem mw_X11_fault : MW yX11_fault cX11_fault 1 (some .int) 0 := ⟨cw_535, (im_2 (i := 1) rfl), by decide, by decide +kernel⟩
theorem mw_X11_feed : MW yX11_feed cX11_feed 6 (some .int) 5 := ⟨cw_523, (im_2 (i := 1) rfl), by decide, by decide +kernel⟩
theorem mw_X11_first : MW yX11_first cX11_first 3 (some .int) 1 := ⟨cw_1207, (im_2 (i := 1) rfl), by decide, by decide +kernel⟩
theorem mw_X11_forget : MW yX11_forget cX11_forget 1 none 0 := ⟨cw_725, (im_2 (i := 1) rfl), by decide, by decide +kernel⟩
theorem mw_X11_gainAt : MW yX11_gainAt cX11_gainAt 5 (some .int) 3 := ⟨cw_1394, (im_2 (i := 1) rfl), by decide, by decide +kernel⟩
theorem mw_X11_game : MW yX11_game cX11_game 9 (some .int) 3 := ⟨cw_1386, (im_2 (i := 1) rfl), by decide, by decide +kernel⟩
theorem mw_X11_gatherBlues : MW yX11_gatherBlues cX11_gatherBlues 5 none 2 := ⟨cw_1369, (im_2 (i := 1) rfl), by decide, by decide +kernel⟩
theorem mw_X11_girl : MW yX11_girl cX11_girl 3 (some .int) 2 := ⟨cw_1136, (im_2 (i := 1) rfl), by decide, by decide +kernel⟩
theorem mw_X11_go : MW yX11_go cX11_go 4 (some .int) 2 := ⟨cw_1159, (im_2 (i := 1) rfl), by decide, by decide +kernel⟩
theorem mw_X11_image : MW yX11_image cX11_image 1 none 0 := ⟨cw_729, (im_2 (i := 1) rfl), by decide, by decide +kernel⟩
theorem mw_X11_look : MW yX11_look cX11_look 6 (some .int) 1 := ⟨cw_1361, (im_2 (i := 1) rfl), by decide, by decide +kernel⟩
theorem mw_X11_lookAhead : MW yX11_lookAhead cX11_lookAhead 3 none 1 := ⟨cw_684, (im_2 (i := 1) rfl), by decide, by decide +kernel⟩
theorem mw_X11_lookAheadIfResting : MW yX11_lookAheadIfResting cX11_lookAheadIfResting 3 none 2 := ⟨cw_717, (im_2 (i := 1) rfl), by decide, by decide +kernel⟩
theorem mw_X11_missed : MW yX11_missed cX11_missed 3 (some .int) 1 := ⟨cw_1321, (im_2 (i := 1) rfl), by decide, by decide +kernel⟩
theorem mw_X11_nearest : MW yX11_nearest cX11_nearest 6 (some .int) 1 := ⟨cw_1314, (im_2 (i := 1) rfl), by decide, by decide +kernel⟩
theorem mw_X11_needCell : MW yX11_needCell cX11_needCell 2 none 1 := ⟨cw_1112, (im_2 (i := 1) rfl), by decide, by decide +kernel⟩
theorem mw_X11_needGirl : MW yX11_needGirl cX11_needGirl 2 none 1 := ⟨cw_1140, (im_2 (i := 1) rfl), by decide, by decide +kernel⟩
theorem mw_X11_needWhat : MW yX11_needWhat cX11_needWhat 3 none 2 := ⟨cw_1191, (im_2 (i := 1) rfl), by decide, by decide +kernel⟩
theorem mw_X11_needWithin : MW yX11_needWithin cX11_needWithin 4 none 3 := ⟨cw_1180, (im_2 (i := 1) rfl), by decide, by decide +kernel⟩
theorem mw_X11_overdone : MW yX11_overdone cX11_overdone 2 (some .int) 1 := ⟨cw_1200, (im_2 (i := 1) rfl), by decide, by decide +kernel⟩
theorem mw_X11_patch : MW yX11_patch cX11_patch 3 (some .int) 2 := ⟨cw_1225, (im_2 (i := 1) rfl), by decide, by decide +kernel⟩
theorem mw_X11_patches : MW yX11_patches cX11_patches 5 (some .int) 1 := ⟨cw_1232, (im_2 (i := 1) rfl), by decide, by decide +kernel⟩
theorem mw_X11_peg : MW yX11_peg cX11_peg 4 (some .int) 2 := ⟨cw_1167, (im_2 (i := 1) rfl), by decide, by decide +kernel⟩
theorem mw_X11_playAll : MW yX11_playAll cX11_playAll 6 none 2 := ⟨cw_1390, (im_2 (i := 1) rfl), by decide, by decide +kernel⟩
theorem mw_X11_refuseAct : MW yX11_refuseAct cX11_refuseAct 1 (some .int) 0 := ⟨cw_543, (im_2 (i := 1) rfl), by decide, by decide +kernel⟩
theorem mw_X11_rest : MW yX11_rest cX11_rest 3 (some .boolean) 2 := ⟨cw_1152, (im_2 (i := 1) rfl), by decide, by decide +kernel⟩
theorem mw_X11_restore : MW yX11_restore cX11_restore 1 (some .boolean) 0 := ⟨cw_743, (im_2 (i := 1) rfl), by decide, by decide +kernel⟩
theorem mw_X11_see : MW yX11_see cX11_see 4 (some .int) 3 := ⟨cw_1328, (im_2 (i := 1) rfl), by decide, by decide +kernel⟩
theorem mw_X11_sent : MW yX11_sent cX11_sent 3 (some .int) 2 := ⟨cw_1266, (im_2 (i := 1) rfl), by decide, by decide +kernel⟩
theorem mw_X11_skies : MW yX11_skies cX11_skies 5 (some .int) 3 := ⟨cw_1401, (im_2 (i := 1) rfl), by decide, by decide +kernel⟩
theorem mw_X11_skilled : MW yX11_skilled cX11_skilled 6 (some .int) 1 := ⟨cw_1339, (im_2 (i := 1) rfl), by decide, by decide +kernel⟩
theorem mw_X11_sky : MW yX11_sky cX11_sky 3 (some .int) 2 := ⟨cw_1187, (im_2 (i := 1) rfl), by decide, by decide +kernel⟩
theorem mw_X11_spent : MW yX11_spent cX11_spent 2 (some .int) 0 := ⟨cw_680, (im_2 (i := 1) rfl), by decide, by decide +kernel⟩
theorem mw_X11_steady : MW yX11_steady cX11_steady 2 (some .int) 0 := ⟨cw_692, (im_2 (i := 1) rfl), by decide, by decide +kernel⟩
theorem mw_X11_steps : MW yX11_steps cX11_steps 3 (some .int) 2 := ⟨cw_1306, (im_2 (i := 1) rfl), by decide, by decide +kernel⟩
theorem mw_X11_streak : MW yX11_streak cX11_streak 6 (some .int) 1 := ⟨cw_1214, (im_2 (i := 1) rfl), by decide, by decide +kernel⟩
theorem mw_X11_then : MW yX11_then cX11_then 3 (some .int) 2 := ⟨cw_1176, (im_2 (i := 1) rfl), by decide, by decide +kernel⟩
theorem mw_X11_toRest : MW yX11_toRest cX11_toRest 5 (some .int) 0 := ⟨cw_700, (im_2 (i := 1) rfl), by decide, by decide +kernel⟩
theorem mw_X11_toStand : MW yX11_toStand cX11_toStand 7 (some .int) 2 := ⟨cw_1250, (im_2 (i := 1) rfl), by decide, by decide +kernel⟩
theorem mw_X11_toSwish : MW yX11_toSwish cX11_toSwish 5 (some .int) 2 := ⟨cw_1258, (im_2 (i := 1) rfl), by decide, by decide +kernel⟩
theorem mw_X11_undo : MW yX11_undo cX11_undo 1 (some .int) 0 := ⟨cw_668, (im_2 (i := 1) rfl), by decide, by decide +kernel⟩
theorem mw_X11_unlikeBlues : MW yX11_unlikeBlues cX11_unlikeBlues 2 (some .int) 1 := ⟨cw_1373, (im_2 (i := 1) rfl), by decide, by decide +kernel⟩
theorem mw_X11_way : MW yX11_way cX11_way 3 (some .int) 2 := ⟨cw_1239, (im_2 (i := 1) rfl), by decide, by decide +kernel⟩
theorem mw_X11_wouldFit : MW yX11_wouldFit cX11_wouldFit 5 (some .boolean) 2 := ⟨cw_1343, (im_2 (i := 1) rfl), by decide, by decide +kernel⟩
theorem mw_X0_init : MW yX0_init cX0_init 1 none 0 := ⟨cw_403, (im_2 (i := 10) rfl), by decide, by decide +kernel⟩
theorem mw_X0_clear : MW yX0_clear cX0_clear 1 none 0 := ⟨cw_1069, (im_2 (i := 10) rfl), by decide, by decide +kernel⟩
theorem mw_X0_copyFrom : MW yX0_copyFrom cX0_copyFrom 2 none 1 := ⟨cw_738, (im_2 (i := 10) rfl), by decide, by decide +kernel⟩
theorem mw_X0_keep : MW yX0_keep cX0_keep 2 none 1 := ⟨cw_555, (im_2 (i := 10) rfl), by decide, by decide +kernel⟩
theorem mw_X0_takeBack : MW yX0_takeBack cX0_takeBack 2 (some .boolean) 1 := ⟨cw_672, (im_2 (i := 10) rfl), by decide, by decide +kernel⟩
theorem mw_X1_init : MW yX1_init cX1_init 1 none 0 := ⟨cw_161, (im_2 (i := 3) rfl), by decide, by decide +kernel⟩
theorem mw_X1_begin : MW yX1_begin cX1_begin 1 none 0 := ⟨cw_183, (im_2 (i := 3) rfl), by decide, by decide +kernel⟩
theorem mw_X1_besideBits : MW yX1_besideBits cX1_besideBits 2 (some .int) 1 := ⟨cw_599, (im_2 (i := 3) rfl), by decide, by decide +kernel⟩
theorem mw_X1_bitsBeside : MW yX1_bitsBeside cX1_bitsBeside 3 (some .int) 1 := ⟨cw_195, (im_2 (i := 3) rfl), by decide, by decide +kernel⟩
theorem mw_X1_cells : MW yX1_cells cX1_cells 1 (some .int) 0 := ⟨cw_191, (im_2 (i := 3) rfl), by decide, by decide +kernel⟩
theorem mw_X1_columnOf : MW yX1_columnOf cX1_columnOf 2 (some .int) 1 := ⟨cw_199, (im_2 (i := 3) rfl), by decide, by decide +kernel⟩
theorem mw_X1_copyFrom : MW yX1_copyFrom cX1_copyFrom 2 none 1 := ⟨cw_1056, (im_2 (i := 3) rfl), by decide, by decide +kernel⟩
theorem mw_X1_isOld : MW yX1_isOld cX1_isOld 2 (some .boolean) 1 := ⟨cw_632, (im_2 (i := 3) rfl), by decide, by decide +kernel⟩
theorem mw_X1_rowOf : MW yX1_rowOf cX1_rowOf 2 (some .int) 1 := ⟨cw_607, (im_2 (i := 3) rfl), by decide, by decide +kernel⟩
theorem mw_X1_shape : MW yX1_shape cX1_shape 4 none 2 := ⟨cw_187, (im_2 (i := 3) rfl), by decide, by decide +kernel⟩
theorem mw_X1_stepsBetween : MW yX1_stepsBetween cX1_stepsBetween 3 (some .int) 2 := ⟨cw_1282, (im_2 (i := 3) rfl), by decide, by decide +kernel⟩
theorem mw_X2_init : MW yX2_init cX2_init 2 none 1 := ⟨cw_253, (im_2 (i := 5) rfl), by decide, by decide +kernel⟩
theorem mw_X2_faultPlace : MW yX2_faultPlace cX2_faultPlace 1 (some .int) 0 := ⟨cw_1052, (im_2 (i := 5) rfl), by decide, by decide +kernel⟩
theorem mw_X2_passesOnce : MW yX2_passesOnce cX2_passesOnce 2 (some .boolean) 1 := ⟨cw_909, (im_2 (i := 5) rfl), by decide, by decide +kernel⟩
theorem mw_X2_read : MW yX2_read cX2_read 4 (some .int) 1 := ⟨cw_817, (im_2 (i := 5) rfl), by decide, by decide +kernel⟩
theorem mw_X2_readBlue : MW yX2_readBlue cX2_readBlue 3 (some .boolean) 0 := ⟨cw_933, (im_2 (i := 5) rfl), by decide, by decide +kernel⟩
theorem mw_X2_readBound : MW yX2_readBound cX2_readBound 2 (some .boolean) 0 := ⟨cw_977, (im_2 (i := 5) rfl), by decide, by decide +kernel⟩
theorem mw_X2_readCell : MW yX2_readCell cX2_readCell 3 (some .int) 1 := ⟨cw_937, (im_2 (i := 5) rfl), by decide, by decide +kernel⟩
theorem mw_X2_readGirl : MW yX2_readGirl cX2_readGirl 5 (some .boolean) 1 := ⟨cw_944, (im_2 (i := 5) rfl), by decide, by decide +kernel⟩
theorem mw_X2_readKnobs : MW yX2_readKnobs cX2_readKnobs 2 (some .boolean) 0 := ⟨cw_967, (im_2 (i := 5) rfl), by decide, by decide +kernel⟩
theorem mw_X2_readLine : MW yX2_readLine cX2_readLine 1 (some .boolean) 0 := ⟨cw_844, (im_2 (i := 5) rfl), by decide, by decide +kernel⟩
theorem mw_X2_readNumber : MW yX2_readNumber cX2_readNumber 4 (some .int) 2 := ⟨cw_914, (im_2 (i := 5) rfl), by decide, by decide +kernel⟩
theorem mw_X2_readPegs : MW yX2_readPegs cX2_readPegs 3 (some .boolean) 0 := ⟨cw_958, (im_2 (i := 5) rfl), by decide, by decide +kernel⟩
theorem mw_X2_readRinse : MW yX2_readRinse cX2_readRinse 2 (some .boolean) 0 := ⟨cw_972, (im_2 (i := 5) rfl), by decide, by decide +kernel⟩
theorem mw_X2_readRule : MW yX2_readRule cX2_readRule 3 (some .boolean) 2 := ⟨cw_982, (im_2 (i := 5) rfl), by decide, by decide +kernel⟩
theorem mw_X2_readSky : MW yX2_readSky cX2_readSky 3 (some .boolean) 0 := ⟨cw_901, (im_2 (i := 5) rfl), by decide, by decide +kernel⟩
theorem mw_X2_refuseNumber : MW yX2_refuseNumber cX2_refuseNumber 2 (some .int) 1 := ⟨cw_918, (im_2 (i := 5) rfl), by decide, by decide +kernel⟩
theorem mw_X3_init : MW yX3_init cX3_init 1 none 0 := ⟨cw_472, (im_2 (i := 12) rfl), by decide, by decide +kernel⟩
theorem mw_X3_draw : MW yX3_draw cX3_draw 3 (some .int) 1 := ⟨cw_1409, (im_2 (i := 12) rfl), by decide, by decide +kernel⟩
theorem mw_X4_init : MW yX4_init cX4_init 2 none 1 := ⟨cw_397, (im_2 (i := 9) rfl), by decide, by decide +kernel⟩
theorem mw_X4_addSeen : MW yX4_addSeen cX4_addSeen 4 (some .boolean) 3 := ⟨cw_1332, (im_2 (i := 9) rfl), by decide, by decide +kernel⟩
theorem mw_X4_begin : MW yX4_begin cX4_begin 2 none 1 := ⟨cw_1065, (im_2 (i := 9) rfl), by decide, by decide +kernel⟩
theorem mw_X4_copyFrom : MW yX4_copyFrom cX4_copyFrom 2 none 1 := ⟨cw_733, (im_2 (i := 9) rfl), by decide, by decide +kernel⟩
theorem mw_X4_fitsSeen : MW yX4_fitsSeen cX4_fitsSeen 4 (some .boolean) 2 := ⟨cw_1353, (im_2 (i := 9) rfl), by decide, by decide +kernel⟩
theorem mw_X4_keepAct : MW yX4_keepAct cX4_keepAct 1 none 0 := ⟨cw_551, (im_2 (i := 9) rfl), by decide, by decide +kernel⟩
theorem mw_X4_lastSeenDay : MW yX4_lastSeenDay cX4_lastSeenDay 3 (some .int) 0 := ⟨cw_1348, (im_2 (i := 9) rfl), by decide, by decide +kernel⟩
theorem mw_X4_refuse : MW yX4_refuse cX4_refuse 2 none 1 := ⟨cw_547, (im_2 (i := 9) rfl), by decide, by decide +kernel⟩
theorem mw_X4_refused : MW yX4_refused cX4_refused 2 (some .int) 1 := ⟨cw_1086, (im_2 (i := 9) rfl), by decide, by decide +kernel⟩
theorem mw_X5_init : MW yX5_init cX5_init 1 none 0 := ⟨cw_167, (im_2 (i := 4) rfl), by decide, by decide +kernel⟩
theorem mw_X5_clear : MW yX5_clear cX5_clear 1 none 0 := ⟨cw_203, (im_2 (i := 4) rfl), by decide, by decide +kernel⟩
theorem mw_X5_copyFrom : MW yX5_copyFrom cX5_copyFrom 2 none 1 := ⟨cw_1060, (im_2 (i := 4) rfl), by decide, by decide +kernel⟩
theorem mw_X5_isTold : MW yX5_isTold cX5_isTold 1 (some .boolean) 0 := ⟨cw_583, (im_2 (i := 4) rfl), by decide, by decide +kernel⟩
theorem mw_X5_joined : MW yX5_joined cX5_joined 3 (some .int) 3 := ⟨cw_614, (im_2 (i := 4) rfl), by decide, by decide +kernel⟩
theorem mw_X5_put : MW yX5_put cX5_put 2 none 1 := ⟨cw_1024, (im_2 (i := 4) rfl), by decide, by decide +kernel⟩
theorem mw_X5_putValue : MW yX5_putValue cX5_putValue 2 none 1 := ⟨cw_1038, (im_2 (i := 4) rfl), by decide, by decide +kernel⟩
theorem mw_X5_worth : MW yX5_worth cX5_worth 6 (some .int) 1 := ⟨cw_611, (im_2 (i := 4) rfl), by decide, by decide +kernel⟩
theorem mw_X6_init : MW yX6_init cX6_init 3 none 2 := ⟨cw_357, (im_2 (i := 8) rfl), by decide, by decide +kernel⟩
theorem mw_X6_begin : MW yX6_begin cX6_begin 3 none 2 := ⟨cw_986, (im_2 (i := 8) rfl), by decide, by decide +kernel⟩
theorem mw_X6_readAnd : MW yX6_readAnd cX6_readAnd 3 (some .boolean) 1 := ⟨cw_996, (im_2 (i := 8) rfl), by decide, by decide +kernel⟩
theorem mw_X6_readExpr : MW yX6_readExpr cX6_readExpr 4 (some .boolean) 1 := ⟨cw_991, (im_2 (i := 8) rfl), by decide, by decide +kernel⟩
theorem mw_X6_readNot : MW yX6_readNot cX6_readNot 4 (some .boolean) 1 := ⟨cw_1000, (im_2 (i := 8) rfl), by decide, by decide +kernel⟩
theorem mw_X6_readPart : MW yX6_readPart cX6_readPart 3 (some .boolean) 1 := ⟨cw_1019, (im_2 (i := 8) rfl), by decide, by decide +kernel⟩
theorem mw_X6_readProduct : MW yX6_readProduct cX6_readProduct 4 (some .boolean) 1 := ⟨cw_1015, (im_2 (i := 8) rfl), by decide, by decide +kernel⟩
theorem mw_X6_readSum : MW yX6_readSum cX6_readSum 4 (some .boolean) 1 := ⟨cw_1011, (im_2 (i := 8) rfl), by decide, by decide +kernel⟩
theorem mw_X6_readTest : MW yX6_readTest cX6_readTest 3 (some .boolean) 1 := ⟨cw_1007, (im_2 (i := 8) rfl), by decide, by decide +kernel⟩
theorem mw_X6_valueHere : MW yX6_valueHere cX6_valueHere 1 (some .int) 0 := ⟨cw_1028, (im_2 (i := 8) rfl), by decide, by decide +kernel⟩
theorem mw_X7_init : MW yX7_init cX7_init 2 none 1 := ⟨cw_446, (im_2 (i := 11) rfl), by decide, by decide +kernel⟩
theorem mw_X7_fill : MW yX7_fill cX7_fill 5 none 3 := ⟨cw_1276, (im_2 (i := 11) rfl), by decide, by decide +kernel⟩
theorem mw_X7_find : MW yX7_find cX7_find 3 (some .boolean) 1 := ⟨cw_1271, (im_2 (i := 11) rfl), by decide, by decide +kernel⟩
theorem mw_X7_girlFor : MW yX7_girlFor cX7_girlFor 3 (some .int) 1 := ⟨cw_1288, (im_2 (i := 11) rfl), by decide, by decide +kernel⟩
theorem mw_X8_init : MW yX8_init cX8_init 2 none 1 := ⟨cw_261, (im_2 (i := 6) rfl), by decide, by decide +kernel⟩
theorem mw_X8_addBlue : MW yX8_addBlue cX8_addBlue 3 none 2 := ⟨cw_624, (im_2 (i := 6) rfl), by decide, by decide +kernel⟩
theorem mw_X8_addKnobs : MW yX8_addKnobs cX8_addKnobs 2 none 1 := ⟨cw_664, (im_2 (i := 6) rfl), by decide, by decide +kernel⟩
theorem mw_X8_allBlue : MW yX8_allBlue cX8_allBlue 3 (some .int) 0 := ⟨cw_1082, (im_2 (i := 6) rfl), by decide, by decide +kernel⟩
theorem mw_X8_begin : MW yX8_begin cX8_begin 2 none 0 := ⟨cw_266, (im_2 (i := 6) rfl), by decide, by decide +kernel⟩
theorem mw_X8_besideWithin : MW yX8_besideWithin cX8_besideWithin 7 (some .int) 2 := ⟨cw_1126, (im_2 (i := 6) rfl), by decide, by decide +kernel⟩
theorem mw_X8_blueOf : MW yX8_blueOf cX8_blueOf 2 (some .int) 1 := ⟨cw_603, (im_2 (i := 6) rfl), by decide, by decide +kernel⟩
theorem mw_X8_copyFrom : MW yX8_copyFrom cX8_copyFrom 2 none 1 := ⟨cw_688, (im_2 (i := 6) rfl), by decide, by decide +kernel⟩
theorem mw_X8_deepest : MW yX8_deepest cX8_deepest 3 (some .int) 0 := ⟨cw_708, (im_2 (i := 6) rfl), by decide, by decide +kernel⟩
theorem mw_X8_drip : MW yX8_drip cX8_drip 5 none 2 := ⟨cw_636, (im_2 (i := 6) rfl), by decide, by decide +kernel⟩
theorem mw_X8_dyeOf : MW yX8_dyeOf cX8_dyeOf 3 (some .int) 2 := ⟨cw_579, (im_2 (i := 6) rfl), by decide, by decide +kernel⟩
theorem mw_X8_fade : MW yX8_fade cX8_fade 2 none 0 := ⟨cw_652, (im_2 (i := 6) rfl), by decide, by decide +kernel⟩
theorem mw_X8_fadeOf : MW yX8_fadeOf cX8_fadeOf 2 (some .int) 1 := ⟨cw_656, (im_2 (i := 6) rfl), by decide, by decide +kernel⟩
theorem mw_X8_girlsAt : MW yX8_girlsAt cX8_girlsAt 4 (some .int) 1 := ⟨cw_1118, (im_2 (i := 6) rfl), by decide, by decide +kernel⟩
theorem mw_X8_isAsInTheMorning : MW yX8_isAsInTheMorning cX8_isAsInTheMorning 2 (some .boolean) 0 := ⟨cw_696, (im_2 (i := 6) rfl), by decide, by decide +kernel⟩
theorem mw_X8_isPegged : MW yX8_isPegged cX8_isPegged 2 (some .boolean) 1 := ⟨cw_628, (im_2 (i := 6) rfl), by decide, by decide +kernel⟩
theorem mw_X8_isResting : MW yX8_isResting cX8_isResting 2 (some .boolean) 1 := ⟨cw_571, (im_2 (i := 6) rfl), by decide, by decide +kernel⟩
theorem mw_X8_load : MW yX8_load cX8_load 4 none 2 := ⟨cw_676, (im_2 (i := 6) rfl), by decide, by decide +kernel⟩
theorem mw_X8_markOverdone : MW yX8_markOverdone cX8_markOverdone 2 none 0 := ⟨cw_642, (im_2 (i := 6) rfl), by decide, by decide +kernel⟩
theorem mw_X8_palest : MW yX8_palest cX8_palest 3 (some .int) 0 := ⟨cw_712, (im_2 (i := 6) rfl), by decide, by decide +kernel⟩
theorem mw_X8_passDay : MW yX8_passDay cX8_passDay 2 none 0 := ⟨cw_567, (im_2 (i := 6) rfl), by decide, by decide +kernel⟩
theorem mw_X8_patchBits : MW yX8_patchBits cX8_patchBits 6 (some .int) 2 := ⟨cw_1122, (im_2 (i := 6) rfl), by decide, by decide +kernel⟩
theorem mw_X8_rowBlue : MW yX8_rowBlue cX8_rowBlue 4 (some .int) 1 := ⟨cw_1299, (im_2 (i := 6) rfl), by decide, by decide +kernel⟩
theorem mw_X8_runFrom : MW yX8_runFrom cX8_runFrom 4 (some .int) 1 := ⟨cw_1218, (im_2 (i := 6) rfl), by decide, by decide +kernel⟩
theorem mw_X8_save : MW yX8_save cX8_save 4 none 2 := ⟨cw_562, (im_2 (i := 6) rfl), by decide, by decide +kernel⟩
theorem mw_X8_setPeg : MW yX8_setPeg cX8_setPeg 3 none 2 := ⟨cw_962, (im_2 (i := 6) rfl), by decide, by decide +kernel⟩
theorem mw_X8_setResting : MW yX8_setResting cX8_setResting 3 none 2 := ⟨cw_721, (im_2 (i := 6) rfl), by decide, by decide +kernel⟩
theorem mw_X8_setSkill : MW yX8_setSkill cX8_setSkill 3 none 2 := ⟨cw_948, (im_2 (i := 6) rfl), by decide, by decide +kernel⟩
theorem mw_X8_setSpot : MW yX8_setSpot cX8_setSpot 3 none 2 := ⟨cw_952, (im_2 (i := 6) rfl), by decide, by decide +kernel⟩
theorem mw_X8_setValues : MW yX8_setValues cX8_setValues 5 none 1 := ⟨cw_595, (im_2 (i := 6) rfl), by decide, by decide +kernel⟩
theorem mw_X8_skillOf : MW yX8_skillOf cX8_skillOf 2 (some .int) 1 := ⟨cw_587, (im_2 (i := 6) rfl), by decide, by decide +kernel⟩
theorem mw_X8_spotOf : MW yX8_spotOf cX8_spotOf 2 (some .int) 1 := ⟨cw_591, (im_2 (i := 6) rfl), by decide, by decide +kernel⟩
theorem mw_X8_swish : MW yX8_swish cX8_swish 7 none 2 := ⟨cw_575, (im_2 (i := 6) rfl), by decide, by decide +kernel⟩
theorem mw_X8_uneven : MW yX8_uneven cX8_uneven 2 (some .int) 0 := ⟨cw_704, (im_2 (i := 6) rfl), by decide, by decide +kernel⟩
theorem mw_X8_wayBetween : MW yX8_wayBetween cX8_wayBetween 7 (some .int) 2 := ⟨cw_1243, (im_2 (i := 6) rfl), by decide, by decide +kernel⟩
theorem mw_X9_init : MW yX9_init cX9_init 1 none 0 := ⟨cw_146, (im_2 (i := 2) rfl), by decide, by decide +kernel⟩
theorem mw_X9_byteAt : MW yX9_byteAt cX9_byteAt 2 (some .int) 1 := ⟨cw_831, (im_2 (i := 2) rfl), by decide, by decide +kernel⟩
theorem mw_X9_clear : MW yX9_clear cX9_clear 1 none 0 := ⟨cw_1048, (im_2 (i := 2) rfl), by decide, by decide +kernel⟩
theorem mw_X9_hasRoomFor : MW yX9_hasRoomFor cX9_hasRoomFor 2 (some .boolean) 1 := ⟨cw_527, (im_2 (i := 2) rfl), by decide, by decide +kernel⟩
theorem mw_X9_put : MW yX9_put cX9_put 3 none 1 := ⟨cw_531, (im_2 (i := 2) rfl), by decide, by decide +kernel⟩
theorem mw_X10_init : MW yX10_init cX10_init 2 none 1 := ⟨cw_320, (im_2 (i := 7) rfl), by decide, by decide +kernel⟩
theorem mw_X10_advance : MW yX10_advance cX10_advance 1 none 0 := ⟨cw_827, (im_2 (i := 7) rfl), by decide, by decide +kernel⟩
theorem mw_X10_begin : MW yX10_begin cX10_begin 2 none 1 := ⟨cw_823, (im_2 (i := 7) rfl), by decide, by decide +kernel⟩
theorem mw_X10_isBlank : MW yX10_isBlank cX10_isBlank 1 (some .boolean) 1 := ⟨cw_834, (im_2 (i := 7) rfl), by decide, by decide +kernel⟩
theorem mw_X10_isDigit : MW yX10_isDigit cX10_isDigit 1 (some .boolean) 1 := ⟨cw_840, (im_2 (i := 7) rfl), by decide, by decide +kernel⟩
theorem mw_X10_isLetter : MW yX10_isLetter cX10_isLetter 1 (some .boolean) 1 := ⟨cw_837, (im_2 (i := 7) rfl), by decide, by decide +kernel⟩
theorem mw_X10_isTooLong : MW yX10_isTooLong cX10_isTooLong 1 (some .boolean) 0 := ⟨cw_922, (im_2 (i := 7) rfl), by decide, by decide +kernel⟩
theorem mw_X10_isWord : MW yX10_isWord cX10_isWord 3 (some .boolean) 1 := ⟨cw_849, (im_2 (i := 7) rfl), by decide, by decide +kernel⟩
theorem mw_X10_passes : MW yX10_passes cX10_passes 2 (some .boolean) 1 := ⟨cw_927, (im_2 (i := 7) rfl), by decide, by decide +kernel⟩
theorem mw_X10_refuse : MW yX10_refuse cX10_refuse 2 (some .boolean) 1 := ⟨cw_905, (im_2 (i := 7) rfl), by decide, by decide +kernel⟩
theorem mw_X12_init : MW yX12_init cX12_init 1 none 0 := ⟨cw_1416, (im_2 (i := 13) rfl), by decide, by decide +kernel⟩
theorem mw_X12_aDay : MW yX12_aDay cX12_aDay 2 none 0 := ⟨cw_1870, (im_2 (i := 13) rfl), by decide, by decide +kernel⟩
theorem mw_X12_allBlue : MW yX12_allBlue cX12_allBlue 3 (some .int) 0 := ⟨cw_1781, (im_2 (i := 13) rfl), by decide, by decide +kernel⟩
theorem mw_X12_ask : MW yX12_ask cX12_ask 2 none 1 := ⟨cw_1834, (im_2 (i := 13) rfl), by decide, by decide +kernel⟩
theorem mw_X12_bag : MW yX12_bag cX12_bag 2 (some .int) 1 := ⟨cw_1901, (im_2 (i := 13) rfl), by decide, by decide +kernel⟩
theorem mw_X12_band : MW yX12_band cX12_band 7 (some .int) 1 := ⟨cw_1948, (im_2 (i := 13) rfl), by decide, by decide +kernel⟩
theorem mw_X12_begin : MW yX12_begin cX12_begin 3 none 1 := ⟨cw_1431, (im_2 (i := 13) rfl), by decide, by decide +kernel⟩
theorem mw_X12_besideOf : MW yX12_besideOf cX12_besideOf 4 (some .int) 1 := ⟨cw_1796, (im_2 (i := 13) rfl), by decide, by decide +kernel⟩
theorem mw_X12_bitsOf : MW yX12_bitsOf cX12_bitsOf 3 (some .int) 1 := ⟨cw_1881, (im_2 (i := 13) rfl), by decide, by decide +kernel⟩
theorem mw_X12_blueBeside : MW yX12_blueBeside cX12_blueBeside 5 (some .int) 1 := ⟨cw_1838, (im_2 (i := 13) rfl), by decide, by decide +kernel⟩
theorem mw_X12_byteAt : MW yX12_byteAt cX12_byteAt 2 (some .int) 1 := ⟨cw_1644, (im_2 (i := 13) rfl), by decide, by decide +kernel⟩
theorem mw_X12_cell : MW yX12_cell cX12_cell 3 (some .int) 2 := ⟨cw_1785, (im_2 (i := 13) rfl), by decide, by decide +kernel⟩
theorem mw_X12_cellNow : MW yX12_cellNow cX12_cellNow 3 (some .int) 1 := ⟨cw_1746, (im_2 (i := 13) rfl), by decide, by decide +kernel⟩
theorem mw_X12_cells : MW yX12_cells cX12_cells 1 (some .int) 0 := ⟨cw_1777, (im_2 (i := 13) rfl), by decide, by decide +kernel⟩
theorem mw_X12_coast : MW yX12_coast cX12_coast 3 (some .int) 1 := ⟨cw_1632, (im_2 (i := 13) rfl), by decide, by decide +kernel⟩
theorem mw_X12_columnOf : MW yX12_columnOf cX12_columnOf 2 (some .int) 1 := ⟨cw_1804, (im_2 (i := 13) rfl), by decide, by decide +kernel⟩
theorem mw_X12_copyTo : MW yX12_copyTo cX12_copyTo 3 none 2 := ⟨cw_1955, (im_2 (i := 13) rfl), by decide, by decide +kernel⟩
theorem mw_X12_count : MW yX12_count cX12_count 2 (some .int) 1 := ⟨cw_1773, (im_2 (i := 13) rfl), by decide, by decide +kernel⟩
theorem mw_X12_days : MW yX12_days cX12_days 2 (some .int) 1 := ⟨cw_1849, (im_2 (i := 13) rfl), by decide, by decide +kernel⟩
theorem mw_X12_drawOf : MW yX12_drawOf cX12_drawOf 2 (some .int) 1 := ⟨cw_2065, (im_2 (i := 13) rfl), by decide, by decide +kernel⟩
theorem mw_X12_dye : MW yX12_dye cX12_dye 3 none 2 := ⟨cw_1878, (im_2 (i := 13) rfl), by decide, by decide +kernel⟩
theorem mw_X12_dyesOf : MW yX12_dyesOf cX12_dyesOf 4 (some .int) 2 := ⟨cw_1830, (im_2 (i := 13) rfl), by decide, by decide +kernel⟩
theorem mw_X12_extreme : MW yX12_extreme cX12_extreme 4 (some .int) 1 := ⟨cw_1932, (im_2 (i := 13) rfl), by decide, by decide +kernel⟩
theorem mw_X12_fadesOf : MW yX12_fadesOf cX12_fadesOf 3 (some .int) 1 := ⟨cw_1885, (im_2 (i := 13) rfl), by decide, by decide +kernel⟩
theorem mw_X12_fail : MW yX12_fail cX12_fail 2 (some .int) 1 := ⟨cw_1636, (im_2 (i := 13) rfl), by decide, by decide +kernel⟩
theorem mw_X12_failing : MW yX12_failing cX12_failing 2 (some .boolean) 1 := ⟨cw_1893, (im_2 (i := 13) rfl), by decide, by decide +kernel⟩
theorem mw_X12_farOf : MW yX12_farOf cX12_farOf 3 (some .int) 2 := ⟨cw_1800, (im_2 (i := 13) rfl), by decide, by decide +kernel⟩
theorem mw_X12_fault : MW yX12_fault cX12_fault 1 (some .int) 0 := ⟨cw_1769, (im_2 (i := 13) rfl), by decide, by decide +kernel⟩
theorem mw_X12_feed : MW yX12_feed cX12_feed 8 (some .int) 5 := ⟨cw_1628, (im_2 (i := 13) rfl), by decide, by decide +kernel⟩
theorem mw_X12_first : MW yX12_first cX12_first 4 (some .int) 1 := ⟨cw_1940, (im_2 (i := 13) rfl), by decide, by decide +kernel⟩
theorem mw_X12_forget : MW yX12_forget cX12_forget 1 none 0 := ⟨cw_2045, (im_2 (i := 13) rfl), by decide, by decide +kernel⟩
theorem mw_X12_game : MW yX12_game cX12_game 7 (some .int) 3 := ⟨cw_2049, (im_2 (i := 13) rfl), by decide, by decide +kernel⟩
theorem mw_X12_girl : MW yX12_girl cX12_girl 3 (some .int) 2 := ⟨cw_1821, (im_2 (i := 13) rfl), by decide, by decide +kernel⟩
theorem mw_X12_girlsAt : MW yX12_girlsAt cX12_girlsAt 4 (some .int) 1 := ⟨cw_1813, (im_2 (i := 13) rfl), by decide, by decide +kernel⟩
theorem mw_X12_go : MW yX12_go cX12_go 4 (some .int) 2 := ⟨cw_1897, (im_2 (i := 13) rfl), by decide, by decide +kernel⟩
theorem mw_X12_goOn : MW yX12_goOn cX12_goOn 3 none 1 := ⟨cw_1866, (im_2 (i := 13) rfl), by decide, by decide +kernel⟩
theorem mw_X12_image : MW yX12_image cX12_image 1 none 0 := ⟨cw_2070, (im_2 (i := 13) rfl), by decide, by decide +kernel⟩
theorem mw_X12_is : MW yX12_is cX12_is 4 (some .boolean) 1 := ⟨cw_1667, (im_2 (i := 13) rfl), by decide, by decide +kernel⟩
theorem mw_X12_isAsSeen : MW yX12_isAsSeen cX12_isAsSeen 5 (some .boolean) 0 := ⟨cw_2029, (im_2 (i := 13) rfl), by decide, by decide +kernel⟩
theorem mw_X12_isCell : MW yX12_isCell cX12_isCell 2 (some .boolean) 1 := ⟨cw_1789, (im_2 (i := 13) rfl), by decide, by decide +kernel⟩
theorem mw_X12_isDigit : MW yX12_isDigit cX12_isDigit 1 (some .boolean) 1 := ⟨cw_1650, (im_2 (i := 13) rfl), by decide, by decide +kernel⟩
theorem mw_X12_isGirl : MW yX12_isGirl cX12_isGirl 2 (some .boolean) 1 := ⟨cw_1825, (im_2 (i := 13) rfl), by decide, by decide +kernel⟩
theorem mw_X12_isIn : MW yX12_isIn cX12_isIn 6 (some .boolean) 3 := ⟨cw_1792, (im_2 (i := 13) rfl), by decide, by decide +kernel⟩
theorem mw_X12_isLetter : MW yX12_isLetter cX12_isLetter 1 (some .boolean) 1 := ⟨cw_1647, (im_2 (i := 13) rfl), by decide, by decide +kernel⟩
theorem mw_X12_isMark : MW yX12_isMark cX12_isMark 1 (some .boolean) 1 := ⟨cw_1655, (im_2 (i := 13) rfl), by decide, by decide +kernel⟩
theorem mw_X12_isMarked : MW yX12_isMarked cX12_isMarked 2 (some .boolean) 1 := ⟨cw_1707, (im_2 (i := 13) rfl), by decide, by decide +kernel⟩
theorem mw_X12_isOf : MW yX12_isOf cX12_isOf 2 (some .boolean) 2 := ⟨cw_1749, (im_2 (i := 13) rfl), by decide, by decide +kernel⟩
theorem mw_X12_keep : MW yX12_keep cX12_keep 2 none 0 := ⟨cw_1858, (im_2 (i := 13) rfl), by decide, by decide +kernel⟩
theorem mw_X12_lay : MW yX12_lay cX12_lay 4 none 1 := ⟨cw_1732, (im_2 (i := 13) rfl), by decide, by decide +kernel⟩
theorem mw_X12_look : MW yX12_look cX12_look 6 (some .int) 1 := ⟨cw_2037, (im_2 (i := 13) rfl), by decide, by decide +kernel⟩
theorem mw_X12_mark : MW yX12_mark cX12_mark 2 none 1 := ⟨cw_1736, (im_2 (i := 13) rfl), by decide, by decide +kernel⟩
theorem mw_X12_missed : MW yX12_missed cX12_missed 4 (some .int) 1 := ⟨cw_1996, (im_2 (i := 13) rfl), by decide, by decide +kernel⟩
theorem mw_X12_nearest : MW yX12_nearest cX12_nearest 4 (some .int) 1 := ⟨cw_2004, (im_2 (i := 13) rfl), by decide, by decide +kernel⟩
theorem mw_X12_numberNow : MW yX12_numberNow cX12_numberNow 3 (some .int) 2 := ⟨cw_1695, (im_2 (i := 13) rfl), by decide, by decide +kernel⟩
theorem mw_X12_overdone : MW yX12_overdone cX12_overdone 2 (some .int) 1 := ⟨cw_1936, (im_2 (i := 13) rfl), by decide, by decide +kernel⟩
theorem mw_X12_pack : MW yX12_pack cX12_pack 4 none 2 := ⟨cw_1862, (im_2 (i := 13) rfl), by decide, by decide +kernel⟩
theorem mw_X12_patch : MW yX12_patch cX12_patch 3 (some .int) 2 := ⟨cw_1967, (im_2 (i := 13) rfl), by decide, by decide +kernel⟩
theorem mw_X12_patchOf : MW yX12_patchOf cX12_patchOf 8 (some .int) 2 := ⟨cw_1817, (im_2 (i := 13) rfl), by decide, by decide +kernel⟩
theorem mw_X12_patches : MW yX12_patches cX12_patches 5 (some .int) 1 := ⟨cw_1972, (im_2 (i := 13) rfl), by decide, by decide +kernel⟩
theorem mw_X12_peg : MW yX12_peg cX12_peg 4 (some .int) 2 := ⟨cw_1906, (im_2 (i := 13) rfl), by decide, by decide +kernel⟩
theorem mw_X12_readAnd : MW yX12_readAnd cX12_readAnd 2 none 1 := ⟨cw_1711, (im_2 (i := 13) rfl), by decide, by decide +kernel⟩
theorem mw_X12_readExpression : MW yX12_readExpression cX12_readExpression 3 none 1 := ⟨cw_1703, (im_2 (i := 13) rfl), by decide, by decide +kernel⟩
theorem mw_X12_readLine : MW yX12_readLine cX12_readLine 4 (some .int) 1 := ⟨cw_1659, (im_2 (i := 13) rfl), by decide, by decide +kernel⟩
theorem mw_X12_readNot : MW yX12_readNot cX12_readNot 4 none 1 := ⟨cw_1715, (im_2 (i := 13) rfl), by decide, by decide +kernel⟩
theorem mw_X12_readNumber : MW yX12_readNumber cX12_readNumber 4 (some .int) 2 := ⟨cw_1691, (im_2 (i := 13) rfl), by decide, by decide +kernel⟩
theorem mw_X12_readPart : MW yX12_readPart cX12_readPart 3 none 1 := ⟨cw_1728, (im_2 (i := 13) rfl), by decide, by decide +kernel⟩
theorem mw_X12_readProduct : MW yX12_readProduct cX12_readProduct 3 none 1 := ⟨cw_1724, (im_2 (i := 13) rfl), by decide, by decide +kernel⟩
theorem mw_X12_readSum : MW yX12_readSum cX12_readSum 3 none 1 := ⟨cw_1720, (im_2 (i := 13) rfl), by decide, by decide +kernel⟩
theorem mw_X12_reckon : MW yX12_reckon cX12_reckon 3 (some .int) 3 := ⟨cw_1845, (im_2 (i := 13) rfl), by decide, by decide +kernel⟩
theorem mw_X12_refuse : MW yX12_refuse cX12_refuse 2 (some .int) 1 := ⟨cw_1854, (im_2 (i := 13) rfl), by decide, by decide +kernel⟩
theorem mw_X12_rest : MW yX12_rest cX12_rest 3 (some .boolean) 2 := ⟨cw_1889, (im_2 (i := 13) rfl), by decide, by decide +kernel⟩
theorem mw_X12_restore : MW yX12_restore cX12_restore 1 (some .boolean) 0 := ⟨cw_2074, (im_2 (i := 13) rfl), by decide, by decide +kernel⟩
theorem mw_X12_rowOf : MW yX12_rowOf cX12_rowOf 2 (some .int) 1 := ⟨cw_1809, (im_2 (i := 13) rfl), by decide, by decide +kernel⟩
theorem mw_X12_sayBlue : MW yX12_sayBlue cX12_sayBlue 2 none 0 := ⟨cw_1753, (im_2 (i := 13) rfl), by decide, by decide +kernel⟩
theorem mw_X12_sayOnce : MW yX12_sayOnce cX12_sayOnce 2 none 1 := ⟨cw_1683, (im_2 (i := 13) rfl), by decide, by decide +kernel⟩
theorem mw_X12_sayPegs : MW yX12_sayPegs cX12_sayPegs 2 none 0 := ⟨cw_1758, (im_2 (i := 13) rfl), by decide, by decide +kernel⟩
theorem mw_X12_sayRule : MW yX12_sayRule cX12_sayRule 2 none 1 := ⟨cw_1699, (im_2 (i := 13) rfl), by decide, by decide +kernel⟩
theorem mw_X12_saySky : MW yX12_saySky cX12_saySky 1 none 0 := ⟨cw_1687, (im_2 (i := 13) rfl), by decide, by decide +kernel⟩
theorem mw_X12_sayWoman : MW yX12_sayWoman cX12_sayWoman 3 none 1 := ⟨cw_1742, (im_2 (i := 13) rfl), by decide, by decide +kernel⟩
theorem mw_X12_see : MW yX12_see cX12_see 4 (some .int) 3 := ⟨cw_2020, (im_2 (i := 13) rfl), by decide, by decide +kernel⟩
theorem mw_X12_sent : MW yX12_sent cX12_sent 8 (some .int) 2 := ⟨cw_2008, (im_2 (i := 13) rfl), by decide, by decide +kernel⟩
theorem mw_X12_skies : MW yX12_skies cX12_skies 6 (some .int) 3 := ⟨cw_2057, (im_2 (i := 13) rfl), by decide, by decide +kernel⟩
theorem mw_X12_skilled : MW yX12_skilled cX12_skilled 2 (some .int) 1 := ⟨cw_2024, (im_2 (i := 13) rfl), by decide, by decide +kernel⟩
theorem mw_X12_sky : MW yX12_sky cX12_sky 4 (some .int) 2 := ⟨cw_1923, (im_2 (i := 13) rfl), by decide, by decide +kernel⟩
theorem mw_X12_something : MW yX12_something cX12_something 3 none 0 := ⟨cw_2061, (im_2 (i := 13) rfl), by decide, by decide +kernel⟩
theorem mw_X12_spent : MW yX12_spent cX12_spent 3 (some .int) 0 := ⟨cw_1944, (im_2 (i := 13) rfl), by decide, by decide +kernel⟩
theorem mw_X12_steady : MW yX12_steady cX12_steady 5 (some .int) 0 := ⟨cw_1952, (im_2 (i := 13) rfl), by decide, by decide +kernel⟩
theorem mw_X12_stepOn : MW yX12_stepOn cX12_stepOn 2 none 0 := ⟨cw_1640, (im_2 (i := 13) rfl), by decide, by decide +kernel⟩
theorem mw_X12_steps : MW yX12_steps cX12_steps 3 (some .int) 2 := ⟨cw_2000, (im_2 (i := 13) rfl), by decide, by decide +kernel⟩
theorem mw_X12_streak : MW yX12_streak cX12_streak 4 (some .int) 1 := ⟨cw_1959, (im_2 (i := 13) rfl), by decide, by decide +kernel⟩
theorem mw_X12_streakFrom : MW yX12_streakFrom cX12_streakFrom 3 (some .int) 1 := ⟨cw_1963, (im_2 (i := 13) rfl), by decide, by decide +kernel⟩
theorem mw_X12_swish : MW yX12_swish cX12_swish 7 none 2 := ⟨cw_1874, (im_2 (i := 13) rfl), by decide, by decide +kernel⟩
theorem mw_X12_takeHalf : MW yX12_takeHalf cX12_takeHalf 2 none 1 := ⟨cw_1765, (im_2 (i := 13) rfl), by decide, by decide +kernel⟩
theorem mw_X12_takeOver : MW yX12_takeOver cX12_takeOver 3 none 0 := ⟨cw_1762, (im_2 (i := 13) rfl), by decide, by decide +kernel⟩
theorem mw_X12_tellFits : MW yX12_tellFits cX12_tellFits 4 none 0 := ⟨cw_2033, (im_2 (i := 13) rfl), by decide, by decide +kernel⟩
theorem mw_X12_tellGains : MW yX12_tellGains cX12_tellGains 4 none 2 := ⟨cw_2053, (im_2 (i := 13) rfl), by decide, by decide +kernel⟩
theorem mw_X12_tellLeast : MW yX12_tellLeast cX12_tellLeast 7 none 1 := ⟨cw_2012, (im_2 (i := 13) rfl), by decide, by decide +kernel⟩
theorem mw_X12_then : MW yX12_then cX12_then 4 (some .int) 2 := ⟨cw_1918, (im_2 (i := 13) rfl), by decide, by decide +kernel⟩
theorem mw_X12_toRest : MW yX12_toRest cX12_toRest 6 (some .int) 0 := ⟨cw_1980, (im_2 (i := 13) rfl), by decide, by decide +kernel⟩
theorem mw_X12_toStand : MW yX12_toStand cX12_toStand 8 (some .int) 2 := ⟨cw_1988, (im_2 (i := 13) rfl), by decide, by decide +kernel⟩
theorem mw_X12_toSwish : MW yX12_toSwish cX12_toSwish 4 (some .int) 2 := ⟨cw_1992, (im_2 (i := 13) rfl), by decide, by decide +kernel⟩
theorem mw_X12_undo : MW yX12_undo cX12_undo 1 (some .int) 0 := ⟨cw_1910, (im_2 (i := 13) rfl), by decide, by decide +kernel⟩
theorem mw_X12_uneven : MW yX12_uneven cX12_uneven 1 (some .int) 0 := ⟨cw_1928, (im_2 (i := 13) rfl), by decide, by decide +kernel⟩
theorem mw_X12_unevenNext : MW yX12_unevenNext cX12_unevenNext 2 (some .int) 0 := ⟨cw_1984, (im_2 (i := 13) rfl), by decide, by decide +kernel⟩
theorem mw_X12_unlike : MW yX12_unlike cX12_unlike 6 (some .int) 1 := ⟨cw_2041, (im_2 (i := 13) rfl), by decide, by decide +kernel⟩
theorem mw_X12_unpack : MW yX12_unpack cX12_unpack 4 none 2 := ⟨cw_1914, (im_2 (i := 13) rfl), by decide, by decide +kernel⟩
theorem mw_X12_valueNow : MW yX12_valueNow cX12_valueNow 6 (some .int) 2 := ⟨cw_1842, (im_2 (i := 13) rfl), by decide, by decide +kernel⟩
theorem mw_X12_way : MW yX12_way cX12_way 7 (some .int) 2 := ⟨cw_1976, (im_2 (i := 13) rfl), by decide, by decide +kernel⟩
theorem mw_X12_which : MW yX12_which cX12_which 3 (some .int) 1 := ⟨cw_1663, (im_2 (i := 13) rfl), by decide, by decide +kernel⟩
theorem mw_X12_with : MW yX12_with cX12_with 4 (some .int) 3 := ⟨cw_2016, (im_2 (i := 13) rfl), by decide, by decide +kernel⟩
theorem mw_X12_wrong : MW yX12_wrong cX12_wrong 2 none 1 := ⟨cw_1679, (im_2 (i := 13) rfl), by decide, by decide +kernel⟩
theorem mw_J6_bitCount_0f7a4 : MW yJ6_bitCount_0f7a4 cJ6_bitCount_0f7a4 1 (some .int) 1 := ⟨cw_645, (im_2 (i := 24) rfl), by decide, by decide +kernel⟩
theorem mw_J13_bitCount_95d88 : MW yJ13_bitCount_95d88 cJ13_bitCount_95d88 2 (some .int) 1 := ⟨cw_1376, (im_2 (i := 25) rfl), by decide, by decide +kernel⟩
theorem mv_X11_bag : MV 11 yX11_bag := ⟨(im_9 (i := 48) rfl), (im_9 (i := 49) rfl), rfl⟩
theorem mv_X11_band : MV 11 yX11_band := ⟨(im_18 (i := 47) rfl), (im_18 (i := 48) rfl), rfl⟩
theorem mv_X11_cell : MV 11 yX11_cell := ⟨(im_16 (i := 32) rfl), (im_16 (i := 33) rfl), rfl⟩
theorem mv_X11_clearBlues : MV 11 yX11_clearBlues := ⟨(im_19 (i := 41) rfl), (im_0 (i := 37) rfl), rfl⟩
theorem mv_X11_coast : MV 11 yX11_coast := ⟨(im_10 (i := 55) rfl), (im_10 (i := 56) rfl), rfl⟩
theorem mv_X11_count : MV 11 yX11_count := ⟨(im_16 (i := 6) rfl), (im_16 (i := 7) rfl), rfl⟩
theorem mv_X11_days : MV 11 yX11_days := ⟨(im_8 (i := 11) rfl), (im_8 (i := 12) rfl), rfl⟩
theorem mv_X11_drawAhead : MV 11 yX11_drawAhead := ⟨(im_20 (i := 6) rfl), (im_0 (i := 42) rfl), rfl⟩
theorem mv_X11_fault : MV 11 yX11_fault := ⟨(im_8 (i := 8) rfl), (im_8 (i := 9) rfl), rfl⟩
theorem mv_X11_feed : MV 11 yX11_feed := ⟨(im_7 (i := 59) rfl), (im_8 (i := 0) rfl), rfl⟩
theorem mv_X11_first : MV 11 yX11_first := ⟨(im_17 (i := 42) rfl), (im_17 (i := 43) rfl), rfl⟩
theorem mv_X11_forget : MV 11 yX11_forget := ⟨(im_10 (i := 35) rfl), (im_10 (i := 36) rfl), rfl⟩
theorem mv_X11_gainAt : MV 11 yX11_gainAt := ⟨(im_19 (i := 59) rfl), (im_0 (i := 41) rfl), rfl⟩
theorem mv_X11_game : MV 11 yX11_game := ⟨(im_19 (i := 54) rfl), (im_19 (i := 55) rfl), rfl⟩
theorem mv_X11_gatherBlues : MV 11 yX11_gatherBlues := ⟨(im_19 (i := 43) rfl), (im_0 (i := 38) rfl), rfl⟩
theorem mv_X11_girl : MV 11 yX11_girl := ⟨(im_16 (i := 51) rfl), (im_16 (i := 52) rfl), rfl⟩
theorem mv_X11_go : MV 11 yX11_go := ⟨(im_17 (i := 8) rfl), (im_17 (i := 9) rfl), rfl⟩
theorem mv_X11_image : MV 11 yX11_image := ⟨(im_10 (i := 38) rfl), (im_10 (i := 39) rfl), rfl⟩
theorem mv_X11_look : MV 11 yX11_look := ⟨(im_19 (i := 38) rfl), (im_19 (i := 39) rfl), rfl⟩
theorem mv_X11_lookAhead : MV 11 yX11_lookAhead := ⟨(im_10 (i := 6) rfl), (im_0 (i := 7) rfl), rfl⟩
theorem mv_X11_lookAheadIfResting : MV 11 yX11_lookAheadIfResting := ⟨(im_10 (i := 30) rfl), (im_0 (i := 8) rfl), rfl⟩
theorem mv_X11_missed : MV 11 yX11_missed := ⟨(im_19 (i := 9) rfl), (im_19 (i := 10) rfl), rfl⟩
theorem mv_X11_nearest : MV 11 yX11_nearest := ⟨(im_19 (i := 4) rfl), (im_19 (i := 5) rfl), rfl⟩
theorem mv_X11_needCell : MV 11 yX11_needCell := ⟨(im_16 (i := 35) rfl), (im_0 (i := 30) rfl), rfl⟩
theorem mv_X11_needGirl : MV 11 yX11_needGirl := ⟨(im_16 (i := 54) rfl), (im_0 (i := 32) rfl), rfl⟩
theorem mv_X11_needWhat : MV 11 yX11_needWhat := ⟨(im_17 (i := 31) rfl), (im_0 (i := 34) rfl), rfl⟩
theorem mv_X11_needWithin : MV 11 yX11_needWithin := ⟨(im_17 (i := 24) rfl), (im_0 (i := 33) rfl), rfl⟩
theorem mv_X11_overdone : MV 11 yX11_overdone := ⟨(im_17 (i := 37) rfl), (im_17 (i := 38) rfl), rfl⟩
theorem mv_X11_patch : MV 11 yX11_patch := ⟨(im_17 (i := 55) rfl), (im_17 (i := 56) rfl), rfl⟩
theorem mv_X11_patches : MV 11 yX11_patches := ⟨(im_18 (i := 0) rfl), (im_18 (i := 1) rfl), rfl⟩
theorem mv_X11_peg : MV 11 yX11_peg := ⟨(im_17 (i := 14) rfl), (im_17 (i := 15) rfl), rfl⟩
theorem mv_X11_playAll : MV 11 yX11_playAll := ⟨(im_19 (i := 57) rfl), (im_0 (i := 40) rfl), rfl⟩
theorem mv_X11_refuseAct : MV 11 yX11_refuseAct := ⟨(im_8 (i := 14) rfl), (im_0 (i := 1) rfl), rfl⟩
theorem mv_X11_rest : MV 11 yX11_rest := ⟨(im_17 (i := 3) rfl), (im_17 (i := 4) rfl), rfl⟩
theorem mv_X11_restore : MV 11 yX11_restore := ⟨(im_10 (i := 49) rfl), (im_10 (i := 50) rfl), rfl⟩
theorem mv_X11_see : MV 11 yX11_see := ⟨(im_19 (i := 14) rfl), (im_19 (i := 15) rfl), rfl⟩
theorem mv_X11_sent : MV 11 yX11_sent := ⟨(im_18 (i := 25) rfl), (im_18 (i := 26) rfl), rfl⟩
theorem mv_X11_skies : MV 11 yX11_skies := ⟨(im_20 (i := 3) rfl), (im_20 (i := 4) rfl), rfl⟩
theorem mv_X11_skilled : MV 11 yX11_skilled := ⟨(im_19 (i := 22) rfl), (im_19 (i := 23) rfl), rfl⟩
theorem mv_X11_sky : MV 11 yX11_sky := ⟨(im_17 (i := 28) rfl), (im_17 (i := 29) rfl), rfl⟩
theorem mv_X11_spent : MV 11 yX11_spent := ⟨(im_10 (i := 3) rfl), (im_10 (i := 4) rfl), rfl⟩
theorem mv_X11_steady : MV 11 yX11_steady := ⟨(im_10 (i := 11) rfl), (im_10 (i := 12) rfl), rfl⟩
theorem mv_X11_steps : MV 11 yX11_steps := ⟨(im_18 (i := 55) rfl), (im_18 (i := 56) rfl), rfl⟩
theorem mv_X11_streak : MV 11 yX11_streak := ⟨(im_17 (i := 47) rfl), (im_17 (i := 48) rfl), rfl⟩
theorem mv_X11_then : MV 11 yX11_then := ⟨(im_17 (i := 21) rfl), (im_17 (i := 22) rfl), rfl⟩
theorem mv_X11_toRest : MV 11 yX11_toRest := ⟨(im_10 (i := 17) rfl), (im_10 (i := 18) rfl), rfl⟩
theorem mv_X11_toStand : MV 11 yX11_toStand := ⟨(im_18 (i := 13) rfl), (im_18 (i := 14) rfl), rfl⟩
theorem mv_X11_toSwish : MV 11 yX11_toSwish := ⟨(im_18 (i := 19) rfl), (im_18 (i := 20) rfl), rfl⟩
theorem mv_X11_undo : MV 11 yX11_undo := ⟨(im_9 (i := 54) rfl), (im_9 (i := 55) rfl), rfl⟩
theorem mv_X11_unlikeBlues : MV 11 yX11_unlikeBlues := ⟨(im_19 (i := 45) rfl), (im_0 (i := 39) rfl), rfl⟩
theorem mv_X11_way : MV 11 yX11_way := ⟨(im_18 (i := 5) rfl), (im_18 (i := 6) rfl), rfl⟩
theorem mv_X11_wouldFit : MV 11 yX11_wouldFit := ⟨(im_19 (i := 25) rfl), (im_0 (i := 36) rfl), rfl⟩
theorem mv_X0_clear : MV 0 yX0_clear := ⟨(im_16 (i := 0) rfl), (im_16 (i := 1) rfl), rfl⟩
theorem mv_X0_copyFrom : MV 0 yX0_copyFrom := ⟨(im_10 (i := 45) rfl), (im_10 (i := 46) rfl), rfl⟩
theorem mv_X0_keep : MV 0 yX0_keep := ⟨(im_8 (i := 22) rfl), (im_8 (i := 23) rfl), rfl⟩
theorem mv_X0_takeBack : MV 0 yX0_takeBack := ⟨(im_9 (i := 57) rfl), (im_9 (i := 58) rfl), rfl⟩
theorem mv_X1_begin : MV 1 yX1_begin := ⟨(im_3 (i := 1) rfl), (im_3 (i := 2) rfl), rfl⟩
theorem mv_X1_besideBits : MV 1 yX1_besideBits := ⟨(im_9 (i := 6) rfl), (im_9 (i := 7) rfl), rfl⟩
theorem mv_X1_bitsBeside : MV 1 yX1_bitsBeside := ⟨(im_3 (i := 10) rfl), (im_0 (i := 0) rfl), rfl⟩
theorem mv_X1_cells : MV 1 yX1_cells := ⟨(im_3 (i := 7) rfl), (im_3 (i := 8) rfl), rfl⟩
theorem mv_X1_columnOf : MV 1 yX1_columnOf := ⟨(im_3 (i := 12) rfl), (im_3 (i := 13) rfl), rfl⟩
theorem mv_X1_copyFrom : MV 1 yX1_copyFrom := ⟨(im_15 (i := 1) rfl), (im_15 (i := 2) rfl), rfl⟩
theorem mv_X1_isOld : MV 1 yX1_isOld := ⟨(im_9 (i := 30) rfl), (im_9 (i := 31) rfl), rfl⟩
theorem mv_X1_rowOf : MV 1 yX1_rowOf := ⟨(im_9 (i := 12) rfl), (im_9 (i := 13) rfl), rfl⟩
theorem mv_X1_shape : MV 1 yX1_shape := ⟨(im_3 (i := 4) rfl), (im_3 (i := 5) rfl), rfl⟩
theorem mv_X1_stepsBetween : MV 1 yX1_stepsBetween := ⟨(im_18 (i := 37) rfl), (im_18 (i := 38) rfl), rfl⟩
theorem mv_X2_faultPlace : MV 2 yX2_faultPlace := ⟨(im_14 (i := 58) rfl), (im_14 (i := 59) rfl), rfl⟩
theorem mv_X2_passesOnce : MV 2 yX2_passesOnce := ⟨(im_13 (i := 40) rfl), (im_0 (i := 11) rfl), rfl⟩
theorem mv_X2_read : MV 2 yX2_read := ⟨(im_11 (i := 55) rfl), (im_11 (i := 56) rfl), rfl⟩
theorem mv_X2_readBlue : MV 2 yX2_readBlue := ⟨(im_13 (i := 55) rfl), (im_0 (i := 14) rfl), rfl⟩
theorem mv_X2_readBound : MV 2 yX2_readBound := ⟨(im_14 (i := 18) rfl), (im_0 (i := 20) rfl), rfl⟩
theorem mv_X2_readCell : MV 2 yX2_readCell := ⟨(im_13 (i := 57) rfl), (im_0 (i := 15) rfl), rfl⟩
theorem mv_X2_readGirl : MV 2 yX2_readGirl := ⟨(im_14 (i := 1) rfl), (im_0 (i := 16) rfl), rfl⟩
theorem mv_X2_readKnobs : MV 2 yX2_readKnobs := ⟨(im_14 (i := 14) rfl), (im_0 (i := 18) rfl), rfl⟩
theorem mv_X2_readLine : MV 2 yX2_readLine := ⟨(im_13 (i := 10) rfl), (im_0 (i := 9) rfl), rfl⟩
theorem mv_X2_readNumber : MV 2 yX2_readNumber := ⟨(im_13 (i := 43) rfl), (im_0 (i := 12) rfl), rfl⟩
theorem mv_X2_readPegs : MV 2 yX2_readPegs := ⟨(im_14 (i := 9) rfl), (im_0 (i := 17) rfl), rfl⟩
theorem mv_X2_readRinse : MV 2 yX2_readRinse := ⟨(im_14 (i := 16) rfl), (im_0 (i := 19) rfl), rfl⟩
theorem mv_X2_readRule : MV 2 yX2_readRule := ⟨(im_14 (i := 20) rfl), (im_0 (i := 21) rfl), rfl⟩
theorem mv_X2_readSky : MV 2 yX2_readSky := ⟨(im_13 (i := 35) rfl), (im_0 (i := 10) rfl), rfl⟩
theorem mv_X2_refuseNumber : MV 2 yX2_refuseNumber := ⟨(im_13 (i := 45) rfl), (im_0 (i := 13) rfl), rfl⟩
theorem mv_X3_draw : MV 3 yX3_draw := ⟨(im_20 (i := 8) rfl), (im_20 (i := 9) rfl), rfl⟩
theorem mv_X4_addSeen : MV 4 yX4_addSeen := ⟨(im_19 (i := 17) rfl), (im_19 (i := 18) rfl), rfl⟩
theorem mv_X4_begin : MV 4 yX4_begin := ⟨(im_15 (i := 8) rfl), (im_15 (i := 9) rfl), rfl⟩
theorem mv_X4_copyFrom : MV 4 yX4_copyFrom := ⟨(im_10 (i := 41) rfl), (im_10 (i := 42) rfl), rfl⟩
theorem mv_X4_fitsSeen : MV 4 yX4_fitsSeen := ⟨(im_19 (i := 32) rfl), (im_19 (i := 33) rfl), rfl⟩
theorem mv_X4_keepAct : MV 4 yX4_keepAct := ⟨(im_8 (i := 19) rfl), (im_8 (i := 20) rfl), rfl⟩
theorem mv_X4_lastSeenDay : MV 4 yX4_lastSeenDay := ⟨(im_19 (i := 28) rfl), (im_19 (i := 29) rfl), rfl⟩
theorem mv_X4_refuse : MV 4 yX4_refuse := ⟨(im_8 (i := 16) rfl), (im_8 (i := 17) rfl), rfl⟩
theorem mv_X4_refused : MV 4 yX4_refused := ⟨(im_16 (i := 13) rfl), (im_16 (i := 14) rfl), rfl⟩
theorem mv_X5_clear : MV 5 yX5_clear := ⟨(im_3 (i := 15) rfl), (im_3 (i := 16) rfl), rfl⟩
theorem mv_X5_copyFrom : MV 5 yX5_copyFrom := ⟨(im_15 (i := 4) rfl), (im_15 (i := 5) rfl), rfl⟩
theorem mv_X5_isTold : MV 5 yX5_isTold := ⟨(im_8 (i := 44) rfl), (im_8 (i := 45) rfl), rfl⟩
theorem mv_X5_put : MV 5 yX5_put := ⟨(im_14 (i := 44) rfl), (im_14 (i := 45) rfl), rfl⟩
theorem mv_X5_putValue : MV 5 yX5_putValue := ⟨(im_14 (i := 49) rfl), (im_14 (i := 50) rfl), rfl⟩
theorem mv_X5_worth : MV 5 yX5_worth := ⟨(im_9 (i := 15) rfl), (im_9 (i := 16) rfl), rfl⟩
theorem mv_X6_begin : MV 6 yX6_begin := ⟨(im_14 (i := 22) rfl), (im_14 (i := 23) rfl), rfl⟩
theorem mv_X6_readAnd : MV 6 yX6_readAnd := ⟨(im_14 (i := 29) rfl), (im_0 (i := 23) rfl), rfl⟩
theorem mv_X6_readExpr : MV 6 yX6_readExpr := ⟨(im_14 (i := 26) rfl), (im_0 (i := 22) rfl), rfl⟩
theorem mv_X6_readNot : MV 6 yX6_readNot := ⟨(im_14 (i := 31) rfl), (im_0 (i := 24) rfl), rfl⟩
theorem mv_X6_readPart : MV 6 yX6_readPart := ⟨(im_14 (i := 41) rfl), (im_0 (i := 28) rfl), rfl⟩
theorem mv_X6_readProduct : MV 6 yX6_readProduct := ⟨(im_14 (i := 39) rfl), (im_0 (i := 27) rfl), rfl⟩
theorem mv_X6_readSum : MV 6 yX6_readSum := ⟨(im_14 (i := 37) rfl), (im_0 (i := 26) rfl), rfl⟩
theorem mv_X6_readTest : MV 6 yX6_readTest := ⟨(im_14 (i := 35) rfl), (im_0 (i := 25) rfl), rfl⟩
theorem mv_X6_valueHere : MV 6 yX6_valueHere := ⟨(im_14 (i := 47) rfl), (im_0 (i := 29) rfl), rfl⟩
theorem mv_X7_fill : MV 7 yX7_fill := ⟨(im_18 (i := 33) rfl), (im_0 (i := 35) rfl), rfl⟩
theorem mv_X7_find : MV 7 yX7_find := ⟨(im_18 (i := 29) rfl), (im_18 (i := 30) rfl), rfl⟩
theorem mv_X7_girlFor : MV 7 yX7_girlFor := ⟨(im_18 (i := 42) rfl), (im_18 (i := 43) rfl), rfl⟩
theorem mv_X8_addBlue : MV 8 yX8_addBlue := ⟨(im_9 (i := 24) rfl), (im_9 (i := 25) rfl), rfl⟩
theorem mv_X8_addKnobs : MV 8 yX8_addKnobs := ⟨(im_9 (i := 51) rfl), (im_9 (i := 52) rfl), rfl⟩
theorem mv_X8_allBlue : MV 8 yX8_allBlue := ⟨(im_16 (i := 10) rfl), (im_16 (i := 11) rfl), rfl⟩
theorem mv_X8_begin : MV 8 yX8_begin := ⟨(im_4 (i := 5) rfl), (im_4 (i := 6) rfl), rfl⟩
theorem mv_X8_besideWithin : MV 8 yX8_besideWithin := ⟨(im_16 (i := 45) rfl), (im_0 (i := 31) rfl), rfl⟩
theorem mv_X8_blueOf : MV 8 yX8_blueOf := ⟨(im_9 (i := 9) rfl), (im_9 (i := 10) rfl), rfl⟩
theorem mv_X8_copyFrom : MV 8 yX8_copyFrom := ⟨(im_10 (i := 8) rfl), (im_10 (i := 9) rfl), rfl⟩
theorem mv_X8_deepest : MV 8 yX8_deepest := ⟨(im_10 (i := 23) rfl), (im_10 (i := 24) rfl), rfl⟩
theorem mv_X8_drip : MV 8 yX8_drip := ⟨(im_9 (i := 33) rfl), (im_0 (i := 3) rfl), rfl⟩
theorem mv_X8_dyeOf : MV 8 yX8_dyeOf := ⟨(im_8 (i := 41) rfl), (im_8 (i := 42) rfl), rfl⟩
theorem mv_X8_fade : MV 8 yX8_fade := ⟨(im_9 (i := 44) rfl), (im_0 (i := 5) rfl), rfl⟩
theorem mv_X8_fadeOf : MV 8 yX8_fadeOf := ⟨(im_9 (i := 46) rfl), (im_0 (i := 6) rfl), rfl⟩
theorem mv_X8_girlsAt : MV 8 yX8_girlsAt := ⟨(im_16 (i := 39) rfl), (im_16 (i := 40) rfl), rfl⟩
theorem mv_X8_isAsInTheMorning : MV 8 yX8_isAsInTheMorning := ⟨(im_10 (i := 14) rfl), (im_10 (i := 15) rfl), rfl⟩
theorem mv_X8_isPegged : MV 8 yX8_isPegged := ⟨(im_9 (i := 27) rfl), (im_9 (i := 28) rfl), rfl⟩
theorem mv_X8_isResting : MV 8 yX8_isResting := ⟨(im_8 (i := 35) rfl), (im_8 (i := 36) rfl), rfl⟩
theorem mv_X8_load : MV 8 yX8_load := ⟨(im_10 (i := 0) rfl), (im_10 (i := 1) rfl), rfl⟩
theorem mv_X8_markOverdone : MV 8 yX8_markOverdone := ⟨(im_9 (i := 37) rfl), (im_0 (i := 4) rfl), rfl⟩
theorem mv_X8_palest : MV 8 yX8_palest := ⟨(im_10 (i := 26) rfl), (im_10 (i := 27) rfl), rfl⟩
theorem mv_X8_passDay : MV 8 yX8_passDay := ⟨(im_8 (i := 32) rfl), (im_8 (i := 33) rfl), rfl⟩
theorem mv_X8_patchBits : MV 8 yX8_patchBits := ⟨(im_16 (i := 42) rfl), (im_16 (i := 43) rfl), rfl⟩
theorem mv_X8_rowBlue : MV 8 yX8_rowBlue := ⟨(im_18 (i := 50) rfl), (im_18 (i := 51) rfl), rfl⟩
theorem mv_X8_runFrom : MV 8 yX8_runFrom := ⟨(im_17 (i := 50) rfl), (im_17 (i := 51) rfl), rfl⟩
theorem mv_X8_save : MV 8 yX8_save := ⟨(im_8 (i := 28) rfl), (im_8 (i := 29) rfl), rfl⟩
theorem mv_X8_setPeg : MV 8 yX8_setPeg := ⟨(im_14 (i := 11) rfl), (im_14 (i := 12) rfl), rfl⟩
theorem mv_X8_setResting : MV 8 yX8_setResting := ⟨(im_10 (i := 32) rfl), (im_10 (i := 33) rfl), rfl⟩
theorem mv_X8_setSkill : MV 8 yX8_setSkill := ⟨(im_14 (i := 3) rfl), (im_14 (i := 4) rfl), rfl⟩
theorem mv_X8_setSpot : MV 8 yX8_setSpot := ⟨(im_14 (i := 6) rfl), (im_14 (i := 7) rfl), rfl⟩
theorem mv_X8_setValues : MV 8 yX8_setValues := ⟨(im_9 (i := 4) rfl), (im_0 (i := 2) rfl), rfl⟩
theorem mv_X8_skillOf : MV 8 yX8_skillOf := ⟨(im_8 (i := 47) rfl), (im_8 (i := 48) rfl), rfl⟩
theorem mv_X8_spotOf : MV 8 yX8_spotOf := ⟨(im_9 (i := 1) rfl), (im_9 (i := 2) rfl), rfl⟩
theorem mv_X8_swish : MV 8 yX8_swish := ⟨(im_8 (i := 38) rfl), (im_8 (i := 39) rfl), rfl⟩
theorem mv_X8_uneven : MV 8 yX8_uneven := ⟨(im_10 (i := 20) rfl), (im_10 (i := 21) rfl), rfl⟩
theorem mv_X8_wayBetween : MV 8 yX8_wayBetween := ⟨(im_18 (i := 8) rfl), (im_18 (i := 9) rfl), rfl⟩
theorem mv_X9_byteAt : MV 9 yX9_byteAt := ⟨(im_13 (i := 1) rfl), (im_13 (i := 2) rfl), rfl⟩
theorem mv_X9_clear : MV 9 yX9_clear := ⟨(im_14 (i := 55) rfl), (im_14 (i := 56) rfl), rfl⟩
theorem mv_X9_hasRoomFor : MV 9 yX9_hasRoomFor := ⟨(im_8 (i := 2) rfl), (im_8 (i := 3) rfl), rfl⟩
theorem mv_X9_put : MV 9 yX9_put := ⟨(im_8 (i := 5) rfl), (im_8 (i := 6) rfl), rfl⟩
theorem mv_X10_advance : MV 10 yX10_advance := ⟨(im_12 (i := 3) rfl), (im_12 (i := 4) rfl), rfl⟩
theorem mv_X10_begin : MV 10 yX10_begin := ⟨(im_12 (i := 0) rfl), (im_12 (i := 1) rfl), rfl⟩
theorem mv_X10_isTooLong : MV 10 yX10_isTooLong := ⟨(im_13 (i := 47) rfl), (im_13 (i := 48) rfl), rfl⟩
theorem mv_X10_isWord : MV 10 yX10_isWord := ⟨(im_13 (i := 12) rfl), (im_13 (i := 13) rfl), rfl⟩
theorem mv_X10_passes : MV 10 yX10_passes := ⟨(im_13 (i := 51) rfl), (im_13 (i := 52) rfl), rfl⟩
theorem mv_X10_refuse : MV 10 yX10_refuse := ⟨(im_13 (i := 37) rfl), (im_13 (i := 38) rfl), rfl⟩
theorem mv_X12_aDay : MV 12 yX12_aDay := ⟨(im_25 (i := 45) rfl), (im_1 (i := 28) rfl), rfl⟩
theorem mv_X12_allBlue : MV 12 yX12_allBlue := ⟨(im_23 (i := 59) rfl), (im_1 (i := 11) rfl), rfl⟩
theorem mv_X12_ask : MV 12 yX12_ask := ⟨(im_25 (i := 25) rfl), (im_1 (i := 21) rfl), rfl⟩
theorem mv_X12_bag : MV 12 yX12_bag := ⟨(im_26 (i := 3) rfl), (im_26 (i := 4) rfl), rfl⟩
theorem mv_X12_band : MV 12 yX12_band := ⟨(im_26 (i := 36) rfl), (im_26 (i := 37) rfl), rfl⟩
theorem mv_X12_begin : MV 12 yX12_begin := ⟨(im_20 (i := 20) rfl), (im_0 (i := 43) rfl), rfl⟩
theorem mv_X12_besideOf : MV 12 yX12_besideOf := ⟨(im_25 (i := 4) rfl), (im_1 (i := 13) rfl), rfl⟩
theorem mv_X12_blueBeside : MV 12 yX12_blueBeside := ⟨(im_25 (i := 27) rfl), (im_1 (i := 22) rfl), rfl⟩
theorem mv_X12_byteAt : MV 12 yX12_byteAt := ⟨(im_22 (i := 49) rfl), (im_0 (i := 46) rfl), rfl⟩
theorem mv_X12_cell : MV 12 yX12_cell := ⟨(im_24 (i := 1) rfl), (im_24 (i := 2) rfl), rfl⟩
theorem mv_X12_cellNow : MV 12 yX12_cellNow := ⟨(im_23 (i := 39) rfl), (im_1 (i := 6) rfl), rfl⟩
theorem mv_X12_cells : MV 12 yX12_cells := ⟨(im_23 (i := 57) rfl), (im_1 (i := 10) rfl), rfl⟩
theorem mv_X12_coast : MV 12 yX12_coast := ⟨(im_22 (i := 42) rfl), (im_22 (i := 43) rfl), rfl⟩
theorem mv_X12_columnOf : MV 12 yX12_columnOf := ⟨(im_25 (i := 8) rfl), (im_1 (i := 15) rfl), rfl⟩
theorem mv_X12_count : MV 12 yX12_count := ⟨(im_23 (i := 54) rfl), (im_23 (i := 55) rfl), rfl⟩
theorem mv_X12_days : MV 12 yX12_days := ⟨(im_25 (i := 33) rfl), (im_25 (i := 34) rfl), rfl⟩
theorem mv_X12_drawOf : MV 12 yX12_drawOf := ⟨(im_28 (i := 22) rfl), (im_1 (i := 45) rfl), rfl⟩
theorem mv_X12_dye : MV 12 yX12_dye := ⟨(im_25 (i := 49) rfl), (im_1 (i := 30) rfl), rfl⟩
theorem mv_X12_dyesOf : MV 12 yX12_dyesOf := ⟨(im_25 (i := 23) rfl), (im_1 (i := 20) rfl), rfl⟩
theorem mv_X12_extreme : MV 12 yX12_extreme := ⟨(im_26 (i := 25) rfl), (im_1 (i := 35) rfl), rfl⟩
theorem mv_X12_fadesOf : MV 12 yX12_fadesOf := ⟨(im_25 (i := 53) rfl), (im_1 (i := 31) rfl), rfl⟩
theorem mv_X12_fail : MV 12 yX12_fail := ⟨(im_22 (i := 45) rfl), (im_0 (i := 44) rfl), rfl⟩
theorem mv_X12_failing : MV 12 yX12_failing := ⟨(im_25 (i := 58) rfl), (im_1 (i := 32) rfl), rfl⟩
theorem mv_X12_farOf : MV 12 yX12_farOf := ⟨(im_25 (i := 6) rfl), (im_1 (i := 14) rfl), rfl⟩
theorem mv_X12_fault : MV 12 yX12_fault := ⟨(im_23 (i := 51) rfl), (im_23 (i := 52) rfl), rfl⟩
theorem mv_X12_feed : MV 12 yX12_feed := ⟨(im_22 (i := 39) rfl), (im_22 (i := 40) rfl), rfl⟩
theorem mv_X12_first : MV 12 yX12_first := ⟨(im_26 (i := 30) rfl), (im_26 (i := 31) rfl), rfl⟩
theorem mv_X12_forget : MV 12 yX12_forget := ⟨(im_28 (i := 9) rfl), (im_28 (i := 10) rfl), rfl⟩
theorem mv_X12_game : MV 12 yX12_game := ⟨(im_28 (i := 12) rfl), (im_28 (i := 13) rfl), rfl⟩
theorem mv_X12_girl : MV 12 yX12_girl := ⟨(im_25 (i := 17) rfl), (im_25 (i := 18) rfl), rfl⟩
theorem mv_X12_girlsAt : MV 12 yX12_girlsAt := ⟨(im_25 (i := 13) rfl), (im_1 (i := 17) rfl), rfl⟩
theorem mv_X12_go : MV 12 yX12_go := ⟨(im_26 (i := 0) rfl), (im_26 (i := 1) rfl), rfl⟩
theorem mv_X12_goOn : MV 12 yX12_goOn := ⟨(im_25 (i := 43) rfl), (im_1 (i := 27) rfl), rfl⟩
theorem mv_X12_image : MV 12 yX12_image := ⟨(im_28 (i := 25) rfl), (im_28 (i := 26) rfl), rfl⟩
theorem mv_X12_is : MV 12 yX12_is := ⟨(im_23 (i := 3) rfl), (im_0 (i := 49) rfl), rfl⟩
theorem mv_X12_isAsSeen : MV 12 yX12_isAsSeen := ⟨(im_28 (i := 0) rfl), (im_1 (i := 40) rfl), rfl⟩
theorem mv_X12_isCell : MV 12 yX12_isCell := ⟨(im_25 (i := 0) rfl), (im_1 (i := 12) rfl), rfl⟩
theorem mv_X12_isGirl : MV 12 yX12_isGirl := ⟨(im_25 (i := 20) rfl), (im_1 (i := 19) rfl), rfl⟩
theorem mv_X12_isMarked : MV 12 yX12_isMarked := ⟨(im_23 (i := 21) rfl), (im_0 (i := 57) rfl), rfl⟩
theorem mv_X12_keep : MV 12 yX12_keep := ⟨(im_25 (i := 39) rfl), (im_1 (i := 25) rfl), rfl⟩
theorem mv_X12_lay : MV 12 yX12_lay := ⟨(im_23 (i := 33) rfl), (im_1 (i := 3) rfl), rfl⟩
theorem mv_X12_look : MV 12 yX12_look := ⟨(im_28 (i := 4) rfl), (im_28 (i := 5) rfl), rfl⟩
theorem mv_X12_mark : MV 12 yX12_mark := ⟨(im_23 (i := 35) rfl), (im_1 (i := 4) rfl), rfl⟩
theorem mv_X12_missed : MV 12 yX12_missed := ⟨(im_27 (i := 10) rfl), (im_27 (i := 11) rfl), rfl⟩
theorem mv_X12_nearest : MV 12 yX12_nearest := ⟨(im_27 (i := 16) rfl), (im_27 (i := 17) rfl), rfl⟩
theorem mv_X12_numberNow : MV 12 yX12_numberNow := ⟨(im_23 (i := 15) rfl), (im_0 (i := 54) rfl), rfl⟩
theorem mv_X12_overdone : MV 12 yX12_overdone := ⟨(im_26 (i := 27) rfl), (im_26 (i := 28) rfl), rfl⟩
theorem mv_X12_pack : MV 12 yX12_pack := ⟨(im_25 (i := 41) rfl), (im_1 (i := 26) rfl), rfl⟩
theorem mv_X12_patch : MV 12 yX12_patch := ⟨(im_26 (i := 49) rfl), (im_26 (i := 50) rfl), rfl⟩
theorem mv_X12_patchOf : MV 12 yX12_patchOf := ⟨(im_25 (i := 15) rfl), (im_1 (i := 18) rfl), rfl⟩
theorem mv_X12_patches : MV 12 yX12_patches := ⟨(im_26 (i := 53) rfl), (im_26 (i := 54) rfl), rfl⟩
theorem mv_X12_peg : MV 12 yX12_peg := ⟨(im_26 (i := 7) rfl), (im_26 (i := 8) rfl), rfl⟩
theorem mv_X12_readAnd : MV 12 yX12_readAnd := ⟨(im_23 (i := 23) rfl), (im_0 (i := 58) rfl), rfl⟩
theorem mv_X12_readExpression : MV 12 yX12_readExpression := ⟨(im_23 (i := 19) rfl), (im_0 (i := 56) rfl), rfl⟩
theorem mv_X12_readLine : MV 12 yX12_readLine := ⟨(im_22 (i := 59) rfl), (im_0 (i := 47) rfl), rfl⟩
theorem mv_X12_readNot : MV 12 yX12_readNot := ⟨(im_23 (i := 25) rfl), (im_0 (i := 59) rfl), rfl⟩
theorem mv_X12_readNumber : MV 12 yX12_readNumber := ⟨(im_23 (i := 13) rfl), (im_0 (i := 53) rfl), rfl⟩
theorem mv_X12_readPart : MV 12 yX12_readPart := ⟨(im_23 (i := 31) rfl), (im_1 (i := 2) rfl), rfl⟩
theorem mv_X12_readProduct : MV 12 yX12_readProduct := ⟨(im_23 (i := 29) rfl), (im_1 (i := 1) rfl), rfl⟩
theorem mv_X12_readSum : MV 12 yX12_readSum := ⟨(im_23 (i := 27) rfl), (im_1 (i := 0) rfl), rfl⟩
theorem mv_X12_refuse : MV 12 yX12_refuse := ⟨(im_25 (i := 37) rfl), (im_1 (i := 24) rfl), rfl⟩
theorem mv_X12_rest : MV 12 yX12_rest := ⟨(im_25 (i := 55) rfl), (im_25 (i := 56) rfl), rfl⟩
theorem mv_X12_restore : MV 12 yX12_restore := ⟨(im_28 (i := 28) rfl), (im_28 (i := 29) rfl), rfl⟩
theorem mv_X12_rowOf : MV 12 yX12_rowOf := ⟨(im_25 (i := 11) rfl), (im_1 (i := 16) rfl), rfl⟩
theorem mv_X12_sayBlue : MV 12 yX12_sayBlue := ⟨(im_23 (i := 43) rfl), (im_1 (i := 7) rfl), rfl⟩
theorem mv_X12_sayOnce : MV 12 yX12_sayOnce := ⟨(im_23 (i := 9) rfl), (im_0 (i := 51) rfl), rfl⟩
theorem mv_X12_sayPegs : MV 12 yX12_sayPegs := ⟨(im_23 (i := 45) rfl), (im_1 (i := 8) rfl), rfl⟩
theorem mv_X12_sayRule : MV 12 yX12_sayRule := ⟨(im_23 (i := 17) rfl), (im_0 (i := 55) rfl), rfl⟩
theorem mv_X12_saySky : MV 12 yX12_saySky := ⟨(im_23 (i := 11) rfl), (im_0 (i := 52) rfl), rfl⟩
theorem mv_X12_sayWoman : MV 12 yX12_sayWoman := ⟨(im_23 (i := 37) rfl), (im_1 (i := 5) rfl), rfl⟩
theorem mv_X12_see : MV 12 yX12_see := ⟨(im_27 (i := 26) rfl), (im_27 (i := 27) rfl), rfl⟩
theorem mv_X12_sent : MV 12 yX12_sent := ⟨(im_27 (i := 19) rfl), (im_27 (i := 20) rfl), rfl⟩
theorem mv_X12_skies : MV 12 yX12_skies := ⟨(im_28 (i := 17) rfl), (im_28 (i := 18) rfl), rfl⟩
theorem mv_X12_skilled : MV 12 yX12_skilled := ⟨(im_27 (i := 29) rfl), (im_27 (i := 30) rfl), rfl⟩
theorem mv_X12_sky : MV 12 yX12_sky := ⟨(im_26 (i := 19) rfl), (im_26 (i := 20) rfl), rfl⟩
theorem mv_X12_something : MV 12 yX12_something := ⟨(im_28 (i := 20) rfl), (im_1 (i := 44) rfl), rfl⟩
theorem mv_X12_spent : MV 12 yX12_spent := ⟨(im_26 (i := 33) rfl), (im_26 (i := 34) rfl), rfl⟩
theorem mv_X12_steady : MV 12 yX12_steady := ⟨(im_26 (i := 39) rfl), (im_26 (i := 40) rfl), rfl⟩
theorem mv_X12_stepOn : MV 12 yX12_stepOn := ⟨(im_22 (i := 47) rfl), (im_0 (i := 45) rfl), rfl⟩
theorem mv_X12_steps : MV 12 yX12_steps := ⟨(im_27 (i := 13) rfl), (im_27 (i := 14) rfl), rfl⟩
theorem mv_X12_streak : MV 12 yX12_streak := ⟨(im_26 (i := 44) rfl), (im_26 (i := 45) rfl), rfl⟩
theorem mv_X12_streakFrom : MV 12 yX12_streakFrom := ⟨(im_26 (i := 47) rfl), (im_1 (i := 36) rfl), rfl⟩
theorem mv_X12_swish : MV 12 yX12_swish := ⟨(im_25 (i := 47) rfl), (im_1 (i := 29) rfl), rfl⟩
theorem mv_X12_takeOver : MV 12 yX12_takeOver := ⟨(im_23 (i := 47) rfl), (im_1 (i := 9) rfl), rfl⟩
theorem mv_X12_tellFits : MV 12 yX12_tellFits := ⟨(im_28 (i := 2) rfl), (im_1 (i := 41) rfl), rfl⟩
theorem mv_X12_tellGains : MV 12 yX12_tellGains := ⟨(im_28 (i := 15) rfl), (im_1 (i := 43) rfl), rfl⟩
theorem mv_X12_tellLeast : MV 12 yX12_tellLeast := ⟨(im_27 (i := 22) rfl), (im_1 (i := 38) rfl), rfl⟩
theorem mv_X12_then : MV 12 yX12_then := ⟨(im_26 (i := 15) rfl), (im_26 (i := 16) rfl), rfl⟩
theorem mv_X12_toRest : MV 12 yX12_toRest := ⟨(im_26 (i := 59) rfl), (im_27 (i := 0) rfl), rfl⟩
theorem mv_X12_toStand : MV 12 yX12_toStand := ⟨(im_27 (i := 4) rfl), (im_27 (i := 5) rfl), rfl⟩
theorem mv_X12_toSwish : MV 12 yX12_toSwish := ⟨(im_27 (i := 7) rfl), (im_27 (i := 8) rfl), rfl⟩
theorem mv_X12_undo : MV 12 yX12_undo := ⟨(im_26 (i := 10) rfl), (im_26 (i := 11) rfl), rfl⟩
theorem mv_X12_uneven : MV 12 yX12_uneven := ⟨(im_26 (i := 23) rfl), (im_1 (i := 34) rfl), rfl⟩
theorem mv_X12_unevenNext : MV 12 yX12_unevenNext := ⟨(im_27 (i := 2) rfl), (im_1 (i := 37) rfl), rfl⟩
theorem mv_X12_unlike : MV 12 yX12_unlike := ⟨(im_28 (i := 7) rfl), (im_1 (i := 42) rfl), rfl⟩
theorem mv_X12_unpack : MV 12 yX12_unpack := ⟨(im_26 (i := 13) rfl), (im_1 (i := 33) rfl), rfl⟩
theorem mv_X12_valueNow : MV 12 yX12_valueNow := ⟨(im_25 (i := 29) rfl), (im_1 (i := 23) rfl), rfl⟩
theorem mv_X12_way : MV 12 yX12_way := ⟨(im_26 (i := 56) rfl), (im_26 (i := 57) rfl), rfl⟩
theorem mv_X12_which : MV 12 yX12_which := ⟨(im_23 (i := 1) rfl), (im_0 (i := 48) rfl), rfl⟩
theorem mv_X12_with : MV 12 yX12_with := ⟨(im_27 (i := 24) rfl), (im_1 (i := 39) rfl), rfl⟩
theorem mv_X12_wrong : MV 12 yX12_wrong := ⟨(im_23 (i := 7) rfl), (im_0 (i := 50) rfl), rfl⟩
theorem mst_X5_joined : Cond.static yX5_joined ∈ lw_tbl := (im_9 (i := 18) rfl)
theorem mst_X10_isBlank : Cond.static yX10_isBlank ∈ lw_tbl := (im_13 (i := 4) rfl)
theorem mst_X10_isDigit : Cond.static yX10_isDigit ∈ lw_tbl := (im_13 (i := 8) rfl)
theorem mst_X10_isLetter : Cond.static yX10_isLetter ∈ lw_tbl := (im_13 (i := 6) rfl)
theorem mst_X12_bitsOf : Cond.static yX12_bitsOf ∈ lw_tbl := (im_25 (i := 51) rfl)
theorem mst_X12_copyTo : Cond.static yX12_copyTo ∈ lw_tbl := (im_26 (i := 42) rfl)
theorem mst_X12_isDigit : Cond.static yX12_isDigit ∈ lw_tbl := (im_22 (i := 53) rfl)
theorem mst_X12_isIn : Cond.static yX12_isIn ∈ lw_tbl := (im_25 (i := 2) rfl)
theorem mst_X12_isLetter : Cond.static yX12_isLetter ∈ lw_tbl := (im_22 (i := 51) rfl)
theorem mst_X12_isMark : Cond.static yX12_isMark ∈ lw_tbl := (im_22 (i := 57) rfl)
theorem mst_X12_isOf : Cond.static yX12_isOf ∈ lw_tbl := (im_23 (i := 41) rfl)
theorem mst_X12_reckon : Cond.static yX12_reckon ∈ lw_tbl := (im_25 (i := 31) rfl)
theorem mst_X12_takeHalf : Cond.static yX12_takeHalf ∈ lw_tbl := (im_23 (i := 49) rfl)
theorem mst_J6_bitCount_0f7a4 : Cond.static yJ6_bitCount_0f7a4 ∈ lw_tbl := (im_9 (i := 39) rfl)
theorem mst_J13_bitCount_95d88 : Cond.static yJ13_bitCount_95d88 ∈ lw_tbl := (im_19 (i := 47) rfl)
theorem mwh_L_band : MWH yL_band cL_band 4 [((0 : Nat), (9 : Nat), (12 : Nat), (13 : Nat))] 3 := ⟨cw_1291, (im_2 (i := 0) rfl), by decide, by decide +kernel, (im_18 (i := 45) rfl)⟩
theorem mwh_L_cell : MWH yL_cell cL_cell 5 [((0 : Nat), (10 : Nat), (13 : Nat), (18 : Nat))] 4 := ⟨cw_1104, (im_2 (i := 0) rfl), by decide, by decide +kernel, (im_16 (i := 30) rfl)⟩
theorem mwh_L_coast : MWH yL_coast cL_coast 4 [((0 : Nat), (9 : Nat), (12 : Nat), (13 : Nat))] 3 := ⟨cw_746, (im_2 (i := 0) rfl), by decide, by decide +kernel, (im_10 (i := 52) rfl)⟩
theorem mwh_L_count : MWH yL_count cL_count 4 [((0 : Nat), (9 : Nat), (12 : Nat), (18 : Nat))] 3 := ⟨cw_1072, (im_2 (i := 0) rfl), by decide, by decide +kernel, (im_16 (i := 3) rfl)⟩
theorem mwh_L_first : MWH yL_first cL_first 4 [((0 : Nat), (9 : Nat), (12 : Nat), (18 : Nat))] 3 := ⟨cw_1203, (im_2 (i := 0) rfl), by decide, by decide +kernel, (im_17 (i := 40) rfl)⟩
theorem mwh_L_game : MWH yL_game cL_game 6 [((0 : Nat), (12 : Nat), (15 : Nat), (18 : Nat)), ((0 : Nat), (12 : Nat), (19 : Nat), (13 : Nat))] 5 := ⟨cw_1382, (im_2 (i := 0) rfl), by decide, by decide +kernel, (im_19 (i := 52) rfl)⟩
theorem mwh_L_girl : MWH yL_girl cL_girl 5 [((0 : Nat), (10 : Nat), (13 : Nat), (18 : Nat))] 4 := ⟨cw_1132, (im_2 (i := 0) rfl), by decide, by decide +kernel, (im_16 (i := 49) rfl)⟩
theorem mwh_L_go : MWH yL_go cL_go 5 [((0 : Nat), (10 : Nat), (13 : Nat), (18 : Nat))] 4 := ⟨cw_1155, (im_2 (i := 0) rfl), by decide, by decide +kernel, (im_17 (i := 6) rfl)⟩
theorem mwh_L_look : MWH yL_look cL_look 4 [((0 : Nat), (9 : Nat), (12 : Nat), (18 : Nat))] 3 := ⟨cw_1357, (im_2 (i := 0) rfl), by decide, by decide +kernel, (im_19 (i := 36) rfl)⟩
theorem mwh_L_missed : MWH yL_missed cL_missed 4 [((0 : Nat), (9 : Nat), (12 : Nat), (18 : Nat))] 3 := ⟨cw_1317, (im_2 (i := 0) rfl), by decide, by decide +kernel, (im_19 (i := 7) rfl)⟩
theorem mwh_L_nearest : MWH yL_nearest cL_nearest 4 [((0 : Nat), (9 : Nat), (12 : Nat), (18 : Nat))] 3 := ⟨cw_1310, (im_2 (i := 0) rfl), by decide, by decide +kernel, (im_19 (i := 2) rfl)⟩
theorem mwh_L_overdone : MWH yL_overdone cL_overdone 4 [((0 : Nat), (9 : Nat), (12 : Nat), (13 : Nat))] 3 := ⟨cw_1196, (im_2 (i := 0) rfl), by decide, by decide +kernel, (im_17 (i := 35) rfl)⟩
theorem mwh_L_patch : MWH yL_patch cL_patch 5 [((0 : Nat), (10 : Nat), (13 : Nat), (18 : Nat)), ((0 : Nat), (10 : Nat), (17 : Nat), (13 : Nat))] 4 := ⟨cw_1221, (im_2 (i := 0) rfl), by decide, by decide +kernel, (im_17 (i := 53) rfl)⟩
theorem mwh_L_patches : MWH yL_patches cL_patches 4 [((0 : Nat), (9 : Nat), (12 : Nat), (13 : Nat))] 3 := ⟨cw_1228, (im_2 (i := 0) rfl), by decide, by decide +kernel, (im_17 (i := 58) rfl)⟩
theorem mwh_L_peg : MWH yL_peg cL_peg 5 [((0 : Nat), (10 : Nat), (13 : Nat), (18 : Nat))] 4 := ⟨cw_1163, (im_2 (i := 0) rfl), by decide, by decide +kernel, (im_17 (i := 12) rfl)⟩
theorem mwh_L_rest : MWH yL_rest cL_rest 5 [((0 : Nat), (17 : Nat), (20 : Nat), (18 : Nat))] 4 := ⟨cw_1148, (im_2 (i := 0) rfl), by decide, by decide +kernel, (im_17 (i := 1) rfl)⟩
theorem mwh_L_see : MWH yL_see cL_see 6 [((0 : Nat), (12 : Nat), (15 : Nat), (18 : Nat))] 5 := ⟨cw_1324, (im_2 (i := 0) rfl), by decide, by decide +kernel, (im_19 (i := 12) rfl)⟩
theorem mwh_L_sent : MWH yL_sent cL_sent 5 [((0 : Nat), (10 : Nat), (13 : Nat), (18 : Nat)), ((0 : Nat), (10 : Nat), (17 : Nat), (13 : Nat))] 4 := ⟨cw_1262, (im_2 (i := 0) rfl), by decide, by decide +kernel, (im_18 (i := 23) rfl)⟩
theorem mwh_L_skies : MWH yL_skies cL_skies 6 [((0 : Nat), (12 : Nat), (15 : Nat), (18 : Nat)), ((0 : Nat), (12 : Nat), (19 : Nat), (13 : Nat))] 5 := ⟨cw_1397, (im_2 (i := 0) rfl), by decide, by decide +kernel, (im_20 (i := 1) rfl)⟩
theorem mwh_L_skilled : MWH yL_skilled cL_skilled 4 [((0 : Nat), (9 : Nat), (12 : Nat), (18 : Nat))] 3 := ⟨cw_1335, (im_2 (i := 0) rfl), by decide, by decide +kernel, (im_19 (i := 20) rfl)⟩
theorem mwh_L_sky : MWH yL_sky cL_sky 5 [((0 : Nat), (10 : Nat), (13 : Nat), (18 : Nat)), ((0 : Nat), (10 : Nat), (17 : Nat), (13 : Nat))] 4 := ⟨cw_1183, (im_2 (i := 0) rfl), by decide, by decide +kernel, (im_17 (i := 26) rfl)⟩
theorem mwh_L_steps : MWH yL_steps cL_steps 5 [((0 : Nat), (10 : Nat), (13 : Nat), (18 : Nat))] 4 := ⟨cw_1302, (im_2 (i := 0) rfl), by decide, by decide +kernel, (im_18 (i := 53) rfl)⟩
theorem mwh_L_streak : MWH yL_streak cL_streak 4 [((0 : Nat), (9 : Nat), (12 : Nat), (18 : Nat))] 3 := ⟨cw_1210, (im_2 (i := 0) rfl), by decide, by decide +kernel, (im_17 (i := 45) rfl)⟩
theorem mwh_L_then : MWH yL_then cL_then 5 [((0 : Nat), (10 : Nat), (13 : Nat), (18 : Nat)), ((0 : Nat), (10 : Nat), (17 : Nat), (13 : Nat))] 4 := ⟨cw_1172, (im_2 (i := 0) rfl), by decide, by decide +kernel, (im_17 (i := 19) rfl)⟩
theorem mwh_L_toStand : MWH yL_toStand cL_toStand 5 [((0 : Nat), (10 : Nat), (13 : Nat), (18 : Nat))] 4 := ⟨cw_1246, (im_2 (i := 0) rfl), by decide, by decide +kernel, (im_18 (i := 11) rfl)⟩
theorem mwh_L_toSwish : MWH yL_toSwish cL_toSwish 5 [((0 : Nat), (10 : Nat), (13 : Nat), (18 : Nat)), ((0 : Nat), (10 : Nat), (17 : Nat), (13 : Nat))] 4 := ⟨cw_1254, (im_2 (i := 0) rfl), by decide, by decide +kernel, (im_18 (i := 17) rfl)⟩
theorem mwh_L_way : MWH yL_way cL_way 5 [((0 : Nat), (10 : Nat), (13 : Nat), (18 : Nat))] 4 := ⟨cw_1235, (im_2 (i := 0) rfl), by decide, by decide +kernel, (im_18 (i := 3) rfl)⟩
theorem cst_1 : Cond.castable (exNm 1) (exNm 1) ∈ lw_tbl := (im_16 (i := 17) rfl)
theorem lkx_1 : Cond.classLink RL 18 (exNm 1) ∈ lw_tbl := (im_16 (i := 4) rfl)
theorem cst_2 : Cond.castable (exNm 2) (exNm 2) ∈ lw_tbl := (im_10 (i := 59) rfl)
theorem lkx_2 : Cond.classLink RL 13 (exNm 2) ∈ lw_tbl := (im_10 (i := 53) rfl)
theorem hd_L_band_2 : HD [((0 : Nat), (9 : Nat), (12 : Nat), (13 : Nat))] RL 2 4 12 := ⟨[], _, _, rfl, by decide, by decide, rfl, lkx_2, cst_2, fun _ h => absurd h List.not_mem_nil⟩
theorem hd_L_cell_1 : HD [((0 : Nat), (10 : Nat), (13 : Nat), (18 : Nat))] RL 1 5 13 := ⟨[], _, _, rfl, by decide, by decide, rfl, lkx_1, cst_1, fun _ h => absurd h List.not_mem_nil⟩
theorem hd_L_coast_2 : HD [((0 : Nat), (9 : Nat), (12 : Nat), (13 : Nat))] RL 2 4 12 := ⟨[], _, _, rfl, by decide, by decide, rfl, lkx_2, cst_2, fun _ h => absurd h List.not_mem_nil⟩
theorem hd_L_count_1 : HD [((0 : Nat), (9 : Nat), (12 : Nat), (18 : Nat))] RL 1 4 12 := ⟨[], _, _, rfl, by decide, by decide, rfl, lkx_1, cst_1, fun _ h => absurd h List.not_mem_nil⟩
theorem hd_L_first_1 : HD [((0 : Nat), (9 : Nat), (12 : Nat), (18 : Nat))] RL 1 4 12 := ⟨[], _, _, rfl, by decide, by decide, rfl, lkx_1, cst_1, fun _ h => absurd h List.not_mem_nil⟩
theorem hd_L_game_1 : HD [((0 : Nat), (12 : Nat), (15 : Nat), (18 : Nat)), ((0 : Nat), (12 : Nat), (19 : Nat), (13 : Nat))] RL 1 7 15 := ⟨[], _, _, rfl, by decide, by decide, rfl, lkx_1, cst_1, fun _ h => absurd h List.not_mem_nil⟩
theorem hd_L_game_2 : HD [((0 : Nat), (12 : Nat), (15 : Nat), (18 : Nat)), ((0 : Nat), (12 : Nat), (19 : Nat), (13 : Nat))] RL 2 7 19 := ⟨[_], _, _, rfl, by decide, by decide, rfl, lkx_2, cst_2, fun z h => by rw [List.mem_singleton] at h; subst h; exact ⟨by decide, lkx_1, rfl⟩⟩
theorem hd_L_girl_1 : HD [((0 : Nat), (10 : Nat), (13 : Nat), (18 : Nat))] RL 1 5 13 := ⟨[], _, _, rfl, by decide, by decide, rfl, lkx_1, cst_1, fun _ h => absurd h List.not_mem_nil⟩
theorem hd_L_go_1 : HD [((0 : Nat), (10 : Nat), (13 : Nat), (18 : Nat))] RL 1 5 13 := ⟨[], _, _, rfl, by decide, by decide, rfl, lkx_1, cst_1, fun _ h => absurd h List.not_mem_nil⟩
theorem hd_L_look_1 : HD [((0 : Nat), (9 : Nat), (12 : Nat), (18 : Nat))] RL 1 4 12 := ⟨[], _, _, rfl, by decide, by decide, rfl, lkx_1, cst_1, fun _ h => absurd h List.not_mem_nil⟩
theorem hd_L_missed_1 : HD [((0 : Nat), (9 : Nat), (12 : Nat), (18 : Nat))] RL 1 4 12 := ⟨[], _, _, rfl, by decide, by decide, rfl, lkx_1, cst_1, fun _ h => absurd h List.not_mem_nil⟩
theorem hd_L_nearest_1 : HD [((0 : Nat), (9 : Nat), (12 : Nat), (18 : Nat))] RL 1 4 12 := ⟨[], _, _, rfl, by decide, by decide, rfl, lkx_1, cst_1, fun _ h => absurd h List.not_mem_nil⟩
theorem hd_L_overdone_2 : HD [((0 : Nat), (9 : Nat), (12 : Nat), (13 : Nat))] RL 2 4 12 := ⟨[], _, _, rfl, by decide, by decide, rfl, lkx_2, cst_2, fun _ h => absurd h List.not_mem_nil⟩
theorem hd_L_patch_1 : HD [((0 : Nat), (10 : Nat), (13 : Nat), (18 : Nat)), ((0 : Nat), (10 : Nat), (17 : Nat), (13 : Nat))] RL 1 5 13 := ⟨[], _, _, rfl, by decide, by decide, rfl, lkx_1, cst_1, fun _ h => absurd h List.not_mem_nil⟩
theorem hd_L_patch_2 : HD [((0 : Nat), (10 : Nat), (13 : Nat), (18 : Nat)), ((0 : Nat), (10 : Nat), (17 : Nat), (13 : Nat))] RL 2 5 17 := ⟨[_], _, _, rfl, by decide, by decide, rfl, lkx_2, cst_2, fun z h => by rw [List.mem_singleton] at h; subst h; exact ⟨by decide, lkx_1, rfl⟩⟩
theorem hd_L_patches_2 : HD [((0 : Nat), (9 : Nat), (12 : Nat), (13 : Nat))] RL 2 4 12 := ⟨[], _, _, rfl, by decide, by decide, rfl, lkx_2, cst_2, fun _ h => absurd h List.not_mem_nil⟩
theorem hd_L_peg_1 : HD [((0 : Nat), (10 : Nat), (13 : Nat), (18 : Nat))] RL 1 5 13 := ⟨[], _, _, rfl, by decide, by decide, rfl, lkx_1, cst_1, fun _ h => absurd h List.not_mem_nil⟩
theorem hd_L_rest_1 : HD [((0 : Nat), (17 : Nat), (20 : Nat), (18 : Nat))] RL 1 5 20 := ⟨[], _, _, rfl, by decide, by decide, rfl, lkx_1, cst_1, fun _ h => absurd h List.not_mem_nil⟩
theorem hd_L_see_1 : HD [((0 : Nat), (12 : Nat), (15 : Nat), (18 : Nat))] RL 1 7 15 := ⟨[], _, _, rfl, by decide, by decide, rfl, lkx_1, cst_1, fun _ h => absurd h List.not_mem_nil⟩
theorem hd_L_sent_1 : HD [((0 : Nat), (10 : Nat), (13 : Nat), (18 : Nat)), ((0 : Nat), (10 : Nat), (17 : Nat), (13 : Nat))] RL 1 5 13 := ⟨[], _, _, rfl, by decide, by decide, rfl, lkx_1, cst_1, fun _ h => absurd h List.not_mem_nil⟩
theorem hd_L_sent_2 : HD [((0 : Nat), (10 : Nat), (13 : Nat), (18 : Nat)), ((0 : Nat), (10 : Nat), (17 : Nat), (13 : Nat))] RL 2 5 17 := ⟨[_], _, _, rfl, by decide, by decide, rfl, lkx_2, cst_2, fun z h => by rw [List.mem_singleton] at h; subst h; exact ⟨by decide, lkx_1, rfl⟩⟩
theorem hd_L_skies_1 : HD [((0 : Nat), (12 : Nat), (15 : Nat), (18 : Nat)), ((0 : Nat), (12 : Nat), (19 : Nat), (13 : Nat))] RL 1 7 15 := ⟨[], _, _, rfl, by decide, by decide, rfl, lkx_1, cst_1, fun _ h => absurd h List.not_mem_nil⟩
theorem hd_L_skies_2 : HD [((0 : Nat), (12 : Nat), (15 : Nat), (18 : Nat)), ((0 : Nat), (12 : Nat), (19 : Nat), (13 : Nat))] RL 2 7 19 := ⟨[_], _, _, rfl, by decide, by decide, rfl, lkx_2, cst_2, fun z h => by rw [List.mem_singleton] at h; subst h; exact ⟨by decide, lkx_1, rfl⟩⟩
theorem hd_L_skilled_1 : HD [((0 : Nat), (9 : Nat), (12 : Nat), (18 : Nat))] RL 1 4 12 := ⟨[], _, _, rfl, by decide, by decide, rfl, lkx_1, cst_1, fun _ h => absurd h List.not_mem_nil⟩
theorem hd_L_sky_1 : HD [((0 : Nat), (10 : Nat), (13 : Nat), (18 : Nat)), ((0 : Nat), (10 : Nat), (17 : Nat), (13 : Nat))] RL 1 5 13 := ⟨[], _, _, rfl, by decide, by decide, rfl, lkx_1, cst_1, fun _ h => absurd h List.not_mem_nil⟩
theorem hd_L_sky_2 : HD [((0 : Nat), (10 : Nat), (13 : Nat), (18 : Nat)), ((0 : Nat), (10 : Nat), (17 : Nat), (13 : Nat))] RL 2 5 17 := ⟨[_], _, _, rfl, by decide, by decide, rfl, lkx_2, cst_2, fun z h => by rw [List.mem_singleton] at h; subst h; exact ⟨by decide, lkx_1, rfl⟩⟩
theorem hd_L_steps_1 : HD [((0 : Nat), (10 : Nat), (13 : Nat), (18 : Nat))] RL 1 5 13 := ⟨[], _, _, rfl, by decide, by decide, rfl, lkx_1, cst_1, fun _ h => absurd h List.not_mem_nil⟩
theorem hd_L_streak_1 : HD [((0 : Nat), (9 : Nat), (12 : Nat), (18 : Nat))] RL 1 4 12 := ⟨[], _, _, rfl, by decide, by decide, rfl, lkx_1, cst_1, fun _ h => absurd h List.not_mem_nil⟩
theorem hd_L_then_1 : HD [((0 : Nat), (10 : Nat), (13 : Nat), (18 : Nat)), ((0 : Nat), (10 : Nat), (17 : Nat), (13 : Nat))] RL 1 5 13 := ⟨[], _, _, rfl, by decide, by decide, rfl, lkx_1, cst_1, fun _ h => absurd h List.not_mem_nil⟩
theorem hd_L_then_2 : HD [((0 : Nat), (10 : Nat), (13 : Nat), (18 : Nat)), ((0 : Nat), (10 : Nat), (17 : Nat), (13 : Nat))] RL 2 5 17 := ⟨[_], _, _, rfl, by decide, by decide, rfl, lkx_2, cst_2, fun z h => by rw [List.mem_singleton] at h; subst h; exact ⟨by decide, lkx_1, rfl⟩⟩
theorem hd_L_toStand_1 : HD [((0 : Nat), (10 : Nat), (13 : Nat), (18 : Nat))] RL 1 5 13 := ⟨[], _, _, rfl, by decide, by decide, rfl, lkx_1, cst_1, fun _ h => absurd h List.not_mem_nil⟩
theorem hd_L_toSwish_1 : HD [((0 : Nat), (10 : Nat), (13 : Nat), (18 : Nat)), ((0 : Nat), (10 : Nat), (17 : Nat), (13 : Nat))] RL 1 5 13 := ⟨[], _, _, rfl, by decide, by decide, rfl, lkx_1, cst_1, fun _ h => absurd h List.not_mem_nil⟩
theorem hd_L_toSwish_2 : HD [((0 : Nat), (10 : Nat), (13 : Nat), (18 : Nat)), ((0 : Nat), (10 : Nat), (17 : Nat), (13 : Nat))] RL 2 5 17 := ⟨[_], _, _, rfl, by decide, by decide, rfl, lkx_2, cst_2, fun z h => by rw [List.mem_singleton] at h; subst h; exact ⟨by decide, lkx_1, rfl⟩⟩
theorem hd_L_way_1 : HD [((0 : Nat), (10 : Nat), (13 : Nat), (18 : Nat))] RL 1 5 13 := ⟨[], _, _, rfl, by decide, by decide, rfl, lkx_1, cst_1, fun _ h => absurd h List.not_mem_nil⟩
theorem ml_X11_85 : Cond.methodLink RX11 85 yX9_hasRoomFor ∈ lw_tbl := (im_8 (i := 1) rfl)
theorem ml_X11_89 : Cond.methodLink RX11 89 yX9_put ∈ lw_tbl := (im_8 (i := 4) rfl)
theorem ml_X11_99 : Cond.methodLink RX11 99 yX2_read ∈ lw_tbl := (im_11 (i := 54) rfl)
theorem ml_X11_103 : Cond.methodLink RX11 103 yX9_clear ∈ lw_tbl := (im_14 (i := 54) rfl)
theorem ml_X11_106 : Cond.methodLink RX11 106 yX2_faultPlace ∈ lw_tbl := (im_14 (i := 57) rfl)
theorem ml_X11_109 : Cond.methodLink RX11 109 yX4_refuse ∈ lw_tbl := (im_8 (i := 15) rfl)
theorem ml_X11_115 : Cond.methodLink RX11 115 yX1_copyFrom ∈ lw_tbl := (im_15 (i := 0) rfl)
theorem ml_X11_121 : Cond.methodLink RX11 121 yX4_begin ∈ lw_tbl := (im_15 (i := 7) rfl)
theorem ml_X11_128 : Cond.methodLink RX11 128 yX1_cells ∈ lw_tbl := (im_16 (i := 8) rfl)
theorem ml_X11_158 : Cond.methodLink RX11 158 yX8_allBlue ∈ lw_tbl := (im_16 (i := 9) rfl)
theorem ml_X11_173 : Cond.methodLink RX11 173 yX4_refused ∈ lw_tbl := (im_16 (i := 12) rfl)
theorem ml_X11_179 : Cond.methodLink RX11 179 yX11_needCell ∈ lw_tbl := (im_16 (i := 34) rfl)
theorem ml_X11_182 : Cond.methodLink RX11 182 yX8_blueOf ∈ lw_tbl := (im_16 (i := 36) rfl)
theorem ml_X11_185 : Cond.methodLink RX11 185 yX1_besideBits ∈ lw_tbl := (im_16 (i := 37) rfl)
theorem ml_X11_188 : Cond.methodLink RX11 188 yX8_girlsAt ∈ lw_tbl := (im_16 (i := 38) rfl)
theorem ml_X11_191 : Cond.methodLink RX11 191 yX8_patchBits ∈ lw_tbl := (im_16 (i := 41) rfl)
theorem ml_X11_195 : Cond.methodLink RX11 195 yX11_needGirl ∈ lw_tbl := (im_16 (i := 53) rfl)
theorem ml_X11_198 : Cond.methodLink RX11 198 yX8_skillOf ∈ lw_tbl := (im_16 (i := 55) rfl)
theorem ml_X11_201 : Cond.methodLink RX11 201 yX8_spotOf ∈ lw_tbl := (im_16 (i := 56) rfl)
theorem ml_X11_204 : Cond.methodLink RX11 204 yX1_isOld ∈ lw_tbl := (im_16 (i := 57) rfl)
theorem ml_X11_212 : Cond.methodLink RX11 212 yX8_dyeOf ∈ lw_tbl := (im_16 (i := 59) rfl)
theorem ml_X11_215 : Cond.methodLink RX11 215 yX11_refuseAct ∈ lw_tbl := (im_8 (i := 13) rfl)
theorem ml_X11_218 : Cond.methodLink RX11 218 yX4_keepAct ∈ lw_tbl := (im_8 (i := 18) rfl)
theorem ml_X11_221 : Cond.methodLink RX11 221 yX8_passDay ∈ lw_tbl := (im_8 (i := 31) rfl)
theorem ml_X11_224 : Cond.methodLink RX11 224 yX8_isResting ∈ lw_tbl := (im_10 (i := 28) rfl)
theorem ml_X11_227 : Cond.methodLink RX11 227 yX8_setResting ∈ lw_tbl := (im_10 (i := 31) rfl)
theorem ml_X11_231 : Cond.methodLink RX11 231 yX8_setSpot ∈ lw_tbl := (im_17 (i := 10) rfl)
theorem ml_X11_235 : Cond.methodLink RX11 235 yX8_addKnobs ∈ lw_tbl := (im_9 (i := 50) rfl)
theorem ml_X11_238 : Cond.methodLink RX11 238 yX8_isPegged ∈ lw_tbl := (im_17 (i := 16) rfl)
theorem ml_X11_241 : Cond.methodLink RX11 241 yX8_setPeg ∈ lw_tbl := (im_17 (i := 17) rfl)
theorem ml_X11_244 : Cond.methodLink RX11 244 yX0_takeBack ∈ lw_tbl := (im_9 (i := 56) rfl)
theorem ml_X11_248 : Cond.methodLink RX11 248 yX11_needWithin ∈ lw_tbl := (im_17 (i := 23) rfl)
theorem ml_X11_252 : Cond.methodLink RX11 252 yX11_lookAhead ∈ lw_tbl := (im_10 (i := 5) rfl)
theorem ml_X11_255 : Cond.methodLink RX11 255 yX11_needWhat ∈ lw_tbl := (im_17 (i := 30) rfl)
theorem ml_X11_258 : Cond.methodLink RX11 258 yX8_uneven ∈ lw_tbl := (im_10 (i := 19) rfl)
theorem ml_X11_261 : Cond.methodLink RX11 261 yX8_deepest ∈ lw_tbl := (im_17 (i := 32) rfl)
theorem ml_X11_264 : Cond.methodLink RX11 264 yX8_palest ∈ lw_tbl := (im_17 (i := 33) rfl)
theorem ml_X11_273 : Cond.methodLink RX11 273 yX8_rowBlue ∈ lw_tbl := (im_18 (i := 49) rfl)
theorem ml_X11_276 : Cond.methodLink RX11 276 yX8_isAsInTheMorning ∈ lw_tbl := (im_10 (i := 13) rfl)
theorem ml_X11_280 : Cond.methodLink RX11 280 yX8_runFrom ∈ lw_tbl := (im_17 (i := 49) rfl)
theorem ml_X11_283 : Cond.methodLink RX11 283 yX8_wayBetween ∈ lw_tbl := (im_18 (i := 7) rfl)
theorem ml_X11_286 : Cond.methodLink RX11 286 yX1_stepsBetween ∈ lw_tbl := (im_19 (i := 0) rfl)
theorem ml_X11_290 : Cond.methodLink RX11 290 yX11_lookAheadIfResting ∈ lw_tbl := (im_10 (i := 29) rfl)
theorem ml_X11_293 : Cond.methodLink RX11 293 yX8_swish ∈ lw_tbl := (im_18 (i := 21) rfl)
theorem ml_X11_296 : Cond.methodLink RX11 296 yJ6_bitCount_0f7a4 ∈ lw_tbl := (im_18 (i := 27) rfl)
theorem ml_X11_301 : Cond.methodLink RX11 301 yX7_find ∈ lw_tbl := (im_18 (i := 28) rfl)
theorem ml_X11_307 : Cond.methodLink RX11 307 yX7_girlFor ∈ lw_tbl := (im_18 (i := 41) rfl)
theorem ml_X11_310 : Cond.methodLink RX11 310 yX4_addSeen ∈ lw_tbl := (im_19 (i := 16) rfl)
theorem ml_X11_314 : Cond.methodLink RX11 314 yX11_wouldFit ∈ lw_tbl := (im_19 (i := 24) rfl)
theorem ml_X11_318 : Cond.methodLink RX11 318 yX11_clearBlues ∈ lw_tbl := (im_19 (i := 40) rfl)
theorem ml_X11_321 : Cond.methodLink RX11 321 yX11_gatherBlues ∈ lw_tbl := (im_19 (i := 42) rfl)
theorem ml_X11_324 : Cond.methodLink RX11 324 yX11_unlikeBlues ∈ lw_tbl := (im_19 (i := 44) rfl)
theorem ml_X11_327 : Cond.methodLink RX11 327 yX11_playAll ∈ lw_tbl := (im_19 (i := 56) rfl)
theorem ml_X11_330 : Cond.methodLink RX11 330 yX11_gainAt ∈ lw_tbl := (im_19 (i := 58) rfl)
theorem ml_X11_337 : Cond.methodLink RX11 337 yX11_drawAhead ∈ lw_tbl := (im_20 (i := 5) rfl)
theorem ml_X11_340 : Cond.methodLink RX11 340 yX4_copyFrom ∈ lw_tbl := (im_10 (i := 40) rfl)
theorem ml_X11_343 : Cond.methodLink RX11 343 yX8_copyFrom ∈ lw_tbl := (im_10 (i := 7) rfl)
theorem ml_X11_345 : Cond.methodLink RX11 345 yX8_setSkill ∈ lw_tbl := (im_19 (i := 26) rfl)
theorem ml_X11_348 : Cond.methodLink RX11 348 yX4_lastSeenDay ∈ lw_tbl := (im_19 (i := 27) rfl)
theorem ml_X11_351 : Cond.methodLink RX11 351 yX4_fitsSeen ∈ lw_tbl := (im_19 (i := 31) rfl)
theorem ml_X11_355 : Cond.methodLink RX11 355 yJ13_bitCount_95d88 ∈ lw_tbl := (im_19 (i := 46) rfl)
theorem ml_X11_360 : Cond.methodLink RX11 360 yX3_draw ∈ lw_tbl := (im_20 (i := 7) rfl)
theorem ml_X11_363 : Cond.methodLink RX11 363 yX8_addBlue ∈ lw_tbl := (im_20 (i := 11) rfl)
theorem ml_X0_27 : Cond.methodLink RX0 27 yX8_save ∈ lw_tbl := (im_8 (i := 27) rfl)
theorem ml_X0_31 : Cond.methodLink RX0 31 yX8_load ∈ lw_tbl := (im_9 (i := 59) rfl)
theorem ml_X1_25 : Cond.methodLink RX1 25 yX1_begin ∈ lw_tbl := (im_3 (i := 0) rfl)
theorem ml_X1_28 : Cond.methodLink RX1 28 yX1_shape ∈ lw_tbl := (im_3 (i := 3) rfl)
theorem ml_X1_45 : Cond.methodLink RX1 45 yX5_clear ∈ lw_tbl := (im_3 (i := 14) rfl)
theorem ml_X1_54 : Cond.methodLink RX1 54 yX1_cells ∈ lw_tbl := (im_3 (i := 6) rfl)
theorem ml_X1_58 : Cond.methodLink RX1 58 yX1_bitsBeside ∈ lw_tbl := (im_3 (i := 9) rfl)
theorem ml_X1_62 : Cond.methodLink RX1 62 yX1_columnOf ∈ lw_tbl := (im_3 (i := 11) rfl)
theorem ml_X1_65 : Cond.methodLink RX1 65 yX5_copyFrom ∈ lw_tbl := (im_15 (i := 3) rfl)
theorem ml_X1_69 : Cond.methodLink RX1 69 yX1_rowOf ∈ lw_tbl := (im_18 (i := 39) rfl)
theorem ml_X2_49 : Cond.methodLink RX2 49 yX1_begin ∈ lw_tbl := (im_11 (i := 57) rfl)
theorem ml_X2_52 : Cond.methodLink RX2 52 yX8_begin ∈ lw_tbl := (im_11 (i := 58) rfl)
theorem ml_X2_64 : Cond.methodLink RX2 64 yX10_begin ∈ lw_tbl := (im_11 (i := 59) rfl)
theorem ml_X2_70 : Cond.methodLink RX2 70 yX2_readLine ∈ lw_tbl := (im_13 (i := 9) rfl)
theorem ml_X2_82 : Cond.methodLink RX2 82 yX10_isWord ∈ lw_tbl := (im_13 (i := 11) rfl)
theorem ml_X2_86 : Cond.methodLink RX2 86 yX2_readSky ∈ lw_tbl := (im_13 (i := 34) rfl)
theorem ml_X2_91 : Cond.methodLink RX2 91 yX2_readBlue ∈ lw_tbl := (im_13 (i := 54) rfl)
theorem ml_X2_96 : Cond.methodLink RX2 96 yX2_readGirl ∈ lw_tbl := (im_14 (i := 0) rfl)
theorem ml_X2_104 : Cond.methodLink RX2 104 yX2_readPegs ∈ lw_tbl := (im_14 (i := 8) rfl)
theorem ml_X2_109 : Cond.methodLink RX2 109 yX2_readKnobs ∈ lw_tbl := (im_14 (i := 13) rfl)
theorem ml_X2_114 : Cond.methodLink RX2 114 yX2_readRinse ∈ lw_tbl := (im_14 (i := 15) rfl)
theorem ml_X2_119 : Cond.methodLink RX2 119 yX2_readBound ∈ lw_tbl := (im_14 (i := 17) rfl)
theorem ml_X2_123 : Cond.methodLink RX2 123 yX2_readRule ∈ lw_tbl := (im_14 (i := 19) rfl)
theorem ml_X2_131 : Cond.methodLink RX2 131 yX10_refuse ∈ lw_tbl := (im_13 (i := 36) rfl)
theorem ml_X2_135 : Cond.methodLink RX2 135 yX2_passesOnce ∈ lw_tbl := (im_13 (i := 39) rfl)
theorem ml_X2_138 : Cond.methodLink RX2 138 yX2_readNumber ∈ lw_tbl := (im_13 (i := 42) rfl)
theorem ml_X2_142 : Cond.methodLink RX2 142 yX1_shape ∈ lw_tbl := (im_13 (i := 49) rfl)
theorem ml_X2_146 : Cond.methodLink RX2 146 yX10_passes ∈ lw_tbl := (im_13 (i := 50) rfl)
theorem ml_X2_149 : Cond.methodLink RX2 149 yX10_advance ∈ lw_tbl := (im_13 (i := 41) rfl)
theorem ml_X2_152 : Cond.methodLink RX2 152 yX2_readCell ∈ lw_tbl := (im_13 (i := 56) rfl)
theorem ml_X2_156 : Cond.methodLink RX2 156 yX8_addBlue ∈ lw_tbl := (im_13 (i := 59) rfl)
theorem ml_X2_165 : Cond.methodLink RX2 165 yX8_setSkill ∈ lw_tbl := (im_14 (i := 2) rfl)
theorem ml_X2_168 : Cond.methodLink RX2 168 yX8_setSpot ∈ lw_tbl := (im_14 (i := 5) rfl)
theorem ml_X2_174 : Cond.methodLink RX2 174 yX8_setPeg ∈ lw_tbl := (im_14 (i := 10) rfl)
theorem ml_X2_184 : Cond.methodLink RX2 184 yX6_begin ∈ lw_tbl := (im_14 (i := 21) rfl)
theorem mln_X2_187 : ∃ host, Cond.methodLinkNest RX2 187 yX6_readExpr host ∈ lw_tbl := ⟨"BlueBag", (im_14 (i := 25) rfl)⟩
theorem ml_X2_190 : Cond.methodLink RX2 190 yX2_refuseNumber ∈ lw_tbl := (im_13 (i := 44) rfl)
theorem ml_X2_196 : Cond.methodLink RX2 196 yX10_isTooLong ∈ lw_tbl := (im_13 (i := 46) rfl)
theorem ml_X2_199 : Cond.methodLink RX2 199 yX1_cells ∈ lw_tbl := (im_13 (i := 58) rfl)
theorem ml_X4_40 : Cond.methodLink RX4 40 yX8_copyFrom ∈ lw_tbl := (im_10 (i := 43) rfl)
theorem ml_X4_44 : Cond.methodLink RX4 44 yX0_clear ∈ lw_tbl := (im_15 (i := 10) rfl)
theorem ml_X4_51 : Cond.methodLink RX4 51 yX0_copyFrom ∈ lw_tbl := (im_10 (i := 44) rfl)
theorem ml_X4_60 : Cond.methodLink RX4 60 yX0_keep ∈ lw_tbl := (im_8 (i := 21) rfl)
theorem ml_X4_69 : Cond.methodLink RX4 69 yX8_blueOf ∈ lw_tbl := (im_19 (i := 34) rfl)
theorem ml_X5_22 : Cond.methodLink RX5 22 yX5_put ∈ lw_tbl := (im_14 (i := 51) rfl)
theorem ml_X5_32 : Cond.methodLink RX5 32 yX5_joined ∈ lw_tbl := (im_9 (i := 17) rfl)
theorem ml_X6_23 : Cond.methodLink RX6 23 yX5_clear ∈ lw_tbl := (im_14 (i := 24) rfl)
theorem ml_X6_34 : Cond.methodLink RX6 34 yX10_refuse ∈ lw_tbl := (im_14 (i := 27) rfl)
theorem ml_X6_38 : Cond.methodLink RX6 38 yX6_readAnd ∈ lw_tbl := (im_14 (i := 28) rfl)
theorem ml_X6_43 : Cond.methodLink RX6 43 yX10_isWord ∈ lw_tbl := (im_14 (i := 32) rfl)
theorem ml_X6_47 : Cond.methodLink RX6 47 yX10_advance ∈ lw_tbl := (im_14 (i := 33) rfl)
theorem ml_X6_50 : Cond.methodLink RX6 50 yX5_put ∈ lw_tbl := (im_14 (i := 43) rfl)
theorem ml_X6_54 : Cond.methodLink RX6 54 yX6_readNot ∈ lw_tbl := (im_14 (i := 30) rfl)
theorem ml_X6_61 : Cond.methodLink RX6 61 yX6_readTest ∈ lw_tbl := (im_14 (i := 34) rfl)
theorem ml_X6_64 : Cond.methodLink RX6 64 yX6_readSum ∈ lw_tbl := (im_14 (i := 36) rfl)
theorem ml_X6_67 : Cond.methodLink RX6 67 yX6_readProduct ∈ lw_tbl := (im_14 (i := 38) rfl)
theorem ml_X6_70 : Cond.methodLink RX6 70 yX6_readPart ∈ lw_tbl := (im_14 (i := 40) rfl)
theorem ml_X6_73 : Cond.methodLink RX6 73 yX10_isTooLong ∈ lw_tbl := (im_14 (i := 42) rfl)
theorem ml_X6_80 : Cond.methodLink RX6 80 yX6_valueHere ∈ lw_tbl := (im_14 (i := 46) rfl)
theorem ml_X6_84 : Cond.methodLink RX6 84 yX5_putValue ∈ lw_tbl := (im_14 (i := 48) rfl)
theorem ml_X6_87 : Cond.methodLink RX6 87 yX6_readExpr ∈ lw_tbl := (im_14 (i := 52) rfl)
theorem ml_X6_90 : Cond.methodLink RX6 90 yX10_passes ∈ lw_tbl := (im_14 (i := 53) rfl)
theorem ml_X7_44 : Cond.methodLink RX7 44 yX7_fill ∈ lw_tbl := (im_18 (i := 32) rfl)
theorem ml_X7_54 : Cond.methodLink RX7 54 yX8_spotOf ∈ lw_tbl := (im_18 (i := 35) rfl)
theorem ml_X7_58 : Cond.methodLink RX7 58 yX1_stepsBetween ∈ lw_tbl := (im_18 (i := 36) rfl)
theorem ml_X8_36 : Cond.methodLink RX8 36 yX8_begin ∈ lw_tbl := (im_4 (i := 4) rfl)
theorem ml_X8_70 : Cond.methodLink RX8 70 yX8_isPegged ∈ lw_tbl := (im_9 (i := 26) rfl)
theorem ml_X8_79 : Cond.methodLink RX8 79 yX8_isResting ∈ lw_tbl := (im_8 (i := 34) rfl)
theorem ml_X8_82 : Cond.methodLink RX8 82 yX8_swish ∈ lw_tbl := (im_8 (i := 37) rfl)
theorem ml_X8_86 : Cond.methodLink RX8 86 yX8_markOverdone ∈ lw_tbl := (im_9 (i := 36) rfl)
theorem ml_X8_95 : Cond.methodLink RX8 95 yX8_fade ∈ lw_tbl := (im_9 (i := 43) rfl)
theorem ml_X8_101 : Cond.methodLink RX8 101 yJ6_bitCount_0f7a4 ∈ lw_tbl := (im_9 (i := 38) rfl)
theorem ml_X8_107 : Cond.methodLink RX8 107 yX8_fadeOf ∈ lw_tbl := (im_9 (i := 45) rfl)
theorem ml_X8_114 : Cond.methodLink RX8 114 yX5_isTold ∈ lw_tbl := (im_8 (i := 43) rfl)
theorem ml_X8_118 : Cond.methodLink RX8 118 yX8_blueOf ∈ lw_tbl := (im_9 (i := 8) rfl)
theorem ml_X8_121 : Cond.methodLink RX8 121 yX8_setValues ∈ lw_tbl := (im_9 (i := 3) rfl)
theorem ml_X8_125 : Cond.methodLink RX8 125 yX5_worth ∈ lw_tbl := (im_9 (i := 14) rfl)
theorem ml_X8_129 : Cond.methodLink RX8 129 yX8_dyeOf ∈ lw_tbl := (im_8 (i := 40) rfl)
theorem ml_X8_132 : Cond.methodLink RX8 132 yX8_spotOf ∈ lw_tbl := (im_9 (i := 0) rfl)
theorem ml_X8_135 : Cond.methodLink RX8 135 yX8_addBlue ∈ lw_tbl := (im_9 (i := 23) rfl)
theorem ml_X8_138 : Cond.methodLink RX8 138 yX1_isOld ∈ lw_tbl := (im_9 (i := 29) rfl)
theorem ml_X8_141 : Cond.methodLink RX8 141 yX8_drip ∈ lw_tbl := (im_9 (i := 32) rfl)
theorem ml_X8_144 : Cond.methodLink RX8 144 yX1_besideBits ∈ lw_tbl := (im_9 (i := 5) rfl)
theorem ml_X8_147 : Cond.methodLink RX8 147 yX1_cells ∈ lw_tbl := (im_9 (i := 34) rfl)
theorem ml_X8_151 : Cond.methodLink RX8 151 yX1_columnOf ∈ lw_tbl := (im_9 (i := 35) rfl)
theorem ml_X8_157 : Cond.methodLink RX8 157 yX8_skillOf ∈ lw_tbl := (im_8 (i := 46) rfl)
theorem ml_X8_160 : Cond.methodLink RX8 160 yX1_rowOf ∈ lw_tbl := (im_9 (i := 11) rfl)
theorem ml_X8_163 : Cond.methodLink RX8 163 yX8_deepest ∈ lw_tbl := (im_10 (i := 22) rfl)
theorem ml_X8_166 : Cond.methodLink RX8 166 yX8_palest ∈ lw_tbl := (im_10 (i := 25) rfl)
theorem ml_X8_169 : Cond.methodLink RX8 169 yX8_besideWithin ∈ lw_tbl := (im_16 (i := 44) rfl)
theorem ml_X10_28 : Cond.methodLink RX10 28 yX10_advance ∈ lw_tbl := (im_12 (i := 2) rfl)
theorem ml_X10_34 : Cond.methodLink RX10 34 yX9_byteAt ∈ lw_tbl := (im_13 (i := 0) rfl)
theorem ml_X10_40 : Cond.methodLink RX10 40 yX10_isBlank ∈ lw_tbl := (im_13 (i := 3) rfl)
theorem ml_X10_50 : Cond.methodLink RX10 50 yX10_isLetter ∈ lw_tbl := (im_13 (i := 5) rfl)
theorem ml_X10_53 : Cond.methodLink RX10 53 yX10_isDigit ∈ lw_tbl := (im_13 (i := 7) rfl)
theorem ml_X10_66 : Cond.methodLink RX10 66 yX10_refuse ∈ lw_tbl := (im_13 (i := 53) rfl)
theorem ml_L_7 : Cond.methodLink RL 7 yX11_coast ∈ lw_tbl := (im_10 (i := 54) rfl)
theorem ml_L_15 : Cond.methodLink RL 15 yX11_count ∈ lw_tbl := (im_16 (i := 5) rfl)
theorem ml_L_20 : Cond.methodLink RL 20 yX11_cell ∈ lw_tbl := (im_16 (i := 31) rfl)
theorem ml_L_24 : Cond.methodLink RL 24 yX11_girl ∈ lw_tbl := (im_16 (i := 50) rfl)
theorem ml_L_27 : Cond.methodLink RL 27 yX11_rest ∈ lw_tbl := (im_17 (i := 2) rfl)
theorem ml_L_31 : Cond.methodLink RL 31 yX11_go ∈ lw_tbl := (im_17 (i := 7) rfl)
theorem ml_L_34 : Cond.methodLink RL 34 yX11_peg ∈ lw_tbl := (im_17 (i := 13) rfl)
theorem ml_L_38 : Cond.methodLink RL 38 yX11_then ∈ lw_tbl := (im_17 (i := 20) rfl)
theorem ml_L_41 : Cond.methodLink RL 41 yX11_sky ∈ lw_tbl := (im_17 (i := 27) rfl)
theorem ml_L_44 : Cond.methodLink RL 44 yX11_overdone ∈ lw_tbl := (im_17 (i := 36) rfl)
theorem ml_L_47 : Cond.methodLink RL 47 yX11_first ∈ lw_tbl := (im_17 (i := 41) rfl)
theorem ml_L_50 : Cond.methodLink RL 50 yX11_streak ∈ lw_tbl := (im_17 (i := 46) rfl)
theorem ml_L_53 : Cond.methodLink RL 53 yX11_patch ∈ lw_tbl := (im_17 (i := 54) rfl)
theorem ml_L_56 : Cond.methodLink RL 56 yX11_patches ∈ lw_tbl := (im_17 (i := 59) rfl)
theorem ml_L_59 : Cond.methodLink RL 59 yX11_way ∈ lw_tbl := (im_18 (i := 4) rfl)
theorem ml_L_62 : Cond.methodLink RL 62 yX11_toStand ∈ lw_tbl := (im_18 (i := 12) rfl)
theorem ml_L_65 : Cond.methodLink RL 65 yX11_toSwish ∈ lw_tbl := (im_18 (i := 18) rfl)
theorem ml_L_68 : Cond.methodLink RL 68 yX11_sent ∈ lw_tbl := (im_18 (i := 24) rfl)
theorem ml_L_71 : Cond.methodLink RL 71 yX11_band ∈ lw_tbl := (im_18 (i := 46) rfl)
theorem ml_L_74 : Cond.methodLink RL 74 yX11_steps ∈ lw_tbl := (im_18 (i := 54) rfl)
theorem ml_L_77 : Cond.methodLink RL 77 yX11_nearest ∈ lw_tbl := (im_19 (i := 3) rfl)
theorem ml_L_80 : Cond.methodLink RL 80 yX11_missed ∈ lw_tbl := (im_19 (i := 8) rfl)
theorem ml_L_83 : Cond.methodLink RL 83 yX11_see ∈ lw_tbl := (im_19 (i := 13) rfl)
theorem ml_L_87 : Cond.methodLink RL 87 yX11_skilled ∈ lw_tbl := (im_19 (i := 21) rfl)
theorem ml_L_90 : Cond.methodLink RL 90 yX11_look ∈ lw_tbl := (im_19 (i := 37) rfl)
theorem ml_L_93 : Cond.methodLink RL 93 yX11_game ∈ lw_tbl := (im_19 (i := 53) rfl)
theorem ml_L_96 : Cond.methodLink RL 96 yX11_skies ∈ lw_tbl := (im_20 (i := 2) rfl)
theorem ml_L_103 : Cond.methodLink RL 103 yX11_feed ∈ lw_tbl := (im_7 (i := 58) rfl)
theorem ml_L_107 : Cond.methodLink RL 107 yX12_feed ∈ lw_tbl := (im_22 (i := 38) rfl)
theorem ml_L_108 : Cond.methodLink RL 108 yL_coast ∈ lw_tbl := (im_10 (i := 51) rfl)
theorem ml_L_113 : Cond.methodLink RL 113 yX12_coast ∈ lw_tbl := (im_22 (i := 41) rfl)
theorem ml_L_114 : Cond.methodLink RL 114 yX11_fault ∈ lw_tbl := (im_8 (i := 7) rfl)
theorem ml_L_118 : Cond.methodLink RL 118 yX12_fault ∈ lw_tbl := (im_23 (i := 50) rfl)
theorem ml_L_119 : Cond.methodLink RL 119 yL_count ∈ lw_tbl := (im_16 (i := 2) rfl)
theorem ml_L_121 : Cond.methodLink RL 121 yX12_count ∈ lw_tbl := (im_23 (i := 53) rfl)
theorem ml_L_122 : Cond.methodLink RL 122 yL_cell ∈ lw_tbl := (im_16 (i := 29) rfl)
theorem ml_L_125 : Cond.methodLink RL 125 yX12_cell ∈ lw_tbl := (im_24 (i := 0) rfl)
theorem ml_L_126 : Cond.methodLink RL 126 yL_girl ∈ lw_tbl := (im_16 (i := 48) rfl)
theorem ml_L_128 : Cond.methodLink RL 128 yX12_girl ∈ lw_tbl := (im_25 (i := 16) rfl)
theorem ml_L_129 : Cond.methodLink RL 129 yX11_days ∈ lw_tbl := (im_8 (i := 10) rfl)
theorem ml_L_132 : Cond.methodLink RL 132 yX12_days ∈ lw_tbl := (im_25 (i := 32) rfl)
theorem ml_L_133 : Cond.methodLink RL 133 yL_rest ∈ lw_tbl := (im_17 (i := 0) rfl)
theorem ml_L_136 : Cond.methodLink RL 136 yX12_rest ∈ lw_tbl := (im_25 (i := 54) rfl)
theorem ml_L_137 : Cond.methodLink RL 137 yL_go ∈ lw_tbl := (im_17 (i := 5) rfl)
theorem ml_L_139 : Cond.methodLink RL 139 yX12_go ∈ lw_tbl := (im_25 (i := 59) rfl)
theorem ml_L_140 : Cond.methodLink RL 140 yX11_bag ∈ lw_tbl := (im_9 (i := 47) rfl)
theorem ml_L_143 : Cond.methodLink RL 143 yX12_bag ∈ lw_tbl := (im_26 (i := 2) rfl)
theorem ml_L_144 : Cond.methodLink RL 144 yL_peg ∈ lw_tbl := (im_17 (i := 11) rfl)
theorem ml_L_146 : Cond.methodLink RL 146 yX12_peg ∈ lw_tbl := (im_26 (i := 6) rfl)
theorem ml_L_147 : Cond.methodLink RL 147 yX11_undo ∈ lw_tbl := (im_9 (i := 53) rfl)
theorem ml_L_150 : Cond.methodLink RL 150 yX12_undo ∈ lw_tbl := (im_26 (i := 9) rfl)
theorem ml_L_151 : Cond.methodLink RL 151 yL_then ∈ lw_tbl := (im_17 (i := 18) rfl)
theorem ml_L_153 : Cond.methodLink RL 153 yX12_then ∈ lw_tbl := (im_26 (i := 14) rfl)
theorem ml_L_154 : Cond.methodLink RL 154 yL_sky ∈ lw_tbl := (im_17 (i := 25) rfl)
theorem ml_L_156 : Cond.methodLink RL 156 yX12_sky ∈ lw_tbl := (im_26 (i := 18) rfl)
theorem ml_L_157 : Cond.methodLink RL 157 yL_overdone ∈ lw_tbl := (im_17 (i := 34) rfl)
theorem ml_L_159 : Cond.methodLink RL 159 yX12_overdone ∈ lw_tbl := (im_26 (i := 26) rfl)
theorem ml_L_160 : Cond.methodLink RL 160 yL_first ∈ lw_tbl := (im_17 (i := 39) rfl)
theorem ml_L_162 : Cond.methodLink RL 162 yX12_first ∈ lw_tbl := (im_26 (i := 29) rfl)
theorem ml_L_163 : Cond.methodLink RL 163 yX11_spent ∈ lw_tbl := (im_10 (i := 2) rfl)
theorem ml_L_166 : Cond.methodLink RL 166 yX12_spent ∈ lw_tbl := (im_26 (i := 32) rfl)
theorem ml_L_167 : Cond.methodLink RL 167 yL_streak ∈ lw_tbl := (im_17 (i := 44) rfl)
theorem ml_L_169 : Cond.methodLink RL 169 yX12_streak ∈ lw_tbl := (im_26 (i := 43) rfl)
theorem ml_L_170 : Cond.methodLink RL 170 yL_patch ∈ lw_tbl := (im_17 (i := 52) rfl)
theorem ml_L_172 : Cond.methodLink RL 172 yX12_patch ∈ lw_tbl := (im_26 (i := 48) rfl)
theorem ml_L_173 : Cond.methodLink RL 173 yL_patches ∈ lw_tbl := (im_17 (i := 57) rfl)
theorem ml_L_175 : Cond.methodLink RL 175 yX12_patches ∈ lw_tbl := (im_26 (i := 52) rfl)
theorem ml_L_176 : Cond.methodLink RL 176 yL_way ∈ lw_tbl := (im_18 (i := 2) rfl)
theorem ml_L_178 : Cond.methodLink RL 178 yX12_way ∈ lw_tbl := (im_26 (i := 55) rfl)
theorem ml_L_179 : Cond.methodLink RL 179 yX11_toRest ∈ lw_tbl := (im_10 (i := 16) rfl)
theorem ml_L_182 : Cond.methodLink RL 182 yX12_toRest ∈ lw_tbl := (im_26 (i := 58) rfl)
theorem ml_L_183 : Cond.methodLink RL 183 yL_toStand ∈ lw_tbl := (im_18 (i := 10) rfl)
theorem ml_L_185 : Cond.methodLink RL 185 yX12_toStand ∈ lw_tbl := (im_27 (i := 3) rfl)
theorem ml_L_186 : Cond.methodLink RL 186 yL_toSwish ∈ lw_tbl := (im_18 (i := 16) rfl)
theorem ml_L_188 : Cond.methodLink RL 188 yX12_toSwish ∈ lw_tbl := (im_27 (i := 6) rfl)
theorem ml_L_189 : Cond.methodLink RL 189 yL_sent ∈ lw_tbl := (im_18 (i := 22) rfl)
theorem ml_L_191 : Cond.methodLink RL 191 yX12_sent ∈ lw_tbl := (im_27 (i := 18) rfl)
theorem ml_L_192 : Cond.methodLink RL 192 yL_band ∈ lw_tbl := (im_18 (i := 44) rfl)
theorem ml_L_194 : Cond.methodLink RL 194 yX12_band ∈ lw_tbl := (im_26 (i := 35) rfl)
theorem ml_L_195 : Cond.methodLink RL 195 yX11_steady ∈ lw_tbl := (im_10 (i := 10) rfl)
theorem ml_L_198 : Cond.methodLink RL 198 yX12_steady ∈ lw_tbl := (im_26 (i := 38) rfl)
theorem ml_L_199 : Cond.methodLink RL 199 yL_steps ∈ lw_tbl := (im_18 (i := 52) rfl)
theorem ml_L_201 : Cond.methodLink RL 201 yX12_steps ∈ lw_tbl := (im_27 (i := 12) rfl)
theorem ml_L_202 : Cond.methodLink RL 202 yL_nearest ∈ lw_tbl := (im_19 (i := 1) rfl)
theorem ml_L_204 : Cond.methodLink RL 204 yX12_nearest ∈ lw_tbl := (im_27 (i := 15) rfl)
theorem ml_L_205 : Cond.methodLink RL 205 yL_missed ∈ lw_tbl := (im_19 (i := 6) rfl)
theorem ml_L_207 : Cond.methodLink RL 207 yX12_missed ∈ lw_tbl := (im_27 (i := 9) rfl)
theorem ml_L_208 : Cond.methodLink RL 208 yL_see ∈ lw_tbl := (im_19 (i := 11) rfl)
theorem ml_L_211 : Cond.methodLink RL 211 yX12_see ∈ lw_tbl := (im_27 (i := 25) rfl)
theorem ml_L_212 : Cond.methodLink RL 212 yL_skilled ∈ lw_tbl := (im_19 (i := 19) rfl)
theorem ml_L_214 : Cond.methodLink RL 214 yX12_skilled ∈ lw_tbl := (im_27 (i := 28) rfl)
theorem ml_L_215 : Cond.methodLink RL 215 yL_look ∈ lw_tbl := (im_19 (i := 35) rfl)
theorem ml_L_217 : Cond.methodLink RL 217 yX12_look ∈ lw_tbl := (im_28 (i := 3) rfl)
theorem ml_L_218 : Cond.methodLink RL 218 yX11_forget ∈ lw_tbl := (im_10 (i := 34) rfl)
theorem ml_L_221 : Cond.methodLink RL 221 yX12_forget ∈ lw_tbl := (im_28 (i := 8) rfl)
theorem ml_L_222 : Cond.methodLink RL 222 yL_game ∈ lw_tbl := (im_19 (i := 51) rfl)
theorem ml_L_224 : Cond.methodLink RL 224 yX12_game ∈ lw_tbl := (im_28 (i := 11) rfl)
theorem ml_L_225 : Cond.methodLink RL 225 yL_skies ∈ lw_tbl := (im_20 (i := 0) rfl)
theorem ml_L_227 : Cond.methodLink RL 227 yX12_skies ∈ lw_tbl := (im_28 (i := 16) rfl)
theorem ml_L_228 : Cond.methodLink RL 228 yX11_image ∈ lw_tbl := (im_10 (i := 37) rfl)
theorem ml_L_231 : Cond.methodLink RL 231 yX12_image ∈ lw_tbl := (im_28 (i := 24) rfl)
theorem ml_L_232 : Cond.methodLink RL 232 yX11_restore ∈ lw_tbl := (im_10 (i := 48) rfl)
theorem ml_L_236 : Cond.methodLink RL 236 yX12_restore ∈ lw_tbl := (im_28 (i := 27) rfl)
theorem ml_X12_143 : Cond.methodLink RX12 143 yX12_begin ∈ lw_tbl := (im_20 (i := 19) rfl)
theorem ml_X12_153 : Cond.methodLink RX12 153 yX12_cells ∈ lw_tbl := (im_23 (i := 56) rfl)
theorem ml_X12_157 : Cond.methodLink RX12 157 yX12_isIn ∈ lw_tbl := (im_25 (i := 1) rfl)
theorem ml_X12_170 : Cond.methodLink RX12 170 yX12_byteAt ∈ lw_tbl := (im_22 (i := 48) rfl)
theorem ml_X12_180 : Cond.methodLink RX12 180 yX12_isLetter ∈ lw_tbl := (im_22 (i := 50) rfl)
theorem ml_X12_184 : Cond.methodLink RX12 184 yX12_isDigit ∈ lw_tbl := (im_22 (i := 52) rfl)
theorem ml_X12_197 : Cond.methodLink RX12 197 yX12_isMark ∈ lw_tbl := (im_22 (i := 56) rfl)
theorem ml_X12_216 : Cond.methodLink RX12 216 yX12_is ∈ lw_tbl := (im_23 (i := 2) rfl)
theorem ml_X12_220 : Cond.methodLink RX12 220 yX12_isMarked ∈ lw_tbl := (im_23 (i := 20) rfl)
theorem ml_X12_223 : Cond.methodLink RX12 223 yX12_wrong ∈ lw_tbl := (im_23 (i := 6) rfl)
theorem ml_X12_226 : Cond.methodLink RX12 226 yX12_stepOn ∈ lw_tbl := (im_22 (i := 46) rfl)
theorem ml_X12_229 : Cond.methodLink RX12 229 yX12_numberNow ∈ lw_tbl := (im_23 (i := 14) rfl)
theorem ml_X12_232 : Cond.methodLink RX12 232 yX12_isOf ∈ lw_tbl := (im_23 (i := 40) rfl)
theorem ml_X12_243 : Cond.methodLink RX12 243 yX12_readNumber ∈ lw_tbl := (im_23 (i := 12) rfl)
theorem ml_X12_246 : Cond.methodLink RX12 246 yX12_lay ∈ lw_tbl := (im_23 (i := 32) rfl)
theorem ml_X12_249 : Cond.methodLink RX12 249 yX12_which ∈ lw_tbl := (im_23 (i := 0) rfl)
theorem ml_X12_253 : Cond.methodLink RX12 253 yX12_mark ∈ lw_tbl := (im_23 (i := 34) rfl)
theorem ml_X12_256 : Cond.methodLink RX12 256 yX12_readExpression ∈ lw_tbl := (im_23 (i := 18) rfl)
theorem ml_X12_259 : Cond.methodLink RX12 259 yX12_readPart ∈ lw_tbl := (im_23 (i := 30) rfl)
theorem ml_X12_262 : Cond.methodLink RX12 262 yX12_readProduct ∈ lw_tbl := (im_23 (i := 28) rfl)
theorem ml_X12_267 : Cond.methodLink RX12 267 yX12_readSum ∈ lw_tbl := (im_23 (i := 26) rfl)
theorem ml_X12_270 : Cond.methodLink RX12 270 yX12_readNot ∈ lw_tbl := (im_23 (i := 24) rfl)
theorem ml_X12_275 : Cond.methodLink RX12 275 yX12_readAnd ∈ lw_tbl := (im_23 (i := 22) rfl)
theorem ml_X12_283 : Cond.methodLink RX12 283 yX12_cellNow ∈ lw_tbl := (im_23 (i := 38) rfl)
theorem ml_X12_286 : Cond.methodLink RX12 286 yX12_saySky ∈ lw_tbl := (im_23 (i := 10) rfl)
theorem ml_X12_289 : Cond.methodLink RX12 289 yX12_sayRule ∈ lw_tbl := (im_23 (i := 16) rfl)
theorem ml_X12_304 : Cond.methodLink RX12 304 yX12_sayOnce ∈ lw_tbl := (im_23 (i := 8) rfl)
theorem ml_X12_307 : Cond.methodLink RX12 307 yX12_sayWoman ∈ lw_tbl := (im_23 (i := 36) rfl)
theorem ml_X12_310 : Cond.methodLink RX12 310 yX12_sayBlue ∈ lw_tbl := (im_23 (i := 42) rfl)
theorem ml_X12_315 : Cond.methodLink RX12 315 yX12_sayPegs ∈ lw_tbl := (im_23 (i := 44) rfl)
theorem ml_X12_318 : Cond.methodLink RX12 318 yX12_fail ∈ lw_tbl := (im_22 (i := 44) rfl)
theorem ml_X12_321 : Cond.methodLink RX12 321 yX12_readLine ∈ lw_tbl := (im_22 (i := 58) rfl)
theorem ml_X12_324 : Cond.methodLink RX12 324 yX12_takeOver ∈ lw_tbl := (im_23 (i := 46) rfl)
theorem ml_X12_327 : Cond.methodLink RX12 327 yX12_takeHalf ∈ lw_tbl := (im_23 (i := 48) rfl)
theorem ml_X12_351 : Cond.methodLink RX12 351 yX12_columnOf ∈ lw_tbl := (im_25 (i := 7) rfl)
theorem ml_X12_357 : Cond.methodLink RX12 357 yX12_rowOf ∈ lw_tbl := (im_25 (i := 10) rfl)
theorem ml_X12_360 : Cond.methodLink RX12 360 yX12_farOf ∈ lw_tbl := (im_25 (i := 5) rfl)
theorem ml_X12_363 : Cond.methodLink RX12 363 yX12_besideOf ∈ lw_tbl := (im_25 (i := 3) rfl)
theorem ml_X12_366 : Cond.methodLink RX12 366 yX12_reckon ∈ lw_tbl := (im_25 (i := 30) rfl)
theorem ml_X12_370 : Cond.methodLink RX12 370 yX12_blueBeside ∈ lw_tbl := (im_25 (i := 26) rfl)
theorem ml_X12_373 : Cond.methodLink RX12 373 yX12_ask ∈ lw_tbl := (im_25 (i := 24) rfl)
theorem ml_X12_376 : Cond.methodLink RX12 376 yX12_valueNow ∈ lw_tbl := (im_25 (i := 28) rfl)
theorem ml_X12_383 : Cond.methodLink RX12 383 yX12_dyesOf ∈ lw_tbl := (im_25 (i := 22) rfl)
theorem ml_X12_386 : Cond.methodLink RX12 386 yX12_dye ∈ lw_tbl := (im_25 (i := 48) rfl)
theorem ml_X12_390 : Cond.methodLink RX12 390 yX12_swish ∈ lw_tbl := (im_25 (i := 46) rfl)
theorem ml_X12_396 : Cond.methodLink RX12 396 yX12_bitsOf ∈ lw_tbl := (im_25 (i := 50) rfl)
theorem ml_X12_399 : Cond.methodLink RX12 399 yX12_fadesOf ∈ lw_tbl := (im_25 (i := 52) rfl)
theorem ml_X12_402 : Cond.methodLink RX12 402 yX12_aDay ∈ lw_tbl := (im_25 (i := 44) rfl)
theorem ml_X12_405 : Cond.methodLink RX12 405 yX12_allBlue ∈ lw_tbl := (im_23 (i := 58) rfl)
theorem ml_X12_408 : Cond.methodLink RX12 408 yX12_isCell ∈ lw_tbl := (im_24 (i := 3) rfl)
theorem ml_X12_411 : Cond.methodLink RX12 411 yX12_girlsAt ∈ lw_tbl := (im_25 (i := 12) rfl)
theorem ml_X12_414 : Cond.methodLink RX12 414 yX12_patchOf ∈ lw_tbl := (im_25 (i := 14) rfl)
theorem ml_X12_417 : Cond.methodLink RX12 417 yX12_isGirl ∈ lw_tbl := (im_25 (i := 19) rfl)
theorem ml_X12_420 : Cond.methodLink RX12 420 yX12_pack ∈ lw_tbl := (im_25 (i := 40) rfl)
theorem ml_X12_426 : Cond.methodLink RX12 426 yX12_refuse ∈ lw_tbl := (im_25 (i := 36) rfl)
theorem ml_X12_429 : Cond.methodLink RX12 429 yX12_keep ∈ lw_tbl := (im_25 (i := 38) rfl)
theorem ml_X12_432 : Cond.methodLink RX12 432 yX12_goOn ∈ lw_tbl := (im_25 (i := 42) rfl)
theorem ml_X12_435 : Cond.methodLink RX12 435 yX12_failing ∈ lw_tbl := (im_25 (i := 57) rfl)
theorem ml_X12_440 : Cond.methodLink RX12 440 yX12_unpack ∈ lw_tbl := (im_26 (i := 12) rfl)
theorem ml_X12_445 : Cond.methodLink RX12 445 yX12_extreme ∈ lw_tbl := (im_26 (i := 24) rfl)
theorem ml_X12_451 : Cond.methodLink RX12 451 yX12_uneven ∈ lw_tbl := (im_26 (i := 22) rfl)
theorem ml_X12_454 : Cond.methodLink RX12 454 yX12_copyTo ∈ lw_tbl := (im_26 (i := 41) rfl)
theorem ml_X12_458 : Cond.methodLink RX12 458 yX12_streakFrom ∈ lw_tbl := (im_26 (i := 46) rfl)
theorem ml_X12_463 : Cond.methodLink RX12 463 yX12_unevenNext ∈ lw_tbl := (im_27 (i := 1) rfl)
theorem ml_X12_466 : Cond.methodLink RX12 466 yX12_with ∈ lw_tbl := (im_27 (i := 23) rfl)
theorem ml_X12_469 : Cond.methodLink RX12 469 yX12_tellLeast ∈ lw_tbl := (im_27 (i := 21) rfl)
theorem ml_X12_475 : Cond.methodLink RX12 475 yX12_isAsSeen ∈ lw_tbl := (im_27 (i := 32) rfl)
theorem ml_X12_481 : Cond.methodLink RX12 481 yX12_tellFits ∈ lw_tbl := (im_28 (i := 1) rfl)
theorem ml_X12_484 : Cond.methodLink RX12 484 yX12_unlike ∈ lw_tbl := (im_28 (i := 6) rfl)
theorem ml_X12_487 : Cond.methodLink RX12 487 yX12_tellGains ∈ lw_tbl := (im_28 (i := 14) rfl)
theorem ml_X12_494 : Cond.methodLink RX12 494 yX12_drawOf ∈ lw_tbl := (im_28 (i := 21) rfl)
theorem ml_X12_497 : Cond.methodLink RX12 497 yX12_something ∈ lw_tbl := (im_28 (i := 19) rfl)
theorem mt_X11_207 : ∀ w ∈ [Cond.methodLink RX11 207 Lib.Math.max.name, Cond.static Lib.Math.max.name, Cond.initialized "java/lang/Math", Cond.code Lib.Math.max.name Lib.Math.max.code 2 (some .int)], w ∈ lw_tbl := List.forall_mem_cons.mpr ⟨(im_16 (i := 58) rfl), List.forall_mem_cons.mpr ⟨(im_9 (i := 22) rfl), List.forall_mem_cons.mpr ⟨(im_2 (i := 21) rfl), List.forall_mem_cons.mpr ⟨cw_620, fun _ h => absurd h List.not_mem_nil⟩⟩⟩⟩
theorem mt_X0_21 : ∀ w ∈ [Cond.methodLink RX0 21 arraycopyName, Cond.native arraycopyName, Cond.static arraycopyName, Cond.initialized "java/lang/System"], w ∈ lw_tbl := List.forall_mem_cons.mpr ⟨(im_8 (i := 24) rfl), List.forall_mem_cons.mpr ⟨(im_8 (i := 26) rfl), List.forall_mem_cons.mpr ⟨(im_8 (i := 25) rfl), List.forall_mem_cons.mpr ⟨(im_2 (i := 22) rfl), fun _ h => absurd h List.not_mem_nil⟩⟩⟩⟩
theorem mt_X1_72 : ∀ w ∈ [Cond.methodLink RX1 72 Lib.Math.abs.name, Cond.static Lib.Math.abs.name, Cond.initialized "java/lang/Math", Cond.code Lib.Math.abs.name Lib.Math.abs.code 1 (some .int)], w ∈ lw_tbl := List.forall_mem_cons.mpr ⟨(im_18 (i := 40) rfl), List.forall_mem_cons.mpr ⟨(im_16 (i := 47) rfl), List.forall_mem_cons.mpr ⟨(im_2 (i := 21) rfl), List.forall_mem_cons.mpr ⟨cw_1129, fun _ h => absurd h List.not_mem_nil⟩⟩⟩⟩
theorem mt_X4_54 : ∀ w ∈ [Cond.methodLink RX4 54 arraycopyName, Cond.native arraycopyName, Cond.static arraycopyName, Cond.initialized "java/lang/System"], w ∈ lw_tbl := List.forall_mem_cons.mpr ⟨(im_10 (i := 47) rfl), List.forall_mem_cons.mpr ⟨(im_8 (i := 26) rfl), List.forall_mem_cons.mpr ⟨(im_8 (i := 25) rfl), List.forall_mem_cons.mpr ⟨(im_2 (i := 22) rfl), fun _ h => absurd h List.not_mem_nil⟩⟩⟩⟩
theorem mt_X4_63 : ∀ w ∈ [Cond.methodLink RX4 63 Lib.Math.max.name, Cond.static Lib.Math.max.name, Cond.initialized "java/lang/Math", Cond.code Lib.Math.max.name Lib.Math.max.code 2 (some .int)], w ∈ lw_tbl := List.forall_mem_cons.mpr ⟨(im_19 (i := 30) rfl), List.forall_mem_cons.mpr ⟨(im_9 (i := 22) rfl), List.forall_mem_cons.mpr ⟨(im_2 (i := 21) rfl), List.forall_mem_cons.mpr ⟨cw_620, fun _ h => absurd h List.not_mem_nil⟩⟩⟩⟩
theorem mt_X5_26 : ∀ w ∈ [Cond.methodLink RX5 26 arraycopyName, Cond.native arraycopyName, Cond.static arraycopyName, Cond.initialized "java/lang/System"], w ∈ lw_tbl := List.forall_mem_cons.mpr ⟨(im_15 (i := 6) rfl), List.forall_mem_cons.mpr ⟨(im_8 (i := 26) rfl), List.forall_mem_cons.mpr ⟨(im_8 (i := 25) rfl), List.forall_mem_cons.mpr ⟨(im_2 (i := 22) rfl), fun _ h => absurd h List.not_mem_nil⟩⟩⟩⟩
theorem mt_X7_48 : ∀ w ∈ [Cond.methodLink RX7 48 arraycopyName, Cond.native arraycopyName, Cond.static arraycopyName, Cond.initialized "java/lang/System"], w ∈ lw_tbl := List.forall_mem_cons.mpr ⟨(im_18 (i := 34) rfl), List.forall_mem_cons.mpr ⟨(im_8 (i := 26) rfl), List.forall_mem_cons.mpr ⟨(im_8 (i := 25) rfl), List.forall_mem_cons.mpr ⟨(im_2 (i := 22) rfl), fun _ h => absurd h List.not_mem_nil⟩⟩⟩⟩
theorem mt_X8_58 : ∀ w ∈ [Cond.methodLink RX8 58 arraycopyName, Cond.native arraycopyName, Cond.static arraycopyName, Cond.initialized "java/lang/System"], w ∈ lw_tbl := List.forall_mem_cons.mpr ⟨(im_8 (i := 30) rfl), List.forall_mem_cons.mpr ⟨(im_8 (i := 26) rfl), List.forall_mem_cons.mpr ⟨(im_8 (i := 25) rfl), List.forall_mem_cons.mpr ⟨(im_2 (i := 22) rfl), fun _ h => absurd h List.not_mem_nil⟩⟩⟩⟩
theorem mt_X8_64 : ∀ w ∈ [Cond.methodLink RX8 64 Lib.Math.min.name, Cond.static Lib.Math.min.name, Cond.initialized "java/lang/Math", Cond.code Lib.Math.min.name Lib.Math.min.code 2 (some .int)], w ∈ lw_tbl := List.forall_mem_cons.mpr ⟨(im_9 (i := 19) rfl), List.forall_mem_cons.mpr ⟨(im_9 (i := 20) rfl), List.forall_mem_cons.mpr ⟨(im_2 (i := 21) rfl), List.forall_mem_cons.mpr ⟨cw_617, fun _ h => absurd h List.not_mem_nil⟩⟩⟩⟩
theorem mt_X8_92 : ∀ w ∈ [Cond.methodLink RX8 92 Lib.Math.max.name, Cond.static Lib.Math.max.name, Cond.initialized "java/lang/Math", Cond.code Lib.Math.max.name Lib.Math.max.code 2 (some .int)], w ∈ lw_tbl := List.forall_mem_cons.mpr ⟨(im_9 (i := 21) rfl), List.forall_mem_cons.mpr ⟨(im_9 (i := 22) rfl), List.forall_mem_cons.mpr ⟨(im_2 (i := 21) rfl), List.forall_mem_cons.mpr ⟨cw_620, fun _ h => absurd h List.not_mem_nil⟩⟩⟩⟩
theorem mt_X8_172 : ∀ w ∈ [Cond.methodLink RX8 172 Lib.Math.abs.name, Cond.static Lib.Math.abs.name, Cond.initialized "java/lang/Math", Cond.code Lib.Math.abs.name Lib.Math.abs.code 1 (some .int)], w ∈ lw_tbl := List.forall_mem_cons.mpr ⟨(im_16 (i := 46) rfl), List.forall_mem_cons.mpr ⟨(im_16 (i := 47) rfl), List.forall_mem_cons.mpr ⟨(im_2 (i := 21) rfl), List.forall_mem_cons.mpr ⟨cw_1129, fun _ h => absurd h List.not_mem_nil⟩⟩⟩⟩
theorem mt_X12_191 : ∀ w ∈ [Cond.methodLink RX12 191 Lib.Math.min.name, Cond.static Lib.Math.min.name, Cond.initialized "java/lang/Math", Cond.code Lib.Math.min.name Lib.Math.min.code 2 (some .int)], w ∈ lw_tbl := List.forall_mem_cons.mpr ⟨(im_22 (i := 55) rfl), List.forall_mem_cons.mpr ⟨(im_9 (i := 20) rfl), List.forall_mem_cons.mpr ⟨(im_2 (i := 21) rfl), List.forall_mem_cons.mpr ⟨cw_617, fun _ h => absurd h List.not_mem_nil⟩⟩⟩⟩
theorem mt_X12_354 : ∀ w ∈ [Cond.methodLink RX12 354 Lib.Math.abs.name, Cond.static Lib.Math.abs.name, Cond.initialized "java/lang/Math", Cond.code Lib.Math.abs.name Lib.Math.abs.code 1 (some .int)], w ∈ lw_tbl := List.forall_mem_cons.mpr ⟨(im_25 (i := 9) rfl), List.forall_mem_cons.mpr ⟨(im_16 (i := 47) rfl), List.forall_mem_cons.mpr ⟨(im_2 (i := 21) rfl), List.forall_mem_cons.mpr ⟨cw_1129, fun _ h => absurd h List.not_mem_nil⟩⟩⟩⟩
theorem mt_X12_380 : ∀ w ∈ [Cond.methodLink RX12 380 Lib.Math.max.name, Cond.static Lib.Math.max.name, Cond.initialized "java/lang/Math", Cond.code Lib.Math.max.name Lib.Math.max.code 2 (some .int)], w ∈ lw_tbl := List.forall_mem_cons.mpr ⟨(im_25 (i := 21) rfl), List.forall_mem_cons.mpr ⟨(im_9 (i := 22) rfl), List.forall_mem_cons.mpr ⟨(im_2 (i := 21) rfl), List.forall_mem_cons.mpr ⟨cw_620, fun _ h => absurd h List.not_mem_nil⟩⟩⟩⟩
theorem cl_X11_289 : Cond.constant RX11 289 (1000000 : Int32) ∈ lw_tbl := (im_18 (i := 15) rfl)
theorem cl_X3_13 : Cond.constant RX3 13 (1103515245 : Int32) ∈ lw_tbl := (im_20 (i := 10) rfl)
theorem cl_X7_40 : Cond.constant RX7 40 (1000000 : Int32) ∈ lw_tbl := (im_18 (i := 31) rfl)
theorem cl_X12_190 : Cond.constant RX12 190 (100000 : Int32) ∈ lw_tbl := (im_22 (i := 54) rfl)
theorem cl_X12_493 : Cond.constant RX12 493 (1103515245 : Int32) ∈ lw_tbl := (im_28 (i := 23) rfl)
theorem cl_J6_265 : Cond.constant RJ6 265 (1431655765 : Int32) ∈ lw_tbl := (im_9 (i := 40) rfl)
theorem cl_J6_266 : Cond.constant RJ6 266 (858993459 : Int32) ∈ lw_tbl := (im_9 (i := 41) rfl)
theorem cl_J6_267 : Cond.constant RJ6 267 (252645135 : Int32) ∈ lw_tbl := (im_9 (i := 42) rfl)
theorem cl_X12_424 : Cond.constantLong RX12 424 (20 : Int64) ∈ lw_tbl := (im_25 (i := 35) rfl)
theorem cl_X12_438 : Cond.constantLong RX12 438 (50 : Int64) ∈ lw_tbl := (im_26 (i := 5) rfl)
theorem cl_X12_443 : Cond.constantLong RX12 443 (40 : Int64) ∈ lw_tbl := (im_26 (i := 17) rfl)
theorem cl_X12_449 : Cond.constantLong RX12 449 (4 : Int64) ∈ lw_tbl := (im_26 (i := 21) rfl)
theorem cl_X12_461 : Cond.constantLong RX12 461 (99 : Int64) ∈ lw_tbl := (im_26 (i := 51) rfl)
theorem cl_X12_479 : Cond.constantLong RX12 479 (2 : Int64) ∈ lw_tbl := (im_27 (i := 31) rfl)
theorem cl_J13_314 : Cond.constantLong RJ13 314 (6148914691236517205 : Int64) ∈ lw_tbl := (im_19 (i := 48) rfl)
theorem cl_J13_316 : Cond.constantLong RJ13 316 (3689348814741910323 : Int64) ∈ lw_tbl := (im_19 (i := 49) rfl)
theorem cl_J13_318 : Cond.constantLong RJ13 318 (1085102592571150095 : Int64) ∈ lw_tbl := (im_19 (i := 50) rfl)
def txw : List Cond := [(Jvm.Cond.initialized "java/lang/Throwable"), (Jvm.Cond.initialized "java/lang/Exception"), (Jvm.Cond.initialized "java/lang/RuntimeException"), (Jvm.Cond.initialized "java/lang/IllegalArgumentException"), (Jvm.Cond.initialized "java/util/NoSuchElementException"), (Jvm.Cond.methodLink "BlueBag" (1 : Nat) ({ cls := "java/lang/Object", name := "<init>", desc := "()V" } : Jvm.MethodName)), (Jvm.Cond.instanceMethod ({ cls := "java/lang/Object", name := "<init>", desc := "()V" } : Jvm.MethodName)), (Jvm.Cond.code ({ cls := "java/lang/Object", name := "<init>", desc := "()V" } : Jvm.MethodName) object_method_1_code (1 : Nat) (Option.none : Option Jvm.ClassFile.FieldType)), (Jvm.Cond.classLink "BlueBag" (96 : Nat) "java/lang/IllegalArgumentException"), (Jvm.Cond.instantiable "java/lang/IllegalArgumentException" (6 : Nat)), (Jvm.Cond.castable "java/lang/IllegalArgumentException" "java/lang/IllegalArgumentException"), (Jvm.Cond.declares ({ cls := "java/lang/RuntimeException", name := "<init>", desc := "()V" } : Jvm.MethodName)), (Jvm.Cond.declares ({ cls := "java/lang/RuntimeException", name := "<init>", desc := "(Ljava/lang/String;)V" } : Jvm.MethodName)), (Jvm.Cond.declares ({ cls := "java/lang/Exception", name := "<init>", desc := "()V" } : Jvm.MethodName)), (Jvm.Cond.declares ({ cls := "java/lang/Exception", name := "<init>", desc := "(Ljava/lang/String;)V" } : Jvm.MethodName)), (Jvm.Cond.declares ({ cls := "java/lang/Throwable", name := "<init>", desc := "()V" } : Jvm.MethodName)), (Jvm.Cond.declares ({ cls := "java/lang/Throwable", name := "<init>", desc := "(Ljava/lang/String;)V" } : Jvm.MethodName)), (Jvm.Cond.selects "java/lang/IllegalArgumentException" ({ cls := "java/lang/Throwable", name := "fillInStackTrace", desc := "(I)Ljava/lang/Throwable;" } : Jvm.MethodName) ({ cls := "java/lang/Throwable", name := "fillInStackTrace", desc := "(I)Ljava/lang/Throwable;" } : Jvm.MethodName)), (Jvm.Cond.selects "java/lang/IllegalArgumentException" ({ cls := "java/lang/Throwable", name := "fillInStackTrace", desc := "()Ljava/lang/Throwable;" } : Jvm.MethodName) ({ cls := "java/lang/Throwable", name := "fillInStackTrace", desc := "()Ljava/lang/Throwable;" } : Jvm.MethodName)), (Jvm.Cond.lays "java/lang/IllegalArgumentException" "java/lang/Throwable" "cause" "Ljava/lang/Throwable;"), (Jvm.Cond.lays "java/lang/Throwable" "java/lang/Throwable" "cause" "Ljava/lang/Throwable;"), (Jvm.Cond.lays "java/lang/IllegalArgumentException" "java/lang/Throwable" "stackTrace" "[Ljava/lang/StackTraceElement;"), (Jvm.Cond.lays "java/lang/Throwable" "java/lang/Throwable" "stackTrace" "[Ljava/lang/StackTraceElement;"), (Jvm.Cond.lays "java/lang/IllegalArgumentException" "java/lang/Throwable" "suppressedExceptions" "Ljava/util/List;"), (Jvm.Cond.lays "java/lang/Throwable" "java/lang/Throwable" "suppressedExceptions" "Ljava/util/List;"), (Jvm.Cond.lays "java/lang/IllegalArgumentException" "java/lang/Throwable" "detailMessage" "Ljava/lang/String;"), (Jvm.Cond.lays "java/lang/Throwable" "java/lang/Throwable" "detailMessage" "Ljava/lang/String;"), (Jvm.Cond.lays "java/lang/IllegalArgumentException" "java/lang/Throwable" "backtrace" "Ljava/lang/Object;"), (Jvm.Cond.lays "java/lang/Throwable" "java/lang/Throwable" "backtrace" "Ljava/lang/Object;"), (Jvm.Cond.fieldLink "java/lang/Throwable" (198 : Nat) "java/lang/Throwable" "backtrace" "Ljava/lang/Object;"), (Jvm.Cond.superclass "java/lang/Throwable" "java/lang/Object"), (Jvm.Cond.instanceMethod ({ cls := "java/lang/Throwable", name := "<init>", desc := "()V" } : Jvm.MethodName)), (Jvm.Cond.code ({ cls := "java/lang/Throwable", name := "<init>", desc := "()V" } : Jvm.MethodName) prog_28_method_1_code (1 : Nat) (Option.none : Option Jvm.ClassFile.FieldType)), (Jvm.Cond.methodLink "java/lang/Throwable" (1 : Nat) ({ cls := "java/lang/Object", name := "<init>", desc := "()V" } : Jvm.MethodName)), (Jvm.Cond.fieldLink "java/lang/Throwable" (13 : Nat) "java/lang/Throwable" "UNASSIGNED_STACK" "[Ljava/lang/StackTraceElement;"), (Jvm.Cond.laysStatic "java/lang/Throwable" "UNASSIGNED_STACK" "[Ljava/lang/StackTraceElement;"), (Jvm.Cond.fieldLink "java/lang/Throwable" (20 : Nat) "java/lang/Throwable" "SUPPRESSED_SENTINEL" "Ljava/util/List;"), (Jvm.Cond.laysStatic "java/lang/Throwable" "SUPPRESSED_SENTINEL" "Ljava/util/List;"), (Jvm.Cond.methodLink "java/lang/Throwable" (27 : Nat) ({ cls := "java/lang/Throwable", name := "fillInStackTrace", desc := "()Ljava/lang/Throwable;" } : Jvm.MethodName)), (Jvm.Cond.instanceMethod ({ cls := "java/lang/Throwable", name := "fillInStackTrace", desc := "()Ljava/lang/Throwable;" } : Jvm.MethodName)), (Jvm.Cond.sameMethod "java/lang/Throwable" "java/lang/Throwable" "fillInStackTrace" "()Ljava/lang/Throwable;"), (Jvm.Cond.selects "java/util/NoSuchElementException" ({ cls := "java/lang/Throwable", name := "fillInStackTrace", desc := "()Ljava/lang/Throwable;" } : Jvm.MethodName) ({ cls := "java/lang/Throwable", name := "fillInStackTrace", desc := "()Ljava/lang/Throwable;" } : Jvm.MethodName)), (Jvm.Cond.codeSync ({ cls := "java/lang/Throwable", name := "fillInStackTrace", desc := "()Ljava/lang/Throwable;" } : Jvm.MethodName) prog_28_method_18_code (1 : Nat) (Option.some (Jvm.ClassFile.FieldType.object "java/lang/Throwable"))), (Jvm.Cond.methodLink "java/lang/Throwable" (202 : Nat) ({ cls := "java/lang/Throwable", name := "fillInStackTrace", desc := "(I)Ljava/lang/Throwable;" } : Jvm.MethodName)), (Jvm.Cond.privateMethod ({ cls := "java/lang/Throwable", name := "fillInStackTrace", desc := "(I)Ljava/lang/Throwable;" } : Jvm.MethodName)), (Jvm.Cond.instanceMethod ({ cls := "java/lang/Throwable", name := "fillInStackTrace", desc := "(I)Ljava/lang/Throwable;" } : Jvm.MethodName)), (Jvm.Cond.instantiable "java/lang/Throwable" (6 : Nat)), (Jvm.Cond.native ({ cls := "java/lang/Throwable", name := "fillInStackTrace", desc := "(I)Ljava/lang/Throwable;" } : Jvm.MethodName)), (Jvm.Cond.methodLink "BlueBag" (98 : Nat) ({ cls := "java/lang/IllegalArgumentException", name := "<init>", desc := "()V" } : Jvm.MethodName)), (Jvm.Cond.instanceMethod ({ cls := "java/lang/IllegalArgumentException", name := "<init>", desc := "()V" } : Jvm.MethodName)), (Jvm.Cond.code ({ cls := "java/lang/IllegalArgumentException", name := "<init>", desc := "()V" } : Jvm.MethodName) prog_19_method_1_code (1 : Nat) (Option.none : Option Jvm.ClassFile.FieldType)), (Jvm.Cond.methodLink "java/lang/IllegalArgumentException" (1 : Nat) ({ cls := "java/lang/RuntimeException", name := "<init>", desc := "()V" } : Jvm.MethodName)), (Jvm.Cond.instanceMethod ({ cls := "java/lang/RuntimeException", name := "<init>", desc := "()V" } : Jvm.MethodName)), (Jvm.Cond.code ({ cls := "java/lang/RuntimeException", name := "<init>", desc := "()V" } : Jvm.MethodName) prog_23_method_1_code (1 : Nat) (Option.none : Option Jvm.ClassFile.FieldType)), (Jvm.Cond.methodLink "java/lang/RuntimeException" (1 : Nat) ({ cls := "java/lang/Exception", name := "<init>", desc := "()V" } : Jvm.MethodName)), (Jvm.Cond.instanceMethod ({ cls := "java/lang/Exception", name := "<init>", desc := "()V" } : Jvm.MethodName)), (Jvm.Cond.code ({ cls := "java/lang/Exception", name := "<init>", desc := "()V" } : Jvm.MethodName) prog_18_method_1_code (1 : Nat) (Option.none : Option Jvm.ClassFile.FieldType)), (Jvm.Cond.methodLink "java/lang/Exception" (1 : Nat) ({ cls := "java/lang/Throwable", name := "<init>", desc := "()V" } : Jvm.MethodName)), (Jvm.Cond.fieldLink "java/lang/Throwable" (198 : Nat) "java/lang/Throwable" "backtrace" "Ljava/lang/Object;"), (Jvm.Cond.fieldLink "java/lang/Throwable" (7 : Nat) "java/lang/Throwable" "cause" "Ljava/lang/Throwable;"), (Jvm.Cond.fieldLink "java/lang/Throwable" (17 : Nat) "java/lang/Throwable" "stackTrace" "[Ljava/lang/StackTraceElement;"), (Jvm.Cond.fieldLink "java/lang/Throwable" (24 : Nat) "java/lang/Throwable" "suppressedExceptions" "Ljava/util/List;"), (Jvm.Cond.soleField "java/lang/Throwable" "backtrace"), (Jvm.Cond.soleField "java/lang/Throwable" "detailMessage"), (Jvm.Cond.soleField "java/lang/Throwable" "cause"), (Jvm.Cond.soleField "java/lang/Throwable" "stackTrace"), (Jvm.Cond.lays "java/lang/IllegalArgumentException" "java/lang/Throwable" "depth" "I"), (Jvm.Cond.soleField "java/lang/Throwable" "depth"), (Jvm.Cond.soleField "java/lang/Throwable" "suppressedExceptions"), (Jvm.Cond.superclass "java/lang/IllegalArgumentException" "java/lang/RuntimeException"), (Jvm.Cond.classLink "BlueBag" (176 : Nat) "java/util/NoSuchElementException"), (Jvm.Cond.instantiable "java/util/NoSuchElementException" (6 : Nat)), (Jvm.Cond.castable "java/util/NoSuchElementException" "java/util/NoSuchElementException"), (Jvm.Cond.selects "java/util/NoSuchElementException" ({ cls := "java/lang/Throwable", name := "fillInStackTrace", desc := "(I)Ljava/lang/Throwable;" } : Jvm.MethodName) ({ cls := "java/lang/Throwable", name := "fillInStackTrace", desc := "(I)Ljava/lang/Throwable;" } : Jvm.MethodName)), (Jvm.Cond.lays "java/util/NoSuchElementException" "java/lang/Throwable" "cause" "Ljava/lang/Throwable;"), (Jvm.Cond.lays "java/util/NoSuchElementException" "java/lang/Throwable" "stackTrace" "[Ljava/lang/StackTraceElement;"), (Jvm.Cond.lays "java/util/NoSuchElementException" "java/lang/Throwable" "suppressedExceptions" "Ljava/util/List;"), (Jvm.Cond.lays "java/util/NoSuchElementException" "java/lang/Throwable" "detailMessage" "Ljava/lang/String;"), (Jvm.Cond.lays "java/util/NoSuchElementException" "java/lang/Throwable" "backtrace" "Ljava/lang/Object;"), (Jvm.Cond.methodLink "BlueBag" (178 : Nat) ({ cls := "java/util/NoSuchElementException", name := "<init>", desc := "()V" } : Jvm.MethodName)), (Jvm.Cond.instanceMethod ({ cls := "java/util/NoSuchElementException", name := "<init>", desc := "()V" } : Jvm.MethodName)), (Jvm.Cond.code ({ cls := "java/util/NoSuchElementException", name := "<init>", desc := "()V" } : Jvm.MethodName) prog_31_method_1_code (1 : Nat) (Option.none : Option Jvm.ClassFile.FieldType)), (Jvm.Cond.methodLink "java/util/NoSuchElementException" (1 : Nat) ({ cls := "java/lang/RuntimeException", name := "<init>", desc := "()V" } : Jvm.MethodName)), (Jvm.Cond.lays "java/util/NoSuchElementException" "java/lang/Throwable" "depth" "I"), (Jvm.Cond.superclass "java/util/NoSuchElementException" "java/lang/RuntimeException"), (Jvm.Cond.sameMethod "java/lang/Throwable" "java/lang/Throwable" "fillInStackTrace" "(I)Ljava/lang/Throwable;"), (Jvm.Cond.castable "java/lang/IllegalArgumentException" "java/lang/Object"), (Jvm.Cond.castable "java/util/NoSuchElementException" "java/lang/Object"), (Jvm.Cond.castable "java/lang/Throwable" "java/lang/Object")]
theorem txw_in : ∀ w ∈ txw, w ∈ lw_tbl := List.forall_mem_cons.mpr ⟨(im_2 (i := 14) rfl), List.forall_mem_cons.mpr ⟨(im_2 (i := 15) rfl), List.forall_mem_cons.mpr ⟨(im_2 (i := 16) rfl), List.forall_mem_cons.mpr ⟨(im_2 (i := 17) rfl), List.forall_mem_cons.mpr ⟨(im_2 (i := 23) rfl), List.forall_mem_cons.mpr ⟨(im_2 (i := 30) rfl), List.forall_mem_cons.mpr ⟨(im_2 (i := 31) rfl), List.forall_mem_cons.mpr ⟨cw_141, List.forall_mem_cons.mpr ⟨(im_10 (i := 57) rfl), List.forall_mem_cons.mpr ⟨(im_10 (i := 58) rfl), List.forall_mem_cons.mpr ⟨(im_10 (i := 59) rfl), List.forall_mem_cons.mpr ⟨(im_11 (i := 0) rfl), List.forall_mem_cons.mpr ⟨(im_11 (i := 1) rfl), List.forall_mem_cons.mpr ⟨(im_11 (i := 2) rfl), List.forall_mem_cons.mpr ⟨(im_11 (i := 3) rfl), List.forall_mem_cons.mpr ⟨(im_11 (i := 4) rfl), List.forall_mem_cons.mpr ⟨(im_11 (i := 5) rfl), List.forall_mem_cons.mpr ⟨(im_11 (i := 6) rfl), List.forall_mem_cons.mpr ⟨(im_11 (i := 7) rfl), List.forall_mem_cons.mpr ⟨(im_11 (i := 8) rfl), List.forall_mem_cons.mpr ⟨(im_11 (i := 9) rfl), List.forall_mem_cons.mpr ⟨(im_11 (i := 10) rfl), List.forall_mem_cons.mpr ⟨(im_11 (i := 11) rfl), List.forall_mem_cons.mpr ⟨(im_11 (i := 12) rfl), List.forall_mem_cons.mpr ⟨(im_11 (i := 13) rfl), List.forall_mem_cons.mpr ⟨(im_11 (i := 14) rfl), List.forall_mem_cons.mpr ⟨(im_11 (i := 15) rfl), List.forall_mem_cons.mpr ⟨(im_11 (i := 16) rfl), List.forall_mem_cons.mpr ⟨(im_11 (i := 17) rfl), List.forall_mem_cons.mpr ⟨(im_11 (i := 18) rfl), List.forall_mem_cons.mpr ⟨(im_11 (i := 19) rfl), List.forall_mem_cons.mpr ⟨(im_11 (i := 20) rfl), List.forall_mem_cons.mpr ⟨cw_776, List.forall_mem_cons.mpr ⟨(im_11 (i := 21) rfl), List.forall_mem_cons.mpr ⟨(im_11 (i := 22) rfl), List.forall_mem_cons.mpr ⟨(im_11 (i := 23) rfl), List.forall_mem_cons.mpr ⟨(im_11 (i := 24) rfl), List.forall_mem_cons.mpr ⟨(im_11 (i := 25) rfl), List.forall_mem_cons.mpr ⟨(im_11 (i := 26) rfl), List.forall_mem_cons.mpr ⟨(im_11 (i := 27) rfl), List.forall_mem_cons.mpr ⟨(im_11 (i := 28) rfl), List.forall_mem_cons.mpr ⟨(im_11 (i := 29) rfl), List.forall_mem_cons.mpr ⟨cw_786, List.forall_mem_cons.mpr ⟨(im_11 (i := 30) rfl), List.forall_mem_cons.mpr ⟨(im_11 (i := 31) rfl), List.forall_mem_cons.mpr ⟨(im_11 (i := 32) rfl), List.forall_mem_cons.mpr ⟨(im_11 (i := 33) rfl), List.forall_mem_cons.mpr ⟨(im_11 (i := 34) rfl), List.forall_mem_cons.mpr ⟨(im_11 (i := 35) rfl), List.forall_mem_cons.mpr ⟨(im_11 (i := 36) rfl), List.forall_mem_cons.mpr ⟨cw_794, List.forall_mem_cons.mpr ⟨(im_11 (i := 37) rfl), List.forall_mem_cons.mpr ⟨(im_11 (i := 38) rfl), List.forall_mem_cons.mpr ⟨cw_797, List.forall_mem_cons.mpr ⟨(im_11 (i := 39) rfl), List.forall_mem_cons.mpr ⟨(im_11 (i := 40) rfl), List.forall_mem_cons.mpr ⟨cw_800, List.forall_mem_cons.mpr ⟨(im_11 (i := 41) rfl), List.forall_mem_cons.mpr ⟨(im_11 (i := 42) rfl), List.forall_mem_cons.mpr ⟨(im_11 (i := 43) rfl), List.forall_mem_cons.mpr ⟨(im_11 (i := 44) rfl), List.forall_mem_cons.mpr ⟨(im_11 (i := 45) rfl), List.forall_mem_cons.mpr ⟨(im_11 (i := 46) rfl), List.forall_mem_cons.mpr ⟨(im_11 (i := 47) rfl), List.forall_mem_cons.mpr ⟨(im_11 (i := 48) rfl), List.forall_mem_cons.mpr ⟨(im_11 (i := 49) rfl), List.forall_mem_cons.mpr ⟨(im_11 (i := 50) rfl), List.forall_mem_cons.mpr ⟨(im_11 (i := 51) rfl), List.forall_mem_cons.mpr ⟨(im_11 (i := 52) rfl), List.forall_mem_cons.mpr ⟨(im_11 (i := 53) rfl), List.forall_mem_cons.mpr ⟨(im_16 (i := 15) rfl), List.forall_mem_cons.mpr ⟨(im_16 (i := 16) rfl), List.forall_mem_cons.mpr ⟨(im_16 (i := 17) rfl), List.forall_mem_cons.mpr ⟨(im_16 (i := 18) rfl), List.forall_mem_cons.mpr ⟨(im_16 (i := 19) rfl), List.forall_mem_cons.mpr ⟨(im_16 (i := 20) rfl), List.forall_mem_cons.mpr ⟨(im_16 (i := 21) rfl), List.forall_mem_cons.mpr ⟨(im_16 (i := 22) rfl), List.forall_mem_cons.mpr ⟨(im_16 (i := 23) rfl), List.forall_mem_cons.mpr ⟨(im_16 (i := 24) rfl), List.forall_mem_cons.mpr ⟨(im_16 (i := 25) rfl), List.forall_mem_cons.mpr ⟨cw_1098, List.forall_mem_cons.mpr ⟨(im_16 (i := 26) rfl), List.forall_mem_cons.mpr ⟨(im_16 (i := 27) rfl), List.forall_mem_cons.mpr ⟨(im_16 (i := 28) rfl), List.forall_mem_cons.mpr ⟨(im_28 (i := 30) rfl), List.forall_mem_cons.mpr ⟨(im_28 (i := 31) rfl), List.forall_mem_cons.mpr ⟨(im_28 (i := 32) rfl), List.forall_mem_cons.mpr ⟨(im_28 (i := 33) rfl), fun _ h => absurd h List.not_mem_nil⟩⟩⟩⟩⟩⟩⟩⟩⟩⟩⟩⟩⟩⟩⟩⟩⟩⟩⟩⟩⟩⟩⟩⟩⟩⟩⟩⟩⟩⟩⟩⟩⟩⟩⟩⟩⟩⟩⟩⟩⟩⟩⟩⟩⟩⟩⟩⟩⟩⟩⟩⟩⟩⟩⟩⟩⟩⟩⟩⟩⟩⟩⟩⟩⟩⟩⟩⟩⟩⟩⟩⟩⟩⟩⟩⟩⟩⟩⟩⟩⟩⟩⟩⟩⟩⟩⟩⟩⟩
theorem tw_X11_96_98 : TW RX11 96 98 (exNm 2) ["java/lang/RuntimeException", "java/lang/Exception"] := ⟨fun w h => txw_in w ((by decide +kernel : ∀ w ∈ Cond.classLink RX11 96 (exNm 2) :: Cond.initialized (exNm 2) :: vx_at0 RX11 98 (exNm 2) ["java/lang/RuntimeException", "java/lang/Exception"], w ∈ txw) w h), by decide +kernel, by decide +kernel, by decide +kernel, rfl⟩
theorem tw_X11_176_178 : TW RX11 176 178 (exNm 1) ["java/lang/RuntimeException", "java/lang/Exception"] := ⟨fun w h => txw_in w ((by decide +kernel : ∀ w ∈ Cond.classLink RX11 176 (exNm 1) :: Cond.initialized (exNm 1) :: vx_at0 RX11 178 (exNm 1) ["java/lang/RuntimeException", "java/lang/Exception"], w ∈ txw) w h), by decide +kernel, by decide +kernel, by decide +kernel, rfl⟩
theorem ff_X11_10 : ∃ q : vw_C, CLS 11 q ∧ 0 < q.2.2 ∧ Cond.fieldLink RX11 10 (q.2.1 0).1 (q.2.1 0).2.1 (q.2.1 0).2.2.1 ∈ lw_tbl ∧ (q.2.1 0).1 = RX11 := ⟨_, cls_11, by decide, (im_7 (i := 31) rfl), rfl⟩
theorem ff_X11_19 : ∃ q : vw_C, CLS 11 q ∧ 1 < q.2.2 ∧ Cond.fieldLink RX11 19 (q.2.1 1).1 (q.2.1 1).2.1 (q.2.1 1).2.2.1 ∈ lw_tbl ∧ (q.2.1 1).1 = RX11 := ⟨_, cls_11, by decide, (im_7 (i := 32) rfl), rfl⟩
theorem ff_X11_28 : ∃ q : vw_C, CLS 11 q ∧ 2 < q.2.2 ∧ Cond.fieldLink RX11 28 (q.2.1 2).1 (q.2.1 2).2.1 (q.2.1 2).2.2.1 ∈ lw_tbl ∧ (q.2.1 2).1 = RX11 := ⟨_, cls_11, by decide, (im_7 (i := 33) rfl), rfl⟩
theorem ff_X11_37 : ∃ q : vw_C, CLS 11 q ∧ 3 < q.2.2 ∧ Cond.fieldLink RX11 37 (q.2.1 3).1 (q.2.1 3).2.1 (q.2.1 3).2.2.1 ∈ lw_tbl ∧ (q.2.1 3).1 = RX11 := ⟨_, cls_11, by decide, (im_7 (i := 34) rfl), rfl⟩
theorem ff_X11_41 : ∃ q : vw_C, CLS 11 q ∧ 4 < q.2.2 ∧ Cond.fieldLink RX11 41 (q.2.1 4).1 (q.2.1 4).2.1 (q.2.1 4).2.2.1 ∈ lw_tbl ∧ (q.2.1 4).1 = RX11 := ⟨_, cls_11, by decide, (im_7 (i := 35) rfl), rfl⟩
theorem ff_X11_47 : ∃ q : vw_C, CLS 11 q ∧ 5 < q.2.2 ∧ Cond.fieldLink RX11 47 (q.2.1 5).1 (q.2.1 5).2.1 (q.2.1 5).2.2.1 ∈ lw_tbl ∧ (q.2.1 5).1 = RX11 := ⟨_, cls_11, by decide, (im_7 (i := 36) rfl), rfl⟩
theorem ff_X11_59 : ∃ q : vw_C, CLS 11 q ∧ 6 < q.2.2 ∧ Cond.fieldLink RX11 59 (q.2.1 6).1 (q.2.1 6).2.1 (q.2.1 6).2.2.1 ∈ lw_tbl ∧ (q.2.1 6).1 = RX11 := ⟨_, cls_11, by decide, (im_7 (i := 37) rfl), rfl⟩
theorem ff_X11_66 : ∃ q : vw_C, CLS 11 q ∧ 7 < q.2.2 ∧ Cond.fieldLink RX11 66 (q.2.1 7).1 (q.2.1 7).2.1 (q.2.1 7).2.2.1 ∈ lw_tbl ∧ (q.2.1 7).1 = RX11 := ⟨_, cls_11, by decide, (im_7 (i := 38) rfl), rfl⟩
theorem ff_X11_70 : ∃ q : vw_C, CLS 11 q ∧ 8 < q.2.2 ∧ Cond.fieldLink RX11 70 (q.2.1 8).1 (q.2.1 8).2.1 (q.2.1 8).2.2.1 ∈ lw_tbl ∧ (q.2.1 8).1 = RX11 := ⟨_, cls_11, by decide, (im_7 (i := 39) rfl), rfl⟩
theorem ff_X11_74 : ∃ q : vw_C, CLS 11 q ∧ 9 < q.2.2 ∧ Cond.fieldLink RX11 74 (q.2.1 9).1 (q.2.1 9).2.1 (q.2.1 9).2.2.1 ∈ lw_tbl ∧ (q.2.1 9).1 = RX11 := ⟨_, cls_11, by decide, (im_7 (i := 40) rfl), rfl⟩
theorem ff_X11_77 : ∃ q : vw_C, CLS 11 q ∧ 10 < q.2.2 ∧ Cond.fieldLink RX11 77 (q.2.1 10).1 (q.2.1 10).2.1 (q.2.1 10).2.2.1 ∈ lw_tbl ∧ (q.2.1 10).1 = RX11 := ⟨_, cls_11, by decide, (im_7 (i := 41) rfl), rfl⟩
theorem ff_X0_11 : ∃ q : vw_C, CLS 0 q ∧ 0 < q.2.2 ∧ Cond.fieldLink RX0 11 (q.2.1 0).1 (q.2.1 0).2.1 (q.2.1 0).2.2.1 ∈ lw_tbl ∧ (q.2.1 0).1 = RX0 := ⟨_, cls_0, by decide, (im_6 (i := 39) rfl), rfl⟩
theorem ff_X1_9 : ∃ q : vw_C, CLS 1 q ∧ 6 < q.2.2 ∧ Cond.fieldLink RX1 9 (q.2.1 6).1 (q.2.1 6).2.1 (q.2.1 6).2.2.1 ∈ lw_tbl ∧ (q.2.1 6).1 = RX1 := ⟨_, cls_1, by decide, (im_3 (i := 36) rfl), rfl⟩
theorem ff_X1_18 : ∃ q : vw_C, CLS 1 q ∧ 7 < q.2.2 ∧ Cond.fieldLink RX1 18 (q.2.1 7).1 (q.2.1 7).2.1 (q.2.1 7).2.2.1 ∈ lw_tbl ∧ (q.2.1 7).1 = RX1 := ⟨_, cls_1, by decide, (im_3 (i := 37) rfl), rfl⟩
theorem ff_X1_22 : ∃ q : vw_C, CLS 1 q ∧ 8 < q.2.2 ∧ Cond.fieldLink RX1 22 (q.2.1 8).1 (q.2.1 8).2.1 (q.2.1 8).2.2.1 ∈ lw_tbl ∧ (q.2.1 8).1 = RX1 := ⟨_, cls_1, by decide, (im_3 (i := 40) rfl), rfl⟩
theorem ff_X2_12 : ∃ q : vw_C, CLS 2 q ∧ 2 < q.2.2 ∧ Cond.fieldLink RX2 12 (q.2.1 2).1 (q.2.1 2).2.1 (q.2.1 2).2.2.1 ∈ lw_tbl ∧ (q.2.1 2).1 = RX2 := ⟨_, cls_2, by decide, (im_6 (i := 15) rfl), rfl⟩
theorem ff_X2_23 : ∃ q : vw_C, CLS 2 q ∧ 3 < q.2.2 ∧ Cond.fieldLink RX2 23 (q.2.1 3).1 (q.2.1 3).2.1 (q.2.1 3).2.2.1 ∈ lw_tbl ∧ (q.2.1 3).1 = RX2 := ⟨_, cls_2, by decide, (im_6 (i := 17) rfl), rfl⟩
theorem ff_X2_32 : ∃ q : vw_C, CLS 2 q ∧ 0 < q.2.2 ∧ Cond.fieldLink RX2 32 (q.2.1 0).1 (q.2.1 0).2.1 (q.2.1 0).2.2.1 ∈ lw_tbl ∧ (q.2.1 0).1 = RX2 := ⟨_, cls_2, by decide, (im_6 (i := 13) rfl), rfl⟩
theorem ff_X2_45 : ∃ q : vw_C, CLS 2 q ∧ 1 < q.2.2 ∧ Cond.fieldLink RX2 45 (q.2.1 1).1 (q.2.1 1).2.1 (q.2.1 1).2.2.1 ∈ lw_tbl ∧ (q.2.1 1).1 = RX2 := ⟨_, cls_2, by decide, (im_6 (i := 14) rfl), rfl⟩
theorem ff_X4_12 : ∃ q : vw_C, CLS 4 q ∧ 1 < q.2.2 ∧ Cond.fieldLink RX4 12 (q.2.1 1).1 (q.2.1 1).2.1 (q.2.1 1).2.2.1 ∈ lw_tbl ∧ (q.2.1 1).1 = RX4 := ⟨_, cls_4, by decide, (im_6 (i := 48) rfl), rfl⟩
theorem ff_X4_18 : ∃ q : vw_C, CLS 4 q ∧ 2 < q.2.2 ∧ Cond.fieldLink RX4 18 (q.2.1 2).1 (q.2.1 2).2.1 (q.2.1 2).2.2.1 ∈ lw_tbl ∧ (q.2.1 2).1 = RX4 := ⟨_, cls_4, by decide, (im_6 (i := 50) rfl), rfl⟩
theorem ff_X4_22 : ∃ q : vw_C, CLS 4 q ∧ 3 < q.2.2 ∧ Cond.fieldLink RX4 22 (q.2.1 3).1 (q.2.1 3).2.1 (q.2.1 3).2.2.1 ∈ lw_tbl ∧ (q.2.1 3).1 = RX4 := ⟨_, cls_4, by decide, (im_6 (i := 51) rfl), rfl⟩
theorem ff_X4_25 : ∃ q : vw_C, CLS 4 q ∧ 4 < q.2.2 ∧ Cond.fieldLink RX4 25 (q.2.1 4).1 (q.2.1 4).2.1 (q.2.1 4).2.2.1 ∈ lw_tbl ∧ (q.2.1 4).1 = RX4 := ⟨_, cls_4, by decide, (im_6 (i := 52) rfl), rfl⟩
theorem ff_X4_28 : ∃ q : vw_C, CLS 4 q ∧ 5 < q.2.2 ∧ Cond.fieldLink RX4 28 (q.2.1 5).1 (q.2.1 5).2.1 (q.2.1 5).2.2.1 ∈ lw_tbl ∧ (q.2.1 5).1 = RX4 := ⟨_, cls_4, by decide, (im_6 (i := 53) rfl), rfl⟩
theorem ff_X4_36 : ∃ q : vw_C, CLS 4 q ∧ 0 < q.2.2 ∧ Cond.fieldLink RX4 36 (q.2.1 0).1 (q.2.1 0).2.1 (q.2.1 0).2.2.1 ∈ lw_tbl ∧ (q.2.1 0).1 = RX4 := ⟨_, cls_4, by decide, (im_6 (i := 46) rfl), rfl⟩
theorem ff_X5_9 : ∃ q : vw_C, CLS 5 q ∧ 0 < q.2.2 ∧ Cond.fieldLink RX5 9 (q.2.1 0).1 (q.2.1 0).2.1 (q.2.1 0).2.2.1 ∈ lw_tbl ∧ (q.2.1 0).1 = RX5 := ⟨_, cls_5, by decide, (im_2 (i := 53) rfl), rfl⟩
theorem ff_X5_15 : ∃ q : vw_C, CLS 5 q ∧ 1 < q.2.2 ∧ Cond.fieldLink RX5 15 (q.2.1 1).1 (q.2.1 1).2.1 (q.2.1 1).2.2.1 ∈ lw_tbl ∧ (q.2.1 1).1 = RX5 := ⟨_, cls_5, by decide, (im_2 (i := 54) rfl), rfl⟩
theorem ff_X6_9 : ∃ q : vw_C, CLS 6 q ∧ 0 < q.2.2 ∧ Cond.fieldLink RX6 9 (q.2.1 0).1 (q.2.1 0).2.1 (q.2.1 0).2.2.1 ∈ lw_tbl ∧ (q.2.1 0).1 = RX6 := ⟨_, cls_6, by decide, (im_6 (i := 7) rfl), rfl⟩
theorem ff_X7_9 : ∃ q : vw_C, CLS 7 q ∧ 0 < q.2.2 ∧ Cond.fieldLink RX7 9 (q.2.1 0).1 (q.2.1 0).2.1 (q.2.1 0).2.2.1 ∈ lw_tbl ∧ (q.2.1 0).1 = RX7 := ⟨_, cls_7, by decide, (im_7 (i := 10) rfl), rfl⟩
theorem ff_X7_15 : ∃ q : vw_C, CLS 7 q ∧ 1 < q.2.2 ∧ Cond.fieldLink RX7 15 (q.2.1 1).1 (q.2.1 1).2.1 (q.2.1 1).2.2.1 ∈ lw_tbl ∧ (q.2.1 1).1 = RX7 := ⟨_, cls_7, by decide, (im_7 (i := 11) rfl), rfl⟩
theorem ff_X7_18 : ∃ q : vw_C, CLS 7 q ∧ 2 < q.2.2 ∧ Cond.fieldLink RX7 18 (q.2.1 2).1 (q.2.1 2).2.1 (q.2.1 2).2.2.1 ∈ lw_tbl ∧ (q.2.1 2).1 = RX7 := ⟨_, cls_7, by decide, (im_7 (i := 12) rfl), rfl⟩
theorem ff_X7_21 : ∃ q : vw_C, CLS 7 q ∧ 3 < q.2.2 ∧ Cond.fieldLink RX7 21 (q.2.1 3).1 (q.2.1 3).2.1 (q.2.1 3).2.2.1 ∈ lw_tbl ∧ (q.2.1 3).1 = RX7 := ⟨_, cls_7, by decide, (im_7 (i := 13) rfl), rfl⟩
theorem ff_X8_9 : ∃ q : vw_C, CLS 8 q ∧ 1 < q.2.2 ∧ Cond.fieldLink RX8 9 (q.2.1 1).1 (q.2.1 1).2.1 (q.2.1 1).2.2.1 ∈ lw_tbl ∧ (q.2.1 1).1 = RX8 := ⟨_, cls_8, by decide, (im_4 (i := 9) rfl), rfl⟩
theorem ff_X8_15 : ∃ q : vw_C, CLS 8 q ∧ 2 < q.2.2 ∧ Cond.fieldLink RX8 15 (q.2.1 2).1 (q.2.1 2).2.1 (q.2.1 2).2.2.1 ∈ lw_tbl ∧ (q.2.1 2).1 = RX8 := ⟨_, cls_8, by decide, (im_4 (i := 10) rfl), rfl⟩
theorem ff_X8_18 : ∃ q : vw_C, CLS 8 q ∧ 3 < q.2.2 ∧ Cond.fieldLink RX8 18 (q.2.1 3).1 (q.2.1 3).2.1 (q.2.1 3).2.2.1 ∈ lw_tbl ∧ (q.2.1 3).1 = RX8 := ⟨_, cls_8, by decide, (im_4 (i := 11) rfl), rfl⟩
theorem ff_X8_21 : ∃ q : vw_C, CLS 8 q ∧ 4 < q.2.2 ∧ Cond.fieldLink RX8 21 (q.2.1 4).1 (q.2.1 4).2.1 (q.2.1 4).2.2.1 ∈ lw_tbl ∧ (q.2.1 4).1 = RX8 := ⟨_, cls_8, by decide, (im_4 (i := 12) rfl), rfl⟩
theorem ff_X8_24 : ∃ q : vw_C, CLS 8 q ∧ 5 < q.2.2 ∧ Cond.fieldLink RX8 24 (q.2.1 5).1 (q.2.1 5).2.1 (q.2.1 5).2.2.1 ∈ lw_tbl ∧ (q.2.1 5).1 = RX8 := ⟨_, cls_8, by decide, (im_4 (i := 13) rfl), rfl⟩
theorem ff_X8_29 : ∃ q : vw_C, CLS 8 q ∧ 6 < q.2.2 ∧ Cond.fieldLink RX8 29 (q.2.1 6).1 (q.2.1 6).2.1 (q.2.1 6).2.2.1 ∈ lw_tbl ∧ (q.2.1 6).1 = RX8 := ⟨_, cls_8, by decide, (im_4 (i := 14) rfl), rfl⟩
theorem ff_X8_32 : ∃ q : vw_C, CLS 8 q ∧ 0 < q.2.2 ∧ Cond.fieldLink RX8 32 (q.2.1 0).1 (q.2.1 0).2.1 (q.2.1 0).2.2.1 ∈ lw_tbl ∧ (q.2.1 0).1 = RX8 := ⟨_, cls_8, by decide, (im_4 (i := 7) rfl), rfl⟩
theorem ff_X9_9 : ∃ q : vw_C, CLS 9 q ∧ 0 < q.2.2 ∧ Cond.fieldLink RX9 9 (q.2.1 0).1 (q.2.1 0).2.1 (q.2.1 0).2.2.1 ∈ lw_tbl ∧ (q.2.1 0).1 = RX9 := ⟨_, cls_9, by decide, (im_2 (i := 37) rfl), rfl⟩
theorem ff_X10_9 : ∃ q : vw_C, CLS 10 q ∧ 0 < q.2.2 ∧ Cond.fieldLink RX10 9 (q.2.1 0).1 (q.2.1 0).2.1 (q.2.1 0).2.2.1 ∈ lw_tbl ∧ (q.2.1 0).1 = RX10 := ⟨_, cls_10, by decide, (im_4 (i := 47) rfl), rfl⟩
theorem ff_X12_15 : ∃ q : vw_C, CLS 12 q ∧ 0 < q.2.2 ∧ Cond.fieldLink RX12 15 (q.2.1 0).1 (q.2.1 0).2.1 (q.2.1 0).2.2.1 ∈ lw_tbl ∧ (q.2.1 0).1 = RX12 := ⟨_, cls_12, by decide, (im_20 (i := 21) rfl), rfl⟩
theorem ff_X12_31 : ∃ q : vw_C, CLS 12 q ∧ 1 < q.2.2 ∧ Cond.fieldLink RX12 31 (q.2.1 1).1 (q.2.1 1).2.1 (q.2.1 1).2.2.1 ∈ lw_tbl ∧ (q.2.1 1).1 = RX12 := ⟨_, cls_12, by decide, (im_20 (i := 22) rfl), rfl⟩
theorem ff_X12_34 : ∃ q : vw_C, CLS 12 q ∧ 2 < q.2.2 ∧ Cond.fieldLink RX12 34 (q.2.1 2).1 (q.2.1 2).2.1 (q.2.1 2).2.2.1 ∈ lw_tbl ∧ (q.2.1 2).1 = RX12 := ⟨_, cls_12, by decide, (im_20 (i := 23) rfl), rfl⟩
theorem ff_X12_40 : ∃ q : vw_C, CLS 12 q ∧ 5 < q.2.2 ∧ Cond.fieldLink RX12 40 (q.2.1 5).1 (q.2.1 5).2.1 (q.2.1 5).2.2.1 ∈ lw_tbl ∧ (q.2.1 5).1 = RX12 := ⟨_, cls_12, by decide, (im_20 (i := 26) rfl), rfl⟩
theorem ff_X12_44 : ∃ q : vw_C, CLS 12 q ∧ 6 < q.2.2 ∧ Cond.fieldLink RX12 44 (q.2.1 6).1 (q.2.1 6).2.1 (q.2.1 6).2.2.1 ∈ lw_tbl ∧ (q.2.1 6).1 = RX12 := ⟨_, cls_12, by decide, (im_20 (i := 27) rfl), rfl⟩
theorem ff_X12_47 : ∃ q : vw_C, CLS 12 q ∧ 7 < q.2.2 ∧ Cond.fieldLink RX12 47 (q.2.1 7).1 (q.2.1 7).2.1 (q.2.1 7).2.2.1 ∈ lw_tbl ∧ (q.2.1 7).1 = RX12 := ⟨_, cls_12, by decide, (im_20 (i := 28) rfl), rfl⟩
theorem ff_X12_50 : ∃ q : vw_C, CLS 12 q ∧ 8 < q.2.2 ∧ Cond.fieldLink RX12 50 (q.2.1 8).1 (q.2.1 8).2.1 (q.2.1 8).2.2.1 ∈ lw_tbl ∧ (q.2.1 8).1 = RX12 := ⟨_, cls_12, by decide, (im_20 (i := 29) rfl), rfl⟩
theorem ff_X12_53 : ∃ q : vw_C, CLS 12 q ∧ 9 < q.2.2 ∧ Cond.fieldLink RX12 53 (q.2.1 9).1 (q.2.1 9).2.1 (q.2.1 9).2.2.1 ∈ lw_tbl ∧ (q.2.1 9).1 = RX12 := ⟨_, cls_12, by decide, (im_20 (i := 30) rfl), rfl⟩
theorem ff_X12_56 : ∃ q : vw_C, CLS 12 q ∧ 10 < q.2.2 ∧ Cond.fieldLink RX12 56 (q.2.1 10).1 (q.2.1 10).2.1 (q.2.1 10).2.2.1 ∈ lw_tbl ∧ (q.2.1 10).1 = RX12 := ⟨_, cls_12, by decide, (im_20 (i := 31) rfl), rfl⟩
theorem ff_X12_59 : ∃ q : vw_C, CLS 12 q ∧ 11 < q.2.2 ∧ Cond.fieldLink RX12 59 (q.2.1 11).1 (q.2.1 11).2.1 (q.2.1 11).2.2.1 ∈ lw_tbl ∧ (q.2.1 11).1 = RX12 := ⟨_, cls_12, by decide, (im_20 (i := 32) rfl), rfl⟩
theorem ff_X12_62 : ∃ q : vw_C, CLS 12 q ∧ 12 < q.2.2 ∧ Cond.fieldLink RX12 62 (q.2.1 12).1 (q.2.1 12).2.1 (q.2.1 12).2.2.1 ∈ lw_tbl ∧ (q.2.1 12).1 = RX12 := ⟨_, cls_12, by decide, (im_20 (i := 33) rfl), rfl⟩
theorem ff_X12_65 : ∃ q : vw_C, CLS 12 q ∧ 13 < q.2.2 ∧ Cond.fieldLink RX12 65 (q.2.1 13).1 (q.2.1 13).2.1 (q.2.1 13).2.2.1 ∈ lw_tbl ∧ (q.2.1 13).1 = RX12 := ⟨_, cls_12, by decide, (im_20 (i := 34) rfl), rfl⟩
theorem ff_X12_68 : ∃ q : vw_C, CLS 12 q ∧ 14 < q.2.2 ∧ Cond.fieldLink RX12 68 (q.2.1 14).1 (q.2.1 14).2.1 (q.2.1 14).2.2.1 ∈ lw_tbl ∧ (q.2.1 14).1 = RX12 := ⟨_, cls_12, by decide, (im_20 (i := 35) rfl), rfl⟩
theorem ff_X12_75 : ∃ q : vw_C, CLS 12 q ∧ 28 < q.2.2 ∧ Cond.fieldLink RX12 75 (q.2.1 28).1 (q.2.1 28).2.1 (q.2.1 28).2.2.1 ∈ lw_tbl ∧ (q.2.1 28).1 = RX12 := ⟨_, cls_12, by decide, (im_20 (i := 49) rfl), rfl⟩
theorem ff_X12_77 : ∃ q : vw_C, CLS 12 q ∧ 29 < q.2.2 ∧ Cond.fieldLink RX12 77 (q.2.1 29).1 (q.2.1 29).2.1 (q.2.1 29).2.2.1 ∈ lw_tbl ∧ (q.2.1 29).1 = RX12 := ⟨_, cls_12, by decide, (im_20 (i := 50) rfl), rfl⟩
theorem ff_X12_80 : ∃ q : vw_C, CLS 12 q ∧ 30 < q.2.2 ∧ Cond.fieldLink RX12 80 (q.2.1 30).1 (q.2.1 30).2.1 (q.2.1 30).2.2.1 ∈ lw_tbl ∧ (q.2.1 30).1 = RX12 := ⟨_, cls_12, by decide, (im_20 (i := 51) rfl), rfl⟩
theorem ff_X12_83 : ∃ q : vw_C, CLS 12 q ∧ 38 < q.2.2 ∧ Cond.fieldLink RX12 83 (q.2.1 38).1 (q.2.1 38).2.1 (q.2.1 38).2.2.1 ∈ lw_tbl ∧ (q.2.1 38).1 = RX12 := ⟨_, cls_12, by decide, (im_20 (i := 59) rfl), rfl⟩
theorem ff_X12_86 : ∃ q : vw_C, CLS 12 q ∧ 39 < q.2.2 ∧ Cond.fieldLink RX12 86 (q.2.1 39).1 (q.2.1 39).2.1 (q.2.1 39).2.2.1 ∈ lw_tbl ∧ (q.2.1 39).1 = RX12 := ⟨_, cls_12, by decide, (im_21 (i := 0) rfl), rfl⟩
theorem ff_X12_89 : ∃ q : vw_C, CLS 12 q ∧ 40 < q.2.2 ∧ Cond.fieldLink RX12 89 (q.2.1 40).1 (q.2.1 40).2.1 (q.2.1 40).2.2.1 ∈ lw_tbl ∧ (q.2.1 40).1 = RX12 := ⟨_, cls_12, by decide, (im_21 (i := 1) rfl), rfl⟩
theorem ff_X12_92 : ∃ q : vw_C, CLS 12 q ∧ 42 < q.2.2 ∧ Cond.fieldLink RX12 92 (q.2.1 42).1 (q.2.1 42).2.1 (q.2.1 42).2.2.1 ∈ lw_tbl ∧ (q.2.1 42).1 = RX12 := ⟨_, cls_12, by decide, (im_21 (i := 3) rfl), rfl⟩
theorem ff_X12_95 : ∃ q : vw_C, CLS 12 q ∧ 43 < q.2.2 ∧ Cond.fieldLink RX12 95 (q.2.1 43).1 (q.2.1 43).2.1 (q.2.1 43).2.2.1 ∈ lw_tbl ∧ (q.2.1 43).1 = RX12 := ⟨_, cls_12, by decide, (im_21 (i := 4) rfl), rfl⟩
theorem ff_X12_98 : ∃ q : vw_C, CLS 12 q ∧ 44 < q.2.2 ∧ Cond.fieldLink RX12 98 (q.2.1 44).1 (q.2.1 44).2.1 (q.2.1 44).2.2.1 ∈ lw_tbl ∧ (q.2.1 44).1 = RX12 := ⟨_, cls_12, by decide, (im_21 (i := 5) rfl), rfl⟩
theorem ff_X12_101 : ∃ q : vw_C, CLS 12 q ∧ 45 < q.2.2 ∧ Cond.fieldLink RX12 101 (q.2.1 45).1 (q.2.1 45).2.1 (q.2.1 45).2.2.1 ∈ lw_tbl ∧ (q.2.1 45).1 = RX12 := ⟨_, cls_12, by decide, (im_21 (i := 6) rfl), rfl⟩
theorem ff_X12_104 : ∃ q : vw_C, CLS 12 q ∧ 46 < q.2.2 ∧ Cond.fieldLink RX12 104 (q.2.1 46).1 (q.2.1 46).2.1 (q.2.1 46).2.2.1 ∈ lw_tbl ∧ (q.2.1 46).1 = RX12 := ⟨_, cls_12, by decide, (im_21 (i := 7) rfl), rfl⟩
theorem ff_X12_107 : ∃ q : vw_C, CLS 12 q ∧ 47 < q.2.2 ∧ Cond.fieldLink RX12 107 (q.2.1 47).1 (q.2.1 47).2.1 (q.2.1 47).2.2.1 ∈ lw_tbl ∧ (q.2.1 47).1 = RX12 := ⟨_, cls_12, by decide, (im_21 (i := 8) rfl), rfl⟩
theorem ff_X12_110 : ∃ q : vw_C, CLS 12 q ∧ 48 < q.2.2 ∧ Cond.fieldLink RX12 110 (q.2.1 48).1 (q.2.1 48).2.1 (q.2.1 48).2.2.1 ∈ lw_tbl ∧ (q.2.1 48).1 = RX12 := ⟨_, cls_12, by decide, (im_21 (i := 9) rfl), rfl⟩
theorem ff_X12_113 : ∃ q : vw_C, CLS 12 q ∧ 49 < q.2.2 ∧ Cond.fieldLink RX12 113 (q.2.1 49).1 (q.2.1 49).2.1 (q.2.1 49).2.2.1 ∈ lw_tbl ∧ (q.2.1 49).1 = RX12 := ⟨_, cls_12, by decide, (im_21 (i := 10) rfl), rfl⟩
theorem ff_X12_116 : ∃ q : vw_C, CLS 12 q ∧ 50 < q.2.2 ∧ Cond.fieldLink RX12 116 (q.2.1 50).1 (q.2.1 50).2.1 (q.2.1 50).2.2.1 ∈ lw_tbl ∧ (q.2.1 50).1 = RX12 := ⟨_, cls_12, by decide, (im_21 (i := 11) rfl), rfl⟩
theorem ff_X12_119 : ∃ q : vw_C, CLS 12 q ∧ 51 < q.2.2 ∧ Cond.fieldLink RX12 119 (q.2.1 51).1 (q.2.1 51).2.1 (q.2.1 51).2.2.1 ∈ lw_tbl ∧ (q.2.1 51).1 = RX12 := ⟨_, cls_12, by decide, (im_21 (i := 12) rfl), rfl⟩
theorem ff_X12_122 : ∃ q : vw_C, CLS 12 q ∧ 53 < q.2.2 ∧ Cond.fieldLink RX12 122 (q.2.1 53).1 (q.2.1 53).2.1 (q.2.1 53).2.2.1 ∈ lw_tbl ∧ (q.2.1 53).1 = RX12 := ⟨_, cls_12, by decide, (im_21 (i := 14) rfl), rfl⟩
theorem ff_X12_125 : ∃ q : vw_C, CLS 12 q ∧ 58 < q.2.2 ∧ Cond.fieldLink RX12 125 (q.2.1 58).1 (q.2.1 58).2.1 (q.2.1 58).2.2.1 ∈ lw_tbl ∧ (q.2.1 58).1 = RX12 := ⟨_, cls_12, by decide, (im_21 (i := 19) rfl), rfl⟩
theorem ff_X12_128 : ∃ q : vw_C, CLS 12 q ∧ 59 < q.2.2 ∧ Cond.fieldLink RX12 128 (q.2.1 59).1 (q.2.1 59).2.1 (q.2.1 59).2.2.1 ∈ lw_tbl ∧ (q.2.1 59).1 = RX12 := ⟨_, cls_12, by decide, (im_21 (i := 20) rfl), rfl⟩
theorem ff_X12_131 : ∃ q : vw_C, CLS 12 q ∧ 60 < q.2.2 ∧ Cond.fieldLink RX12 131 (q.2.1 60).1 (q.2.1 60).2.1 (q.2.1 60).2.2.1 ∈ lw_tbl ∧ (q.2.1 60).1 = RX12 := ⟨_, cls_12, by decide, (im_21 (i := 21) rfl), rfl⟩
theorem ff_X12_134 : ∃ q : vw_C, CLS 12 q ∧ 61 < q.2.2 ∧ Cond.fieldLink RX12 134 (q.2.1 61).1 (q.2.1 61).2.1 (q.2.1 61).2.2.1 ∈ lw_tbl ∧ (q.2.1 61).1 = RX12 := ⟨_, cls_12, by decide, (im_21 (i := 22) rfl), rfl⟩
theorem ff_X12_137 : ∃ q : vw_C, CLS 12 q ∧ 62 < q.2.2 ∧ Cond.fieldLink RX12 137 (q.2.1 62).1 (q.2.1 62).2.1 (q.2.1 62).2.2.1 ∈ lw_tbl ∧ (q.2.1 62).1 = RX12 := ⟨_, cls_12, by decide, (im_21 (i := 23) rfl), rfl⟩
theorem ff_X12_140 : ∃ q : vw_C, CLS 12 q ∧ 63 < q.2.2 ∧ Cond.fieldLink RX12 140 (q.2.1 63).1 (q.2.1 63).2.1 (q.2.1 63).2.2.1 ∈ lw_tbl ∧ (q.2.1 63).1 = RX12 := ⟨_, cls_12, by decide, (im_21 (i := 24) rfl), rfl⟩
theorem ck_X11_7 : Cond.classLink RX11 7 RX9 ∈ lw_tbl := (im_2 (i := 32) rfl)
theorem ins_9 : Cond.instantiable RX9 2 ∈ lw_tbl := (im_2 (i := 33) rfl)
theorem ini_9 : Cond.initialized RX9 ∈ lw_tbl := (im_2 (i := 2) rfl)
theorem cnw_9 : CNW 9 (RX9, TX9, 2) := ⟨tyX9, tyX9_ok, by decide +kernel⟩
theorem ck_X11_16 : Cond.classLink RX11 16 RX1 ∈ lw_tbl := (im_2 (i := 43) rfl)
theorem ins_1 : Cond.instantiable RX1 9 ∈ lw_tbl := (im_2 (i := 44) rfl)
theorem ini_1 : Cond.initialized RX1 ∈ lw_tbl := (im_2 (i := 3) rfl)
theorem cnw_1 : CNW 1 (RX1, TX1, 9) := ⟨tyX1, tyX1_ok, by decide +kernel⟩
theorem ck_X11_23 : Cond.classLink RX11 23 RX2 ∈ lw_tbl := (im_3 (i := 52) rfl)
theorem ins_2 : Cond.instantiable RX2 7 ∈ lw_tbl := (im_3 (i := 53) rfl)
theorem ini_2 : Cond.initialized RX2 ∈ lw_tbl := (im_2 (i := 5) rfl)
theorem cnw_2 : CNW 2 (RX2, TX2, 7) := ⟨tyX2, tyX2_ok, by decide +kernel⟩
theorem ck_X11_32 : Cond.classLink RX11 32 RX4 ∈ lw_tbl := (im_6 (i := 29) rfl)
theorem ins_4 : Cond.instantiable RX4 7 ∈ lw_tbl := (im_6 (i := 30) rfl)
theorem ini_4 : Cond.initialized RX4 ∈ lw_tbl := (im_2 (i := 9) rfl)
theorem cnw_4 : CNW 4 (RX4, TX4, 7) := ⟨tyX4, tyX4_ok, by decide +kernel⟩
theorem ck_X11_44 : Cond.classLink RX11 44 RX8 ∈ lw_tbl := (im_7 (i := 3) rfl)
theorem ins_8 : Cond.instantiable RX8 13 ∈ lw_tbl := (im_4 (i := 0) rfl)
theorem ini_8 : Cond.initialized RX8 ∈ lw_tbl := (im_2 (i := 6) rfl)
theorem cnw_8 : CNW 8 (RX8, TX8, 13) := ⟨tyX8, tyX8_ok, by decide +kernel⟩
theorem ck_X11_51 : Cond.classLink RX11 51 RX7 ∈ lw_tbl := (im_7 (i := 5) rfl)
theorem ins_7 : Cond.instantiable RX7 6 ∈ lw_tbl := (im_7 (i := 6) rfl)
theorem ini_7 : Cond.initialized RX7 ∈ lw_tbl := (im_2 (i := 11) rfl)
theorem cnw_7 : CNW 7 (RX7, TX7, 6) := ⟨tyX7, tyX7_ok, by decide +kernel⟩
theorem ck_X11_63 : Cond.classLink RX11 63 RX3 ∈ lw_tbl := (im_7 (i := 23) rfl)
theorem ins_3 : Cond.instantiable RX3 1 ∈ lw_tbl := (im_7 (i := 24) rfl)
theorem ini_3 : Cond.initialized RX3 ∈ lw_tbl := (im_2 (i := 12) rfl)
theorem cnw_3 : CNW 3 (RX3, TX3, 1) := ⟨tyX3, tyX3_ok, by decide +kernel⟩
theorem ck_X1_15 : Cond.classLink RX1 15 RX5 ∈ lw_tbl := (im_2 (i := 48) rfl)
theorem ins_5 : Cond.instantiable RX5 3 ∈ lw_tbl := (im_2 (i := 49) rfl)
theorem ini_5 : Cond.initialized RX5 ∈ lw_tbl := (im_2 (i := 4) rfl)
theorem cnw_5 : CNW 5 (RX5, TX5, 3) := ⟨tyX5, tyX5_ok, by decide +kernel⟩
theorem ck_X2_9 : Cond.classLink RX2 9 RX1 ∈ lw_tbl := (im_3 (i := 57) rfl)
theorem ck_X2_18 : Cond.classLink RX2 18 RX8 ∈ lw_tbl := (im_3 (i := 59) rfl)
theorem ck_X2_27 : Cond.classLink RX2 27 RX10 ∈ lw_tbl := (im_4 (i := 42) rfl)
theorem ins_10 : Cond.instantiable RX10 8 ∈ lw_tbl := (im_4 (i := 43) rfl)
theorem ini_10 : Cond.initialized RX10 ∈ lw_tbl := (im_2 (i := 7) rfl)
theorem cnw_10 : CNW 10 (RX10, TX10, 8) := ⟨tyX10, tyX10_ok, by decide +kernel⟩
theorem ck_X2_36 : Cond.classLink RX2 36 RX6 ∈ lw_tbl := (im_6 (i := 2) rfl)
theorem ins_6 : Cond.instantiable RX6 3 ∈ lw_tbl := (im_6 (i := 3) rfl)
theorem ini_6 : Cond.initialized RX6 ∈ lw_tbl := (im_2 (i := 8) rfl)
theorem cnw_6 : CNW 6 (RX6, TX6, 3) := ⟨tyX6, tyX6_ok, by decide +kernel⟩
theorem ck_X4_9 : Cond.classLink RX4 9 RX0 ∈ lw_tbl := (im_6 (i := 34) rfl)
theorem ins_0 : Cond.instantiable RX0 2 ∈ lw_tbl := (im_6 (i := 35) rfl)
theorem ini_0 : Cond.initialized RX0 ∈ lw_tbl := (im_2 (i := 10) rfl)
theorem cnw_0 : CNW 0 (RX0, TX0, 2) := ⟨tyX0, tyX0_ok, by decide +kernel⟩
theorem ck_X4_31 : Cond.classLink RX4 31 RX8 ∈ lw_tbl := (im_6 (i := 44) rfl)
theorem ck_L_8 : Cond.classLink RL 8 RX11 ∈ lw_tbl := (im_2 (i := 26) rfl)
theorem ins_11 : Cond.instantiable RX11 13 ∈ lw_tbl := (im_2 (i := 27) rfl)
theorem ini_11 : Cond.initialized RX11 ∈ lw_tbl := (im_2 (i := 1) rfl)
theorem cnw_11 : CNW 11 (RX11, TX11, 13) := ⟨tyX11, tyX11_ok, by decide +kernel⟩
theorem ck_L_100 : Cond.classLink RL 100 RX12 ∈ lw_tbl := (im_20 (i := 12) rfl)
theorem ins_12 : Cond.instantiable RX12 64 ∈ lw_tbl := (im_20 (i := 13) rfl)
theorem ini_12 : Cond.initialized RX12 ∈ lw_tbl := (im_2 (i := 13) rfl)
theorem cnw_12 : CNW 12 (RX12, TX12, 64) := ⟨tyX12, tyX12_ok, by decide +kernel⟩
theorem ck_X12_9 : Cond.classLink RX12 9 "java/lang/String" ∈ lw_tbl := (im_20 (i := 17) rfl)
theorem aov : Cond.arrayOver (.object "java/lang/String") ∈ lw_tbl := (im_20 (i := 18) rfl)
theorem acl_byte : Cond.arrayClass .byte ∈ lw_tbl := (im_2 (i := 42) rfl)
theorem acl_int : Cond.arrayClass .int ∈ lw_tbl := (im_2 (i := 59) rfl)
theorem acl_long : Cond.arrayClass .long ∈ lw_tbl := (im_7 (i := 57) rfl)
theorem obj_w : ∀ w ∈ [Cond.instanceMethod objectInit, Cond.code objectInit ⟨#[0xb1]⟩ 1 none], w ∈ lw_tbl := List.forall_mem_cons.mpr ⟨(im_2 (i := 31) rfl), List.forall_mem_cons.mpr ⟨cw_141, fun _ h => absurd h List.not_mem_nil⟩⟩
theorem oi_X11_1 : Cond.methodLink RX11 1 objectInit ∈ lw_tbl := (im_2 (i := 30) rfl)
theorem oi_X0_3 : Cond.methodLink RX0 3 objectInit ∈ lw_tbl := (im_6 (i := 38) rfl)
theorem oi_X1_3 : Cond.methodLink RX1 3 objectInit ∈ lw_tbl := (im_2 (i := 47) rfl)
theorem oi_X2_3 : Cond.methodLink RX2 3 objectInit ∈ lw_tbl := (im_3 (i := 56) rfl)
theorem oi_X3_1 : Cond.methodLink RX3 1 objectInit ∈ lw_tbl := (im_7 (i := 27) rfl)
theorem oi_X4_3 : Cond.methodLink RX4 3 objectInit ∈ lw_tbl := (im_6 (i := 33) rfl)
theorem oi_X5_3 : Cond.methodLink RX5 3 objectInit ∈ lw_tbl := (im_2 (i := 52) rfl)
theorem oi_X6_3 : Cond.methodLink RX6 3 objectInit ∈ lw_tbl := (im_6 (i := 6) rfl)
theorem oi_X7_3 : Cond.methodLink RX7 3 objectInit ∈ lw_tbl := (im_7 (i := 9) rfl)
theorem oi_X8_3 : Cond.methodLink RX8 3 objectInit ∈ lw_tbl := (im_4 (i := 3) rfl)
theorem oi_X9_3 : Cond.methodLink RX9 3 objectInit ∈ lw_tbl := (im_2 (i := 36) rfl)
theorem oi_X10_3 : Cond.methodLink RX10 3 objectInit ∈ lw_tbl := (im_4 (i := 46) rfl)
theorem oi_X12_3 : Cond.methodLink RX12 3 objectInit ∈ lw_tbl := (im_20 (i := 16) rfl)
theorem mi_X11_init : yX11_init.name = "<init>" ∧ Cond.instanceMethod yX11_init ∈ lw_tbl := ⟨rfl, (im_2 (i := 29) rfl)⟩
theorem mi_X0_init : yX0_init.name = "<init>" ∧ Cond.instanceMethod yX0_init ∈ lw_tbl := ⟨rfl, (im_6 (i := 37) rfl)⟩
theorem mi_X1_init : yX1_init.name = "<init>" ∧ Cond.instanceMethod yX1_init ∈ lw_tbl := ⟨rfl, (im_2 (i := 46) rfl)⟩
theorem mi_X2_init : yX2_init.name = "<init>" ∧ Cond.instanceMethod yX2_init ∈ lw_tbl := ⟨rfl, (im_3 (i := 55) rfl)⟩
theorem mi_X3_init : yX3_init.name = "<init>" ∧ Cond.instanceMethod yX3_init ∈ lw_tbl := ⟨rfl, (im_7 (i := 26) rfl)⟩
theorem mi_X4_init : yX4_init.name = "<init>" ∧ Cond.instanceMethod yX4_init ∈ lw_tbl := ⟨rfl, (im_6 (i := 32) rfl)⟩
theorem mi_X5_init : yX5_init.name = "<init>" ∧ Cond.instanceMethod yX5_init ∈ lw_tbl := ⟨rfl, (im_2 (i := 51) rfl)⟩
theorem mi_X6_init : yX6_init.name = "<init>" ∧ Cond.instanceMethod yX6_init ∈ lw_tbl := ⟨rfl, (im_6 (i := 5) rfl)⟩
theorem mi_X7_init : yX7_init.name = "<init>" ∧ Cond.instanceMethod yX7_init ∈ lw_tbl := ⟨rfl, (im_7 (i := 8) rfl)⟩
theorem mi_X8_init : yX8_init.name = "<init>" ∧ Cond.instanceMethod yX8_init ∈ lw_tbl := ⟨rfl, (im_4 (i := 2) rfl)⟩
theorem mi_X9_init : yX9_init.name = "<init>" ∧ Cond.instanceMethod yX9_init ∈ lw_tbl := ⟨rfl, (im_2 (i := 35) rfl)⟩
theorem mi_X10_init : yX10_init.name = "<init>" ∧ Cond.instanceMethod yX10_init ∈ lw_tbl := ⟨rfl, (im_4 (i := 45) rfl)⟩
theorem mi_X12_init : yX12_init.name = "<init>" ∧ Cond.instanceMethod yX12_init ∈ lw_tbl := ⟨rfl, (im_20 (i := 15) rfl)⟩
theorem mli_X11_9 : Cond.methodLink RX11 9 yX9_init ∈ lw_tbl ∨ ∃ host, Cond.methodLinkNest RX11 9 yX9_init host ∈ lw_tbl := Or.inr ⟨"BlueBag", (im_2 (i := 34) rfl)⟩
theorem mli_X11_18 : Cond.methodLink RX11 18 yX1_init ∈ lw_tbl ∨ ∃ host, Cond.methodLinkNest RX11 18 yX1_init host ∈ lw_tbl := Or.inl (im_2 (i := 45) rfl)
theorem mli_X11_25 : Cond.methodLink RX11 25 yX2_init ∈ lw_tbl ∨ ∃ host, Cond.methodLinkNest RX11 25 yX2_init host ∈ lw_tbl := Or.inl (im_3 (i := 54) rfl)
theorem mli_X11_34 : Cond.methodLink RX11 34 yX4_init ∈ lw_tbl ∨ ∃ host, Cond.methodLinkNest RX11 34 yX4_init host ∈ lw_tbl := Or.inl (im_6 (i := 31) rfl)
theorem mli_X11_46 : Cond.methodLink RX11 46 yX8_init ∈ lw_tbl ∨ ∃ host, Cond.methodLinkNest RX11 46 yX8_init host ∈ lw_tbl := Or.inl (im_7 (i := 4) rfl)
theorem mli_X11_56 : Cond.methodLink RX11 56 yX7_init ∈ lw_tbl ∨ ∃ host, Cond.methodLinkNest RX11 56 yX7_init host ∈ lw_tbl := Or.inl (im_7 (i := 7) rfl)
theorem mli_X11_65 : Cond.methodLink RX11 65 yX3_init ∈ lw_tbl ∨ ∃ host, Cond.methodLinkNest RX11 65 yX3_init host ∈ lw_tbl := Or.inr ⟨"BlueBag", (im_7 (i := 25) rfl)⟩
theorem mli_X1_17 : Cond.methodLink RX1 17 yX5_init ∈ lw_tbl ∨ ∃ host, Cond.methodLinkNest RX1 17 yX5_init host ∈ lw_tbl := Or.inr ⟨"BlueBag", (im_2 (i := 50) rfl)⟩
theorem mli_X2_11 : Cond.methodLink RX2 11 yX1_init ∈ lw_tbl ∨ ∃ host, Cond.methodLinkNest RX2 11 yX1_init host ∈ lw_tbl := Or.inl (im_3 (i := 58) rfl)
theorem mli_X2_20 : Cond.methodLink RX2 20 yX8_init ∈ lw_tbl ∨ ∃ host, Cond.methodLinkNest RX2 20 yX8_init host ∈ lw_tbl := Or.inl (im_4 (i := 1) rfl)
theorem mli_X2_29 : Cond.methodLink RX2 29 yX10_init ∈ lw_tbl ∨ ∃ host, Cond.methodLinkNest RX2 29 yX10_init host ∈ lw_tbl := Or.inl (im_4 (i := 44) rfl)
theorem mli_X2_42 : Cond.methodLink RX2 42 yX6_init ∈ lw_tbl ∨ ∃ host, Cond.methodLinkNest RX2 42 yX6_init host ∈ lw_tbl := Or.inl (im_6 (i := 4) rfl)
theorem mli_X4_11 : Cond.methodLink RX4 11 yX0_init ∈ lw_tbl ∨ ∃ host, Cond.methodLinkNest RX4 11 yX0_init host ∈ lw_tbl := Or.inr ⟨"BlueBag", (im_6 (i := 36) rfl)⟩
theorem mli_X4_33 : Cond.methodLink RX4 33 yX8_init ∈ lw_tbl ∨ ∃ host, Cond.methodLinkNest RX4 33 yX8_init host ∈ lw_tbl := Or.inl (im_6 (i := 45) rfl)
theorem mli_L_99 : Cond.methodLink RL 99 yX11_init ∈ lw_tbl ∨ ∃ host, Cond.methodLinkNest RL 99 yX11_init host ∈ lw_tbl := Or.inl (im_2 (i := 28) rfl)
theorem mli_L_102 : Cond.methodLink RL 102 yX12_init ∈ lw_tbl ∨ ∃ host, Cond.methodLinkNest RL 102 yX12_init host ∈ lw_tbl := Or.inl (im_20 (i := 14) rfl)
theorem k_bipushv_m28 : (Int8.ofInt (-28)).toInt32 = ((-28) : Int32) := by decide
theorem k_bipushv_m27 : (Int8.ofInt (-27)).toInt32 = ((-27) : Int32) := by decide
theorem k_bipushv_m26 : (Int8.ofInt (-26)).toInt32 = ((-26) : Int32) := by decide
theorem k_bipushv_m25 : (Int8.ofInt (-25)).toInt32 = ((-25) : Int32) := by decide
theorem k_bipushv_m24 : (Int8.ofInt (-24)).toInt32 = ((-24) : Int32) := by decide
theorem k_bipushv_m23 : (Int8.ofInt (-23)).toInt32 = ((-23) : Int32) := by decide
theorem k_bipushv_m22 : (Int8.ofInt (-22)).toInt32 = ((-22) : Int32) := by decide
theorem k_bipushv_m21 : (Int8.ofInt (-21)).toInt32 = ((-21) : Int32) := by decide
theorem k_bipushv_m20 : (Int8.ofInt (-20)).toInt32 = ((-20) : Int32) := by decide
theorem k_bipushv_m19 : (Int8.ofInt (-19)).toInt32 = ((-19) : Int32) := by decide
theorem k_bipushv_m18 : (Int8.ofInt (-18)).toInt32 = ((-18) : Int32) := by decide
theorem k_bipushv_m17 : (Int8.ofInt (-17)).toInt32 = ((-17) : Int32) := by decide
theorem k_bipushv_m16 : (Int8.ofInt (-16)).toInt32 = ((-16) : Int32) := by decide
theorem k_bipushv_m15 : (Int8.ofInt (-15)).toInt32 = ((-15) : Int32) := by decide
theorem k_bipushv_m14 : (Int8.ofInt (-14)).toInt32 = ((-14) : Int32) := by decide
theorem k_bipushv_m13 : (Int8.ofInt (-13)).toInt32 = ((-13) : Int32) := by decide
theorem k_bipushv_m12 : (Int8.ofInt (-12)).toInt32 = ((-12) : Int32) := by decide
theorem k_bipushv_m11 : (Int8.ofInt (-11)).toInt32 = ((-11) : Int32) := by decide
theorem k_bipushv_m6 : (Int8.ofInt (-6)).toInt32 = ((-6) : Int32) := by decide
theorem k_bipushv_m3 : (Int8.ofInt (-3)).toInt32 = ((-3) : Int32) := by decide
theorem k_bipushv_m2 : (Int8.ofInt (-2)).toInt32 = ((-2) : Int32) := by decide
theorem k_bipushv_6 : (Int8.ofInt (6)).toInt32 = (6 : Int32) := by decide
theorem k_bipushv_7 : (Int8.ofInt (7)).toInt32 = (7 : Int32) := by decide
theorem k_bipushv_8 : (Int8.ofInt (8)).toInt32 = (8 : Int32) := by decide
theorem k_bipushv_9 : (Int8.ofInt (9)).toInt32 = (9 : Int32) := by decide
theorem k_bipushv_10 : (Int8.ofInt (10)).toInt32 = (10 : Int32) := by decide
theorem k_bipushv_11 : (Int8.ofInt (11)).toInt32 = (11 : Int32) := by decide
theorem k_bipushv_12 : (Int8.ofInt (12)).toInt32 = (12 : Int32) := by decide
theorem k_bipushv_13 : (Int8.ofInt (13)).toInt32 = (13 : Int32) := by decide
theorem k_bipushv_14 : (Int8.ofInt (14)).toInt32 = (14 : Int32) := by decide
theorem k_bipushv_16 : (Int8.ofInt (16)).toInt32 = (16 : Int32) := by decide
theorem k_bipushv_17 : (Int8.ofInt (17)).toInt32 = (17 : Int32) := by decide
theorem k_bipushv_18 : (Int8.ofInt (18)).toInt32 = (18 : Int32) := by decide
theorem k_bipushv_20 : (Int8.ofInt (20)).toInt32 = (20 : Int32) := by decide
theorem k_bipushv_24 : (Int8.ofInt (24)).toInt32 = (24 : Int32) := by decide
theorem k_bipushv_30 : (Int8.ofInt (30)).toInt32 = (30 : Int32) := by decide
theorem k_bipushv_32 : (Int8.ofInt (32)).toInt32 = (32 : Int32) := by decide
theorem k_bipushv_39 : (Int8.ofInt (39)).toInt32 = (39 : Int32) := by decide
theorem k_bipushv_40 : (Int8.ofInt (40)).toInt32 = (40 : Int32) := by decide
theorem k_bipushv_41 : (Int8.ofInt (41)).toInt32 = (41 : Int32) := by decide
theorem k_bipushv_42 : (Int8.ofInt (42)).toInt32 = (42 : Int32) := by decide
theorem k_bipushv_43 : (Int8.ofInt (43)).toInt32 = (43 : Int32) := by decide
theorem k_bipushv_45 : (Int8.ofInt (45)).toInt32 = (45 : Int32) := by decide
theorem k_bipushv_47 : (Int8.ofInt (47)).toInt32 = (47 : Int32) := by decide
theorem k_bipushv_48 : (Int8.ofInt (48)).toInt32 = (48 : Int32) := by decide
theorem k_bipushv_50 : (Int8.ofInt (50)).toInt32 = (50 : Int32) := by decide
theorem k_bipushv_57 : (Int8.ofInt (57)).toInt32 = (57 : Int32) := by decide
theorem k_bipushv_59 : (Int8.ofInt (59)).toInt32 = (59 : Int32) := by decide
theorem k_bipushv_60 : (Int8.ofInt (60)).toInt32 = (60 : Int32) := by decide
theorem k_bipushv_61 : (Int8.ofInt (61)).toInt32 = (61 : Int32) := by decide
theorem k_bipushv_63 : (Int8.ofInt (63)).toInt32 = (63 : Int32) := by decide
theorem k_bipushv_64 : (Int8.ofInt (64)).toInt32 = (64 : Int32) := by decide
theorem k_bipushv_97 : (Int8.ofInt (97)).toInt32 = (97 : Int32) := by decide
theorem k_bipushv_99 : (Int8.ofInt (99)).toInt32 = (99 : Int32) := by decide
theorem k_bipushv_122 : (Int8.ofInt (122)).toInt32 = (122 : Int32) := by decide
theorem k_bipushv_127 : (Int8.ofInt (127)).toInt32 = (127 : Int32) := by decide
theorem k_iconstv_m8 : Int32.ofInt (-8) = ((-8) : Int32) := by decide
theorem k_iconstv_m1 : Int32.ofInt (-1) = ((-1) : Int32) := by decide
theorem k_iconstv_0 : Int32.ofInt (0) = (0 : Int32) := by decide
theorem k_iconstv_1 : Int32.ofInt (1) = (1 : Int32) := by decide
theorem k_iconstv_2 : Int32.ofInt (2) = (2 : Int32) := by decide
theorem k_iconstv_3 : Int32.ofInt (3) = (3 : Int32) := by decide
theorem k_iconstv_4 : Int32.ofInt (4) = (4 : Int32) := by decide
theorem k_iconstv_5 : Int32.ofInt (5) = (5 : Int32) := by decide
theorem k_iconstv_6 : Int32.ofInt (6) = (6 : Int32) := by decide
theorem k_sipushv_255 : (Int16.ofInt (255)).toInt32 = (255 : Int32) := by decide
theorem k_sipushv_448 : (Int16.ofInt (448)).toInt32 = (448 : Int32) := by decide
theorem k_sipushv_700 : (Int16.ofInt (700)).toInt32 = (700 : Int32) := by decide
theorem k_sipushv_999 : (Int16.ofInt (999)).toInt32 = (999 : Int32) := by decide
theorem k_sipushv_1400 : (Int16.ofInt (1400)).toInt32 = (1400 : Int32) := by decide
theorem k_sipushv_1599 : (Int16.ofInt (1599)).toInt32 = (1599 : Int32) := by decide
theorem k_sipushv_1640 : (Int16.ofInt (1640)).toInt32 = (1640 : Int32) := by decide
theorem k_sipushv_1800 : (Int16.ofInt (1800)).toInt32 = (1800 : Int32) := by decide
theorem k_sipushv_9999 : (Int16.ofInt (9999)).toInt32 = (9999 : Int32) := by decide
theorem k_sipushv_12345 : (Int16.ofInt (12345)).toInt32 = (12345 : Int32) := by decide
theorem k_sipushv_32767 : (Int16.ofInt (32767)).toInt32 = (32767 : Int32) := by decide
/-! ===== the JDK's String.length and charAt over the constants ===== -/
def MVs (yn : MethodName) : Prop := Cond.instanceMethod yn ∈ lw_tbl ∧ Cond.selects yn.cls yn yn ∈ lw_tbl ∧ yn.cls = "java/lang/String"
section GR7
variable {g : GX} {x : KX} {own : String} {cc : ByteArray} {nL d mc ms : Nat} {Q : State → Prop} {kc ks : Nat} {y : Lay} {M : Mem} {pc i : Nat} {L : List (Option Value)} {S : List Value} {tb : Tb}
theorem adV {k : Nat} (hk : k < nStr) : ad g (2000 + k) = g.2.2.2.1 (1000 + k) := by
  have hk' : k < 37 := hk
  unfold ad
  rw [if_neg (by omega), if_neg (by omega), show 2000 + k - 1000 = 1000 + k by omega]
theorem g_nret0 (C : CX g x own cc nL d mc ms) {e : Int32} {ty : FieldType} (R : RT0 g x Q (some ty) y (e, M)) (he : narrow ty (.int e) = .int e) (T : dck cc tb = true) (hi : tb[i]? = some (pc, .ireturn, 1)) : GG g x nL Q 0 0 y M pc L [.int e] := by
  intro H locs ls h1 h2 h4
  obtain ⟨rfl, hr⟩ := R
  exact W.zret C.1 C.2.1 hr he (fun t ht hw => ⟨rfl, by rw [ht]; exact h1, h2.F ht⟩) (fun q hq => h2.2.2 q hq) (dcg T hi) C.2.2.2.2.1
theorem g_i2c (C : CX g x own cc nL d mc ms) (T : dck cc tb = true) {a : Int32} (v : Int32) (hv : (a.toUInt32 % 65536).toInt32 = v) (hi : tb[i]? = some (pc, .i2c, 1)) (k : GG g x nL Q kc ks y M (pc + 1) L (.int v :: S)) : GG g x nL Q kc ks y M pc L (.int a :: S) :=
  fun H locs ls h1 h2 h4 => lv_i2c C.1 C.2.1 (dcg T hi) hv (k H locs ls h1 h2 h4)
/-- fields of a constant; statics; its row of bytes -/
theorem g_strF (C : CX g x "java/lang/String" cc nL d mc ms) (T : dck cc tb = true) {idx k : Nat} {n e : String} {v : Value} (hk : k < nStr) (hi : tb[i]? = some (pc, .getfield idx, 3)) (hw : Cond.fieldLink "java/lang/String" idx "java/lang/String" n e ∈ lw_tbl) (hE : va_OF "java/lang/String" n e (va g v) (g.2.2.2.1 k) (Ag g) g.1 g.1.heap) (kk : GG g x nL Q kc ks y M (pc + 3) L (v :: S)) : GG g x nL Q kc ks y M pc L (.ref (1000 + k) :: S) := by
  intro H locs ls h1 h2 h4
  have kk' := kk H locs ls h1 h2 h4
  show WX x H locs kc ks Q (F0 _ pc ls (.ref (ad g (1000 + k)) :: S.map (va g)))
  rw [SF.adK hk]
  exact vk_getf C.1 C.2.1 ((va_OF.moved (C.2.2.2.2.2.2.2.1).alike hE).kept C.low) h2 C.2.2.2.1 (C.word hw rfl) (fun _ h => h) (dcg T hi) kk'
theorem g_stat (C : CX g x own cc nL d mc ms) (T : dck cc tb = true) {idx : Nat} {c n e : String} {v : Value} (hi : tb[i]? = some (pc, .getstatic idx, 3)) (hw : Cond.fieldLink own idx c n e ∈ lw_tbl) (hE : va_Z c n e (va g v) (Ag g) g.1 g.1.heap) (kk : GG g x nL Q kc ks y M (pc + 3) L (v :: S)) : GG g x nL Q kc ks y M pc L S := by
  intro H locs ls h1 h2 h4
  exact va_gets C.1 C.2.1 ((va_Z.moved (C.2.2.2.2.2.2.2.1).alike hE).kept C.low) h2 C.2.2.2.1 (C.word hw rfl) (fun _ h => h) (dcg T hi) (kk H locs ls h1 h2 h4)
theorem g_sbl (C : CX g x own cc nL d mc ms) (T : dck cc tb = true) {k : Nat} (hk : k < nStr) (hi : tb[i]? = some (pc, .arraylength, 1)) (kk : GG g x nL Q kc ks y M (pc + 1) L (.int (Int32.ofNat (strB k).length) :: S)) : GG g x nL Q kc ks y M pc L (.ref (2000 + k) :: S) := by
  intro H locs ls h1 h2 h4
  have kk' := kk H locs ls h1 h2 h4
  show WX x H locs kc ks Q (F0 _ pc ls (.ref (ad g (2000 + k)) :: S.map (va g)))
  rw [adV hk]
  exact va_tlen C.1 C.2.1 ((va_T.moved (C.2.2.2.2.2.2.2.1).alike (C.2.2.2.2.2.2.1.2.2.2.1.1 k hk).2.2.2.1).kept C.low) h2 rfl (dcg T hi) kk'
theorem g_sbb (C : CX g x own cc nL d mc ms) (T : dck cc tb = true) {k : Nat} {j : Int32} (hk : k < nStr) (hi : tb[i]? = some (pc, .baload, 1)) (hj : ¬ (j < 0 ∨ (strB k).length ≤ j.toNatClampNeg)) (kk : GG g x nL Q kc ks y M (pc + 1) L (.int ((strB k).getD j.toNatClampNeg 0) :: S)) : GG g x nL Q kc ks y M pc L (.int j :: .ref (2000 + k) :: S) := by
  intro H locs ls h1 h2 h4
  have kk' := kk H locs ls h1 h2 h4
  show WX x H locs kc ks Q (F0 _ pc ls (.int j :: .ref (ad g (2000 + k)) :: S.map (va g)))
  rw [adV hk]
  exact va_tb C.1 C.2.1 ((va_T.moved (C.2.2.2.2.2.2.2.1).alike (C.2.2.2.2.2.2.1.2.2.2.1.1 k hk).2.2.2.1).kept C.low) h2 hj rfl (dcg T hi) kk'
theorem preVs (C : CX g x own cc nL d mc ms) {H : Heap} {locs : List Loc} {k : Nat} {yn : MethodName} {av : List Value} (hk : k < nStr) (h1 : RelH g y M H) (h2 : va_S (Ag g) x.2.2.2.2.1.heap H locs) (hv : MVs yn) : PreV x.2.2.2.2.1 H yn.cls (ad g (1000 + k)) (PK g y (.ref (1000 + k) :: av) M) (av.map (va g)) := by
  obtain ⟨cell, c1, c2, c3, -⟩ := (va_O.moved (C.2.2.2.2.2.2.2.1).alike (C.2.2.2.2.2.2.1.2.2.2.1.1 k hk).1).kept (C.low) |>.kept h2.2.1
  refine ⟨PK_blind, ⟨cell, by rw [SF.adK hk]; exact c1, c2, by rw [hv.2.2]; exact c3⟩, fun U hU hW => ⟨rfl, by rw [hU]; exact h1, State.WarmedH.trans C.2.2.2.2.2.2.2.1 hW, ?_, ?_⟩⟩
  · rw [hU]; exact Nat.le_trans C.2.2.2.2.2.2.2.2.1 h2.1
  · intro q hq
    rw [hU, h2.2.1 q (Nat.lt_of_lt_of_le hq C.2.2.2.2.2.2.2.2.1) (Nat.not_le.mpr hq)]
    exact C.2.2.2.2.2.2.2.2.2 q hq
theorem g_callVs (C : CX g x own cc nL d mc ms) (T : dck cc tb = true) {idx k n maxL d2 : Nat} {yn : MethodName} {c2 : ByteArray} {ret : Option FieldType} {f : Option (Int32 × Mem)} {r : Int32} {M1 : Mem} (av : List Value) (hi : tb[i]? = some (pc, .invokevirtual idx, 3)) (hW : MW yn c2 maxL ret n) (hV : MVs yn) (hl : Cond.methodLink own idx yn ∈ lw_tbl) (hk : k < nStr) (hd : Nat.ble (d2 + 1) d = true) (hm : Nat.ble maxL 80 = true) (hn : av.length = n) (hS8 : Nat.ble ((S.map fun v => v.category).sum) 8 = true)
    (hc : C0 g x.2.1 yn c2 maxL ret d2 y (.ref (1000 + k) :: av) M f) (hf : f = some (r, M1)) (hkc : Nat.ble kc mc = true) (hks : Nat.ble ks ms = true) {S' : List Value} (hst : av.reverse ++ .ref (1000 + k) :: S = S') (kk : GG g x nL Q kc ks y M1 (pc + 3) L (resv ret.isSome r ++ S)) : GG g x nL Q kc ks y M pc L S' := by
  intro H locs ls h1 h2 h4
  subst hst
  have hcw : CallW x.2.2.2.1 x.2.2.2.2.1 x.2.2.2.2.2.2.1 own yn.cls idx yn c2 maxL ret [Cond.code yn c2 maxL ret] (rmD d2 0 0) 0 0 n := ⟨callB0 C hW hl hd hm, C.word hV.1 rfl, C.word hV.2.1 rfl⟩
  have hR : RLE x.2.2.2.1 d mc ms := C.2.2.2.2.2.1
  refine after0 (mc := 0) (ms := 0) h2 h4 (va_runV ⟨C.1, C.2.1, C.2.2.1, C.2.2.2.1, fun w (hw : w ∈ ([] : List Cond)) => absurd hw List.not_mem_nil⟩ (hc _ hf) hcw (preVs C hk h1 h2 hV) rfl ?_ h4.1.1 ?_ ?_ (dcg T hi) ?_) kk
  · rw [List.length_map]; exact hn
  · show List.map (va g) (av.reverse ++ .ref (1000 + k) :: S) = (av.map (va g)).reverse ++ .ref (ad g (1000 + k)) :: S.map (va g)
    rw [List.map_append, List.map_reverse]; rfl
  · show 2 * 0 + _ ≤ 8
    have := cat_le (g := g) hS8
    omega
  · exact ⟨by rw [hR.2.2.1]; have := Nat.le_of_ble_eq_true hkc; omega, by rw [hR.2.2.2]; have := Nat.le_of_ble_eq_true hks; omega⟩
end GR7
theorem shr_0 (v : Int32) : v >>> ((0 : Int32) &&& 31) = v := by
  rw [show ((0 : Int32) &&& 31) = 0 by decide]
  exact Int32.shiftRight_zero
def chN (v : Int32) : Int32 := ((v &&& 255).toUInt32 % 65536).toInt32
theorem ch_ok : ∀ k, k < 37 → ∀ j, j < (strB k).length → chN ((strB k).getD j 0) = (strB k).getD j 0 ∧ narrow .char (.int ((strB k).getD j 0)) = .int ((strB k).getD j 0) := by decide +kernel
theorem sl_ok : ∀ k, k < 37 → (strB k).length < 100 := by decide +kernel

def tbs_len : Tb := [(0, .aload_n 0, 1), (1, .getfield 9, 3), (4, .arraylength, 1), (5, .aload_n 0, 1), (6, .invokevirtual 335, 3), (9, .ishr, 1), (10, .ireturn, 1)]
theorem tbs_len_ok : dck cJ0_length_8abf5 tbs_len = true := by decide +kernel
theorem mws_len : MW yJ0_length_8abf5 cJ0_length_8abf5 1 (some .int) 0 := ⟨cw_853, (im_2 (i := 18) rfl), by decide, by decide +kernel⟩
def tbs_cod : Tb := [(0, .getstatic 38, 3), (3, .ifCond .eq 10, 3), (6, .aload_n 0, 1), (7, .getfield 15, 3), (10, .goto 4, 3), (13, .iconst 1, 1), (14, .ireturn, 1)]
theorem tbs_cod_ok : dck cJ0_coder_7d493 tbs_cod = true := by decide +kernel
theorem mws_cod : MW yJ0_coder_7d493 cJ0_coder_7d493 1 (some .byte) 0 := ⟨cw_857, (im_2 (i := 18) rfl), by decide, by decide +kernel⟩
def tbs_cha : Tb := [(0, .aload_n 0, 1), (1, .invokevirtual 492, 3), (4, .ifCond .eq 12, 3), (7, .aload_n 0, 1), (8, .getfield 9, 3), (11, .iload_n 1, 1), (12, .invokestatic 495, 3), (15, .ireturn, 1), (16, .aload_n 0, 1), (17, .getfield 9, 3), (20, .iload_n 1, 1), (21, .invokestatic 498, 3), (24, .ireturn, 1)]
theorem tbs_cha_ok : dck cJ0_charAt_5068e tbs_cha = true := by decide +kernel
theorem mws_cha : MW yJ0_charAt_5068e cJ0_charAt_5068e 2 (some .char) 1 := ⟨cw_863, (im_2 (i := 18) rfl), by decide, by decide +kernel⟩
def tbs_lat : Tb := [(0, .getstatic 38, 3), (3, .ifCond .eq 14, 3), (6, .aload_n 0, 1), (7, .getfield 15, 3), (10, .ifCond .ne 7, 3), (13, .iconst 1, 1), (14, .goto 4, 3), (17, .iconst 0, 1), (18, .ireturn, 1)]
theorem tbs_lat_ok : dck cJ0_isLatin1_aae02 tbs_lat = true := by decide +kernel
theorem mws_lat : MW yJ0_isLatin1_aae02 cJ0_isLatin1_aae02 1 (some .boolean) 0 := ⟨cw_867, (im_2 (i := 18) rfl), by decide, by decide +kernel⟩
def tbs_lch : Tb := [(0, .iload_n 1, 1), (1, .aload_n 0, 1), (2, .arraylength, 1), (3, .invokestatic 9, 3), (6, .aload_n 0, 1), (7, .iload_n 1, 1), (8, .baload, 1), (9, .sipush 255, 3), (12, .iand, 1), (13, .i2c, 1), (14, .ireturn, 1)]
theorem tbs_lch_ok : dck cJ1_charAt_3b067 tbs_lch = true := by decide +kernel
theorem mws_lch : MW yJ1_charAt_3b067 cJ1_charAt_3b067 2 (some .char) 2 := ⟨cw_870, (im_2 (i := 19) rfl), by decide, by decide +kernel⟩
def tbs_chk : Tb := [(0, .iload_n 0, 1), (1, .iload_n 1, 1), (2, .getstatic 1053, 3), (5, .invokestatic 1059, 3), (8, .pop, 1), (9, .return_, 1)]
theorem tbs_chk_ok : dck cJ0_checkIndex_df160 tbs_chk = true := by decide +kernel
theorem mws_chk : MW yJ0_checkIndex_df160 cJ0_checkIndex_df160 2 none 2 := ⟨cw_873, (im_2 (i := 18) rfl), by decide, by decide +kernel⟩
def tbs_pre : Tb := [(0, .iload_n 0, 1), (1, .ifCond .lt 8, 3), (4, .iload_n 0, 1), (5, .iload_n 1, 1), (6, .if_icmp .lt 10, 3), (9, .aload_n 2, 1), (10, .iload_n 0, 1), (11, .iload_n 1, 1), (12, .invokestatic 95, 3), (15, .athrow, 1), (16, .iload_n 0, 1), (17, .ireturn, 1)]
theorem tbs_pre_ok : dck cJ3_checkIndex_8e157 tbs_pre = true := by decide +kernel
theorem mws_pre : MW yJ3_checkIndex_8e157 cJ3_checkIndex_8e157 3 (some .int) 3 := ⟨cw_878, (im_2 (i := 20) rfl), by decide, by decide +kernel⟩
theorem mvs_len : MVs yJ0_length_8abf5 := ⟨(im_13 (i := 15) rfl), (im_13 (i := 16) rfl), rfl⟩
theorem mvs_cod : MVs yJ0_coder_7d493 := ⟨(im_13 (i := 18) rfl), (im_13 (i := 19) rfl), rfl⟩
theorem mvs_cha : MVs yJ0_charAt_5068e := ⟨(im_13 (i := 22) rfl), (im_13 (i := 23) rfl), rfl⟩
theorem mvs_lat : MVs yJ0_isLatin1_aae02 := ⟨(im_13 (i := 25) rfl), (im_13 (i := 26) rfl), rfl⟩
theorem msts_lch : Cond.static yJ1_charAt_3b067 ∈ lw_tbl := (im_13 (i := 28) rfl)
theorem msts_chk : Cond.static yJ0_checkIndex_df160 ∈ lw_tbl := (im_13 (i := 30) rfl)
theorem msts_pre : Cond.static yJ3_checkIndex_8e157 ∈ lw_tbl := (im_13 (i := 33) rfl)
theorem mls_c : Cond.methodLink "java/lang/String" 335 yJ0_coder_7d493 ∈ lw_tbl := (im_13 (i := 17) rfl)
theorem mls_l : Cond.methodLink "java/lang/String" 492 yJ0_isLatin1_aae02 ∈ lw_tbl := (im_13 (i := 24) rfl)
theorem mls_h : Cond.methodLink "java/lang/String" 495 yJ1_charAt_3b067 ∈ lw_tbl := (im_13 (i := 27) rfl)
theorem mls_x : Cond.methodLink "java/lang/StringLatin1" 9 yJ0_checkIndex_df160 ∈ lw_tbl := (im_13 (i := 29) rfl)
theorem mls_p : Cond.methodLink "java/lang/String" 1059 yJ3_checkIndex_8e157 ∈ lw_tbl := (im_13 (i := 32) rfl)
theorem fls_val : Cond.fieldLink "java/lang/String" 9 "java/lang/String" "value" "[B" ∈ lw_tbl := (im_28 (i := 34) rfl)
theorem fls_cod : Cond.fieldLink "java/lang/String" 15 "java/lang/String" "coder" "B" ∈ lw_tbl := (im_28 (i := 35) rfl)
theorem fls_cmp : Cond.fieldLink "java/lang/String" 38 "java/lang/String" "COMPACT_STRINGS" "Z" ∈ lw_tbl := (im_13 (i := 20) rfl)
theorem fls_fmt : Cond.fieldLink "java/lang/String" 1053 "jdk/internal/util/Preconditions" "SIOOBE_FORMATTER" "Ljava/util/function/BiFunction;" ∈ lw_tbl := (im_13 (i := 31) rfl)
theorem sl_X10_56 : Cond.methodLink RX10 56 yJ0_length_8abf5 ∈ lw_tbl := (im_13 (i := 14) rfl)
theorem sl_X10_62 : Cond.methodLink RX10 62 yJ0_charAt_5068e ∈ lw_tbl := (im_13 (i := 21) rfl)
theorem sl_X12_209 : Cond.methodLink RX12 209 yJ0_length_8abf5 ∈ lw_tbl := (im_23 (i := 4) rfl)
theorem sl_X12_212 : Cond.methodLink RX12 212 yJ0_charAt_5068e ∈ lw_tbl := (im_23 (i := 5) rfl)
