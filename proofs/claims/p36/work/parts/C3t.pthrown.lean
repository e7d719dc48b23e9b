/-! ===== the chains that compare what is thrown ===== -/
theorem thrown_s {y : Lay} (hy : LY y) {M : Mem} : f_X12_thrown y 73 M = some (M.1 73 4) := by
  unfold f_X12_thrown
  simp only [gK_t (k_73 hy), gN_t (r := 73) (by decide), r_73_0 hy, r_73_1 hy, r_73_2 hy, r_73_5 hy, r_73_6 hy, r_73_7 hy, r_73_8 hy, r_73_9 hy, r_73_10 hy, r_73_11 hy, r_73_12 hy, r_73_13 hy, r_73_14 hy, r_73_28 hy, r_73_29 hy, r_73_30 hy, r_73_38 hy, r_73_39 hy, r_73_40 hy, r_73_42 hy, r_73_43 hy, r_73_44 hy, r_73_45 hy, r_73_46 hy, r_73_47 hy, r_73_48 hy, r_73_49 hy, r_73_50 hy, r_73_51 hy, r_73_53 hy, r_73_58 hy, r_73_59 hy, r_73_60 hy, r_73_61 hy, r_73_62 hy, r_73_63 hy]
section CHT
variable {Q : Int32 → Prop} {J : Mem → Option Int32}
/-- both called, codes and answers compared -/
theorem chC {y : Lay} (hy : LY y) {A A' : St} {M : Mem} {c : Nat} {R : Int32} {x : Option (Int32 × Mem)} {m : Mem → Option (Int32 × Mem)} (h : MR A M) (v : VAL A') (hc : c ≤ 2) (hl : wp x (OL A' c R M)) (hm : ∀ N, MR A N → wp (m N) (OM A' (c, R) N)) (hJ : ∀ N, HX N → wp (J N) Q) :
    wp (c0 x (fun (r : Int32) (M1 : Mem) => gK y 73 (0, 12) (c0 (m M1) fun (b : Int32) (M2 : Mem) => cp (f_X12_thrown y 73 M2) fun (t : Int32) => br (t = r) (jn (fun (_u : Unit) => J M2) fun j => br (r = 0) (gA y 110 3 (0 : Int32) (br ((lg_cmp (M2.2.1 110 (0 : Int32).toNatClampNeg) (b.toInt64)) = 0) (j ()) (some (0 : Int32)))) (j ())) (some (0 : Int32))))) Q := by
  refine wp_c0 _ hl (fun r M1 q => ?_)
  obtain ⟨q1, q2, q3, q4⟩ := q
  rw [gK_t (k_73 hy)]
  refine wp_c0 _ (hm M1 (h.kM q4)) (fun b M2 p => ?_)
  obtain ⟨p1, p2, p3, p4⟩ := p
  dsimp only at q1 q2 q3 q4 p1 p2 p3 p4
  have hN : HX M2 := ⟨A', v, q3.kC p4, p3⟩
  rw [thrown_s hy, cp_s, p1, q1]
  refine wp_brt rfl ?_
  rw [jn_s]
  refine wp_br (fun e => ?_) (fun _ => hJ M2 hN)
  have ec : c = 0 := (n2_inj (by omega) (by decide)).mp e
  rw [gA_t (k_110 hy) (by decide), zcn, p4.1, q2 ec, p2 ec]
  exact wp_brt cmp_eq (hJ M2 hN)
/-- truth values -/
theorem chB {y : Lay} (hy : LY y) {A A' : St} {M : Mem} {c : Nat} {R : Int32} {x : Option (Int32 × Mem)} {m : Mem → Option (Int32 × Mem)} (h : MR A M) (v : VAL A') (hc : c ≤ 2) (hB : c = 0 → R = 0 ∨ R = 1) (hl : wp x (OL A' c R M)) (hm : ∀ N, MR A N → wp (m N) (OM A' (c, R) N)) (hJ : ∀ N, HX N → wp (J N) Q) :
    wp (c0 x (fun (r : Int32) (M1 : Mem) => gK y 73 (0, 12) (c0 (m M1) fun (b : Int32) (M2 : Mem) => cp (f_X12_thrown y 73 M2) fun (t : Int32) => br (t = r) (jn (fun (_u : Unit) => J M2) fun j => br (r = 0) (gA y 110 3 (0 : Int32) (jn (fun (w : Int64) => br ((lg_cmp (M2.2.1 110 (0 : Int32).toNatClampNeg) w) = 0) (j ()) (some (0 : Int32))) fun i => br (b = 0) (i (0 : Int64)) (i (1 : Int64)))) (j ())) (some (0 : Int32))))) Q := by
  refine wp_c0 _ hl (fun r M1 q => ?_)
  obtain ⟨q1, q2, q3, q4⟩ := q
  rw [gK_t (k_73 hy)]
  refine wp_c0 _ (hm M1 (h.kM q4)) (fun b M2 p => ?_)
  obtain ⟨p1, p2, p3, p4⟩ := p
  dsimp only at q1 q2 q3 q4 p1 p2 p3 p4
  have hN : HX M2 := ⟨A', v, q3.kC p4, p3⟩
  rw [thrown_s hy, cp_s, p1, q1]
  refine wp_brt rfl ?_
  rw [jn_s]
  refine wp_br (fun e => ?_) (fun _ => hJ M2 hN)
  have ec : c = 0 := (n2_inj (by omega) (by decide)).mp e
  rw [gA_t (k_110 hy) (by decide), zcn, p4.1, q2 ec, p2 ec, jn_s]
  rcases hB ec with e2 | e2
  · rw [e2]
    exact wp_brt rfl (wp_brt (by decide) (hJ M2 hN))
  · rw [e2]
    exact wp_brf (by decide) (wp_brt (by decide) (hJ M2 hN))
end CHT
