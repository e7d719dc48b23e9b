/-! ===== the law's calls, one by one ===== -/
section CLL
variable {Q : Int32 → Prop} {J : Mem → Option Int32}
theorem u_feed {y : Lay} (hy : LY y) {A : St} {M : Mem} (h : HR A M) (a b c d e : Int32) (hJ : ∀ N, HX N → wp (J N) Q) :
    wp (gK y 1 (0, 11) (c0 (f_X11_feed y 1 a b c d e M) (fun (r : Int32) (M1 : Mem) => gK y 73 (0, 12) (c0 (f_X12_feed y 73 a b c d e M1) fun (b : Int32) (M2 : Mem) => J M2)))) Q :=
  ch1U hy h.2.2 (feed_val h.1 a b c d e) (feed_c hy h.2.1 h.1 a b c d e) (fun N hN => feed_m hy hN h.1 a b c d e) hJ
theorem b_count (A : St) (w : Int32) : (countP A w).1 ≤ 1 := by
  unfold countP
  repeat' split
  all_goals first | exact Nat.zero_le _ | exact Nat.le_refl _
theorem u_count {y : Lay} (hy : LY y) {A : St} {M : Mem} (h : HR A M) (w : Int32) (hJ : ∀ N, HX N → wp (J N) Q) :
    wp (c0 (f_L_count y 1 w 110 M) (fun (r : Int32) (M1 : Mem) => gK y 73 (0, 12) (c0 (f_X12_count y 73 w M1) fun (b : Int32) (M2 : Mem) => J M2))) Q := by
  unfold f_L_count
  exact chU hy h.2.2 (h.1) (OL.u (lop1 hy (count_c hy h.2.1 h.1 w) (b_count A w))) (fun N hN => OM.u (count_m hy hN h.1 w)) hJ
theorem b_cell (A : St) (c w : Int32) : (cellP A c w).1 ≤ 1 := by
  unfold cellP
  repeat' split
  all_goals first | exact Nat.zero_le _ | exact Nat.le_refl _
theorem u_cell {y : Lay} (hy : LY y) {A : St} {M : Mem} (h : HR A M) (c w : Int32) (hJ : ∀ N, HX N → wp (J N) Q) :
    wp (c0 (f_L_cell y 1 c w 110 M) (fun (r : Int32) (M1 : Mem) => gK y 73 (0, 12) (c0 (f_X12_cell y 73 c w M1) fun (b : Int32) (M2 : Mem) => J M2))) Q := by
  unfold f_L_cell
  exact chU hy h.2.2 (h.1) (OL.u (lop1 hy (cell_c hy h.2.1 h.1 c w) (b_cell A c w))) (fun N hN => OM.u (cell_m hy hN h.1 c w)) hJ
theorem b_girl (A : St) (g w : Int32) : (girlP A g w).1 ≤ 1 := by
  unfold girlP
  repeat' split
  all_goals first | exact Nat.zero_le _ | exact Nat.le_refl _
theorem u_girl {y : Lay} (hy : LY y) {A : St} {M : Mem} (h : HR A M) (g w : Int32) (hJ : ∀ N, HX N → wp (J N) Q) :
    wp (c0 (f_L_girl y 1 g w 110 M) (fun (r : Int32) (M1 : Mem) => gK y 73 (0, 12) (c0 (f_X12_girl y 73 g w M1) fun (b : Int32) (M2 : Mem) => J M2))) Q := by
  unfold f_L_girl
  exact chU hy h.2.2 (h.1) (OL.u (lop1 hy (girl_c hy h.2.1 h.1 g w) (b_girl A g w))) (fun N hN => OM.u (girl_m hy hN h.1 g w)) hJ
theorem u_days {y : Lay} (hy : LY y) {A : St} {M : Mem} (h : HR A M) (n : Int32) (hJ : ∀ N, HX N → wp (J N) Q) :
    wp (gK y 1 (0, 11) (c0 (f_X11_days y 1 n M) (fun (r : Int32) (M1 : Mem) => gK y 73 (0, 12) (c0 (f_X12_days y 73 n M1) fun (b : Int32) (M2 : Mem) => J M2)))) Q :=
  ch1U hy h.2.2 (days_val h.1 n) (days_c hy h.2.1 h.1 n) (fun N hN => days_m hy hN h.1 n) hJ
theorem b_rest (A : St) (g a : Int32) : (restP A g a).1 ≤ 1 := by
  unfold restP
  repeat' split
  all_goals first | exact Nat.zero_le _ | exact Nat.le_refl _
theorem bb_rest (A : St) (g a : Int32) (ha : a = 0 ∨ a = 1) : (restP A g a).1 = 0 → (restP A g a).2 = 0 ∨ (restP A g a).2 = 1 := by
  unfold restP
  repeat' split
  all_goals first | exact fun _ => Or.inl rfl | exact fun _ => Or.inr rfl | exact fun q => absurd q (by decide)
theorem u_rest {y : Lay} (hy : LY y) {A : St} {M : Mem} (h : HR A M) (g a : Int32) (ha : a = 0 ∨ a = 1) (hJ : ∀ N, HX N → wp (J N) Q) :
    wp (c0 (f_L_rest y 1 g a 110 M) (fun (r : Int32) (M1 : Mem) => gK y 73 (0, 12) (c0 (f_X12_rest y 73 g a M1) fun (b : Int32) (M2 : Mem) => J M2))) Q := by
  unfold f_L_rest
  exact chU hy h.2.2 (rest_val h.1 g a) (OL.u (lopB hy (rest_c hy h.2.1 h.1 g a ha) (b_rest A g a) (bb_rest A g a ha))) (fun N hN => OM.u (rest_m hy hN h.1 g a)) hJ
theorem b_go (A : St) (g c : Int32) : (goP A g c).1 ≤ 1 := by
  unfold goP
  repeat' split
  all_goals first | exact Nat.zero_le _ | exact Nat.le_refl _
theorem u_go {y : Lay} (hy : LY y) {A : St} {M : Mem} (h : HR A M) (g c : Int32) (hJ : ∀ N, HX N → wp (J N) Q) :
    wp (c0 (f_L_go y 1 g c 110 M) (fun (r : Int32) (M1 : Mem) => gK y 73 (0, 12) (c0 (f_X12_go y 73 g c M1) fun (b : Int32) (M2 : Mem) => J M2))) Q := by
  unfold f_L_go
  exact chU hy h.2.2 (go_val h.1 g c) (OL.u (lop1 hy (go_c hy h.2.1 h.1 g c) (b_go A g c))) (fun N hN => OM.u (go_m hy hN h.1 g c)) hJ
theorem u_bag {y : Lay} (hy : LY y) {A : St} {M : Mem} (h : HR A M) (n : Int32) (hJ : ∀ N, HX N → wp (J N) Q) :
    wp (gK y 1 (0, 11) (c0 (f_X11_bag y 1 n M) (fun (r : Int32) (M1 : Mem) => gK y 73 (0, 12) (c0 (f_X12_bag y 73 n M1) fun (b : Int32) (M2 : Mem) => J M2)))) Q :=
  ch1U hy h.2.2 (bag_val h.1 n) (bag_c hy h.2.1 h.1 n) (fun N hN => bag_m hy hN h.1 n) hJ
theorem b_peg (A : St) (c a : Int32) : (pegP A c a).1 ≤ 1 := by
  unfold pegP
  repeat' split
  all_goals first | exact Nat.zero_le _ | exact Nat.le_refl _
theorem u_peg {y : Lay} (hy : LY y) {A : St} {M : Mem} (h : HR A M) (c a : Int32) (ha : a = 0 ∨ a = 1) (hJ : ∀ N, HX N → wp (J N) Q) :
    wp (c0 (f_L_peg y 1 c a 110 M) (fun (r : Int32) (M1 : Mem) => gK y 73 (0, 12) (c0 (f_X12_peg y 73 c a M1) fun (b : Int32) (M2 : Mem) => J M2))) Q := by
  unfold f_L_peg
  exact chU hy h.2.2 (peg_val h.1 c a ha) (OL.u (lop1 hy (peg_c hy h.2.1 h.1 c a ha) (b_peg A c a))) (fun N hN => OM.u (peg_m hy hN h.1 c a)) hJ
theorem u_undo {y : Lay} (hy : LY y) {A : St} {M : Mem} (h : HR A M) (hJ : ∀ N, HX N → wp (J N) Q) :
    wp (gK y 1 (0, 11) (c0 (f_X11_undo y 1 M) (fun (r : Int32) (M1 : Mem) => gK y 73 (0, 12) (c0 (f_X12_undo y 73 M1) fun (b : Int32) (M2 : Mem) => J M2)))) Q :=
  ch1U hy h.2.2 (undo_val h.1) (undo_c hy h.2.1 h.1) (fun N hN => undo_m hy hN h.1) hJ
theorem b_then (A : St) (c n : Int32) : (thenP A c n).1 ≤ 2 := by
  unfold thenP
  repeat' split
  all_goals first | exact Nat.zero_le _ | exact Nat.le_refl _ | exact Nat.le_succ _
theorem u_then {y : Lay} (hy : LY y) {A : St} {M : Mem} (h : HR A M) (c n : Int32) (hJ : ∀ N, HX N → wp (J N) Q) :
    wp (c0 (f_L_then y 1 c n 110 M) (fun (r : Int32) (M1 : Mem) => gK y 73 (0, 12) (c0 (f_X12_then y 73 c n M1) fun (b : Int32) (M2 : Mem) => J M2))) Q := by
  unfold f_L_then
  exact chU hy h.2.2 (h.1) (OL.u (lop12 hy (then_c hy h.2.1 h.1 c n) (b_then A c n))) (fun N hN => OM.u (then_m hy hN h.1 c n)) hJ
theorem b_sky (A : St) (n w : Int32) : (skyP A n w).1 ≤ 2 := by
  unfold skyP
  repeat' split
  all_goals first | exact Nat.zero_le _ | exact Nat.le_refl _ | exact Nat.le_succ _
theorem u_sky {y : Lay} (hy : LY y) {A : St} {M : Mem} (h : HR A M) (n w : Int32) (hJ : ∀ N, HX N → wp (J N) Q) :
    wp (c0 (f_L_sky y 1 n w 110 M) (fun (r : Int32) (M1 : Mem) => gK y 73 (0, 12) (c0 (f_X12_sky y 73 n w M1) fun (b : Int32) (M2 : Mem) => J M2))) Q := by
  unfold f_L_sky
  exact chU hy h.2.2 (h.1) (OL.u (lop12 hy (sky_c hy h.2.1 h.1 n w) (b_sky A n w))) (fun N hN => OM.u (sky_m hy hN h.1 n w)) hJ
theorem b_overdone (A : St) (n : Int32) : ((ovdP A n).1 = 0 ∧ ovdPm A n = (0, (ovdP A n).2)) ∨ ((ovdP A n).1 = 2 ∧ ovdPm A n = (1, (ovdP A n).2)) := by
  unfold ovdP ovdPm
  repeat' split
  all_goals first | exact Or.inl ⟨rfl, rfl⟩ | exact Or.inr ⟨rfl, rfl⟩
theorem u_overdone {y : Lay} (hy : LY y) {A : St} {M : Mem} (h : HR A M) (n : Int32) (hJ : ∀ N, HX N → wp (J N) Q) :
    wp (c0 (f_L_overdone y 1 n 110 M) (fun (r : Int32) (M1 : Mem) => gK y 73 (0, 12) (c0 (f_X12_overdone y 73 n M1) fun (b : Int32) (M2 : Mem) => J M2))) Q := by
  unfold f_L_overdone
  rcases b_overdone A n with ⟨e1, e2⟩ | ⟨e1, e2⟩
  · exact chU hy h.2.2 h.1 (OL.u (lop2 hy (overdone_c hy h.2.1 h.1 n) (c := 0) (Or.inl ⟨e1, rfl⟩))) (fun N hN => OM.u (overdone_m hy hN h.1 n)) hJ
  · exact chU hy h.2.2 h.1 (OL.u (lop2 hy (overdone_c hy h.2.1 h.1 n) (c := 1) (Or.inr ⟨e1, rfl⟩))) (fun N hN => OM.u (overdone_m hy hN h.1 n)) hJ
theorem b_first (A : St) (c : Int32) : (firP A c).1 ≤ 1 := by
  unfold firP
  repeat' split
  all_goals first | exact Nat.zero_le _ | exact Nat.le_refl _
theorem u_first {y : Lay} (hy : LY y) {A : St} {M : Mem} (h : HR A M) (c : Int32) (hJ : ∀ N, HX N → wp (J N) Q) :
    wp (c0 (f_L_first y 1 c 110 M) (fun (r : Int32) (M1 : Mem) => gK y 73 (0, 12) (c0 (f_X12_first y 73 c M1) fun (b : Int32) (M2 : Mem) => J M2))) Q := by
  unfold f_L_first
  exact chU hy h.2.2 (h.1) (OL.u (lop1 hy (first_c hy h.2.1 h.1 c) (b_first A c))) (fun N hN => OM.u (first_m hy hN h.1 c)) hJ
theorem u_spent {y : Lay} (hy : LY y) {A : St} {M : Mem} (h : HR A M) (hJ : ∀ N, HX N → wp (J N) Q) :
    wp (gK y 1 (0, 11) (c0 (f_X11_spent y 1 M) (fun (r : Int32) (M1 : Mem) => gK y 73 (0, 12) (c0 (f_X12_spent y 73 M1) fun (b : Int32) (M2 : Mem) => J M2)))) Q :=
  ch1U hy h.2.2 (h.1) (spent_c hy h.2.1 h.1) (fun N hN => spent_m hy hN h.1) hJ
theorem b_streak (A : St) (w : Int32) : (strkP A w).1 ≤ 1 := by
  unfold strkP
  repeat' split
  all_goals first | exact Nat.zero_le _ | exact Nat.le_refl _
theorem u_streak {y : Lay} (hy : LY y) {A : St} {M : Mem} (h : HR A M) (w : Int32) (hJ : ∀ N, HX N → wp (J N) Q) :
    wp (c0 (f_L_streak y 1 w 110 M) (fun (r : Int32) (M1 : Mem) => gK y 73 (0, 12) (c0 (f_X12_streak y 73 w M1) fun (b : Int32) (M2 : Mem) => J M2))) Q := by
  unfold f_L_streak
  exact chU hy h.2.2 (h.1) (OL.u (lop1 hy (streak_c hy h.2.1 h.1 w) (b_streak A w))) (fun N hN => OM.u (streak_m hy hN h.1 w)) hJ
theorem b_patch (A : St) (c off : Int32) : (patchP A c off).1 ≤ 2 := by
  unfold patchP
  repeat' split
  all_goals first | exact Nat.zero_le _ | exact Nat.le_refl _ | exact Nat.le_succ _
theorem u_patch {y : Lay} (hy : LY y) {A : St} {M : Mem} (h : HR A M) (c off : Int32) (hJ : ∀ N, HX N → wp (J N) Q) :
    wp (c0 (f_L_patch y 1 c off 110 M) (fun (r : Int32) (M1 : Mem) => gK y 73 (0, 12) (c0 (f_X12_patch y 73 c off M1) fun (b : Int32) (M2 : Mem) => J M2))) Q := by
  unfold f_L_patch
  exact chU hy h.2.2 (h.1) (OL.u (lop12 hy (patch_c hy h.2.1 h.1 c off) (b_patch A c off))) (fun N hN => OM.u (patch_m hy hN h.1 c off)) hJ
theorem b_patches (A : St) (off : Int32) : ((ptsP A off).1 = 0 ∧ ptsPm A off = (0, (ptsP A off).2)) ∨ ((ptsP A off).1 = 2 ∧ ptsPm A off = (1, (ptsP A off).2)) := by
  unfold ptsP ptsPm
  repeat' split
  all_goals first | exact Or.inl ⟨rfl, rfl⟩ | exact Or.inr ⟨rfl, rfl⟩
theorem u_patches {y : Lay} (hy : LY y) {A : St} {M : Mem} (h : HR A M) (off : Int32) (hJ : ∀ N, HX N → wp (J N) Q) :
    wp (c0 (f_L_patches y 1 off 110 M) (fun (r : Int32) (M1 : Mem) => gK y 73 (0, 12) (c0 (f_X12_patches y 73 off M1) fun (b : Int32) (M2 : Mem) => J M2))) Q := by
  unfold f_L_patches
  rcases b_patches A off with ⟨e1, e2⟩ | ⟨e1, e2⟩
  · exact chU hy h.2.2 h.1 (OL.u (lop2 hy (patches_c hy h.2.1 h.1 off) (c := 0) (Or.inl ⟨e1, rfl⟩))) (fun N hN => OM.u (patches_m hy hN h.1 off)) hJ
  · exact chU hy h.2.2 h.1 (OL.u (lop2 hy (patches_c hy h.2.1 h.1 off) (c := 1) (Or.inr ⟨e1, rfl⟩))) (fun N hN => OM.u (patches_m hy hN h.1 off)) hJ
theorem b_way (A : St) (a b : Int32) : (wayP A a b).1 ≤ 1 := by
  unfold wayP
  repeat' split
  all_goals first | exact Nat.zero_le _ | exact Nat.le_refl _
theorem u_way {y : Lay} (hy : LY y) {A : St} {M : Mem} (h : HR A M) (a b : Int32) (hJ : ∀ N, HX N → wp (J N) Q) :
    wp (c0 (f_L_way y 1 a b 110 M) (fun (r : Int32) (M1 : Mem) => gK y 73 (0, 12) (c0 (f_X12_way y 73 a b M1) fun (b : Int32) (M2 : Mem) => J M2))) Q := by
  unfold f_L_way
  exact chU hy h.2.2 (h.1) (OL.u (lop1 hy (way_c hy h.2.1 h.1 a b) (b_way A a b))) (fun N hN => OM.u (way_m hy hN h.1 a b)) hJ
theorem u_toRest {y : Lay} (hy : LY y) {A : St} {M : Mem} (h : HR A M) (hJ : ∀ N, HX N → wp (J N) Q) :
    wp (gK y 1 (0, 11) (c0 (f_X11_toRest y 1 M) (fun (r : Int32) (M1 : Mem) => gK y 73 (0, 12) (c0 (f_X12_toRest y 73 M1) fun (b : Int32) (M2 : Mem) => J M2)))) Q :=
  ch1U hy h.2.2 (h.1) (toRest_c hy h.2.1 h.1) (fun N hN => toRest_m hy hN h.1) hJ
theorem b_toStand (A : St) (g w : Int32) : (tstP A g w).1 ≤ 1 := by
  unfold tstP
  repeat' split
  all_goals first | exact Nat.zero_le _ | exact Nat.le_refl _
theorem u_toStand {y : Lay} (hy : LY y) {A : St} {M : Mem} (h : HR A M) (g w : Int32) (hJ : ∀ N, HX N → wp (J N) Q) :
    wp (c0 (f_L_toStand y 1 g w 110 M) (fun (r : Int32) (M1 : Mem) => gK y 73 (0, 12) (c0 (f_X12_toStand y 73 g w M1) fun (b : Int32) (M2 : Mem) => J M2))) Q := by
  unfold f_L_toStand
  exact chU hy h.2.2 (h.1) (OL.u (lop1 hy (toStand_c hy h.2.1 h.1 g w) (b_toStand A g w))) (fun N hN => OM.u (toStand_m hy hN h.1 g w)) hJ
theorem b_toSwish (A : St) (g m : Int32) : (tswP A g m).1 ≤ 2 := by
  unfold tswP
  repeat' split
  all_goals first | exact Nat.zero_le _ | exact Nat.le_refl _ | exact Nat.le_succ _
theorem u_toSwish {y : Lay} (hy : LY y) {A : St} {M : Mem} (h : HR A M) (g m : Int32) (hJ : ∀ N, HX N → wp (J N) Q) :
    wp (c0 (f_L_toSwish y 1 g m 110 M) (fun (r : Int32) (M1 : Mem) => gK y 73 (0, 12) (c0 (f_X12_toSwish y 73 g m M1) fun (b : Int32) (M2 : Mem) => J M2))) Q := by
  unfold f_L_toSwish
  exact chU hy h.2.2 (h.1) (OL.u (lop12 hy (toSwish_c hy h.2.1 h.1 g m) (b_toSwish A g m))) (fun N hN => OM.u (toSwish_m hy hN h.1 g m)) hJ
theorem b_sent (A : St) (x cell : Int32) : (sentP A x cell).1 ≤ 2 := by
  unfold sentP
  repeat' split
  all_goals first | exact Nat.zero_le _ | exact Nat.le_refl _ | exact Nat.le_succ _
theorem u_sent {y : Lay} (hy : LY y) {A : St} {M : Mem} (h : HR A M) (x cell : Int32) (hJ : ∀ N, HX N → wp (J N) Q) :
    wp (c0 (f_L_sent y 1 x cell 110 M) (fun (r : Int32) (M1 : Mem) => gK y 73 (0, 12) (c0 (f_X12_sent y 73 x cell M1) fun (b : Int32) (M2 : Mem) => J M2))) Q := by
  unfold f_L_sent
  exact chU hy h.2.2 (h.1) (OL.u (lop12 hy (sent_c hy h.2.1 h.1 x cell) (b_sent A x cell))) (fun N hN => OM.u (sent_m hy hN h.1 x cell)) hJ
theorem b_band (A : St) (n : Int32) : ((bandP A n).1 = 0 ∧ bandPm A n = (0, (bandP A n).2)) ∨ ((bandP A n).1 = 2 ∧ bandPm A n = (1, (bandP A n).2)) := by
  unfold bandP bandPm
  repeat' split
  all_goals first | exact Or.inl ⟨rfl, rfl⟩ | exact Or.inr ⟨rfl, rfl⟩
theorem u_band {y : Lay} (hy : LY y) {A : St} {M : Mem} (h : HR A M) (n : Int32) (hJ : ∀ N, HX N → wp (J N) Q) :
    wp (c0 (f_L_band y 1 n 110 M) (fun (r : Int32) (M1 : Mem) => gK y 73 (0, 12) (c0 (f_X12_band y 73 n M1) fun (b : Int32) (M2 : Mem) => J M2))) Q := by
  unfold f_L_band
  rcases b_band A n with ⟨e1, e2⟩ | ⟨e1, e2⟩
  · exact chU hy h.2.2 h.1 (OL.u (lop2 hy (band_c hy h.2.1 h.1 n) (c := 0) (Or.inl ⟨e1, rfl⟩))) (fun N hN => OM.u (band_m hy hN h.1 n)) hJ
  · exact chU hy h.2.2 h.1 (OL.u (lop2 hy (band_c hy h.2.1 h.1 n) (c := 1) (Or.inr ⟨e1, rfl⟩))) (fun N hN => OM.u (band_m hy hN h.1 n)) hJ
theorem u_steady {y : Lay} (hy : LY y) {A : St} {M : Mem} (h : HR A M) (hJ : ∀ N, HX N → wp (J N) Q) :
    wp (gK y 1 (0, 11) (c0 (f_X11_steady y 1 M) (fun (r : Int32) (M1 : Mem) => gK y 73 (0, 12) (c0 (f_X12_steady y 73 M1) fun (b : Int32) (M2 : Mem) => J M2)))) Q :=
  ch1U hy h.2.2 (h.1) (steady_c hy h.2.1 h.1) (fun N hN => steady_m hy hN h.1) hJ
theorem b_steps (A : St) (g c : Int32) : (stepsP A g c).1 ≤ 1 := by
  unfold stepsP
  repeat' split
  all_goals first | exact Nat.zero_le _ | exact Nat.le_refl _
theorem u_steps {y : Lay} (hy : LY y) {A : St} {M : Mem} (h : HR A M) (g c : Int32) (hJ : ∀ N, HX N → wp (J N) Q) :
    wp (c0 (f_L_steps y 1 g c 110 M) (fun (r : Int32) (M1 : Mem) => gK y 73 (0, 12) (c0 (f_X12_steps y 73 g c M1) fun (b : Int32) (M2 : Mem) => J M2))) Q := by
  unfold f_L_steps
  exact chU hy h.2.2 (h.1) (OL.u (lop1 hy (steps_c hy h.2.1 h.1 g c) (b_steps A g c))) (fun N hN => OM.u (steps_m hy hN h.1 g c)) hJ
theorem b_nearest (A : St) (c : Int32) : (nearP A c).1 ≤ 1 := by
  unfold nearP
  repeat' split
  all_goals first | exact Nat.zero_le _ | exact Nat.le_refl _
theorem u_nearest {y : Lay} (hy : LY y) {A : St} {M : Mem} (h : HR A M) (c : Int32) (hJ : ∀ N, HX N → wp (J N) Q) :
    wp (c0 (f_L_nearest y 1 c 110 M) (fun (r : Int32) (M1 : Mem) => gK y 73 (0, 12) (c0 (f_X12_nearest y 73 c M1) fun (b : Int32) (M2 : Mem) => J M2))) Q := by
  unfold f_L_nearest
  exact chU hy h.2.2 (h.1) (OL.u (lop1 hy (nearest_c hy h.2.1 h.1 c) (b_nearest A c))) (fun N hN => OM.u (nearest_m hy hN h.1 c)) hJ
theorem b_missed (A : St) (g : Int32) : (misP A g).1 ≤ 1 := by
  unfold misP
  repeat' split
  all_goals first | exact Nat.zero_le _ | exact Nat.le_refl _
theorem u_missed {y : Lay} (hy : LY y) {A : St} {M : Mem} (h : HR A M) (g : Int32) (hJ : ∀ N, HX N → wp (J N) Q) :
    wp (c0 (f_L_missed y 1 g 110 M) (fun (r : Int32) (M1 : Mem) => gK y 73 (0, 12) (c0 (f_X12_missed y 73 g M1) fun (b : Int32) (M2 : Mem) => J M2))) Q := by
  unfold f_L_missed
  exact chU hy h.2.2 (h.1) (OL.u (lop1 hy (missed_c hy h.2.1 h.1 g) (b_missed A g))) (fun N hN => OM.u (missed_m hy hN h.1 g)) hJ
theorem b_see (A : St) (c n b : Int32) : (seeP A c n b).1 ≤ 1 := by
  unfold seeP
  repeat' split
  all_goals first | exact Nat.zero_le _ | exact Nat.le_refl _
theorem u_see {y : Lay} (hy : LY y) {A : St} {M : Mem} (h : HR A M) (c n b : Int32) (hJ : ∀ N, HX N → wp (J N) Q) :
    wp (c0 (f_L_see y 1 c n b 110 M) (fun (r : Int32) (M1 : Mem) => gK y 73 (0, 12) (c0 (f_X12_see y 73 c n b M1) fun (b : Int32) (M2 : Mem) => J M2))) Q := by
  unfold f_L_see
  exact chU hy h.2.2 (see_val h.1 c n b) (OL.u (lop1 hy (see_c hy h.2.1 h.1 c n b) (b_see A c n b))) (fun N hN => OM.u (see_m hy hN h.1 c n b)) hJ
theorem b_skilled (A : St) (w : Int32) : (skiP A w).1 ≤ 1 := by
  unfold skiP
  repeat' split
  all_goals first | exact Nat.zero_le _ | exact Nat.le_refl _
theorem u_skilled {y : Lay} (hy : LY y) {A : St} {M : Mem} (h : HR A M) (w : Int32) (hJ : ∀ N, HX N → wp (J N) Q) :
    wp (c0 (f_L_skilled y 1 w 110 M) (fun (r : Int32) (M1 : Mem) => gK y 73 (0, 12) (c0 (f_X12_skilled y 73 w M1) fun (b : Int32) (M2 : Mem) => J M2))) Q := by
  unfold f_L_skilled
  exact chU hy h.2.2 (h.1) (OL.u (lop1 hy (skilled_c hy h.2.1 h.1 w) (b_skilled A w))) (fun N hN => OM.u (skilled_m hy hN h.1 w)) hJ
theorem u_forget {y : Lay} (hy : LY y) {A : St} {M : Mem} (h : HR A M) (hJ : ∀ N, HX N → wp (J N) Q) :
    wp (gK y 1 (0, 11) (c0 (f_X11_forget y 1 M) (fun (r : Int32) (M1 : Mem) => gK y 73 (0, 12) (c0 (f_X12_forget y 73 M1) fun (b : Int32) (M2 : Mem) => J M2)))) Q :=
  ch1U hy h.2.2 (forget_val h.1) (forget_c hy h.2.1) (fun N hN => forget_m hy hN) hJ
theorem b_game (A : St) (g o w : Int32) : (gamP A g o w).1 ≤ 2 := by
  unfold gamP
  repeat' split
  all_goals first | exact Nat.zero_le _ | exact Nat.le_refl _ | exact Nat.le_succ _
theorem u_game {y : Lay} (hy : LY y) {A : St} {M : Mem} (h : HR A M) (g o w : Int32) (hJ : ∀ N, HX N → wp (J N) Q) :
    wp (c0 (f_L_game y 1 g o w 110 M) (fun (r : Int32) (M1 : Mem) => gK y 73 (0, 12) (c0 (f_X12_game y 73 g o w M1) fun (b : Int32) (M2 : Mem) => J M2))) Q := by
  unfold f_L_game
  exact chU hy h.2.2 (h.1) (OL.u (lop12 hy (game_c hy h.2.1 h.1 g o w) (b_game A g o w))) (fun N hN => OM.u (game_m hy hN h.1 g o w)) hJ
theorem u_image {y : Lay} (hy : LY y) {A : St} {M : Mem} (h : HR A M) (hJ : ∀ N, HX N → wp (J N) Q) :
    wp (gK y 1 (0, 11) (c0 (f_X11_image y 1 M) (fun (r : Int32) (M1 : Mem) => gK y 73 (0, 12) (c0 (f_X12_image y 73 M1) fun (b : Int32) (M2 : Mem) => J M2)))) Q :=
  ch1U hy h.2.2 (image_val h.1) (image_c hy h.2.1 h.1) (fun N hN => image_m hy hN h.1) hJ
theorem c_restore {y : Lay} (hy : LY y) {A : St} {M : Mem} (h : HR A M) (hJ : ∀ N, HX N → wp (J N) Q) :
    wp (gK y 1 (0, 11) (c0 (f_X11_restore y 1 M) (fun (r : Int32) (M1 : Mem) => gK y 73 (0, 12) (c0 (f_X12_restore y 73 M1) fun (b : Int32) (M2 : Mem) => br (r = b) (J M2) (some (0 : Int32)))))) Q :=
  ch1C hy h.2.2 (restore_val h.1) (restore_c hy h.2.1 h.1) (fun N hN => restore_m hy hN h.1) hJ
theorem u_look {y : Lay} (hy : LY y) {A : St} {M : Mem} (h : HR A M) (w : Int32) (hJ : ∀ N, HX N → wp (J N) Q) :
    wp (c0 (f_L_look y 1 w 110 M) (fun (r : Int32) (M1 : Mem) => gK y 73 (0, 12) (c0 (f_X12_look y 73 w M1) fun (b : Int32) (M2 : Mem) => J M2))) Q := by
  unfold f_L_look
  refine chU hy h.2.2 h.1 (A' := A) ?_ (fun N hN => wp_mono (look_m hy hN h.1 w) (fun o p => ⟨p.2.1, p.2.2.2⟩)) hJ
  obtain ⟨⟨e, r, M1⟩, ex, p1, p3, p4⟩ := look_c hy h.2.1 h.1 w
  have p1 : e = lookE w := p1
  have hE : lookE w ≤ 1 := by
    unfold lookE
    split
    · exact Nat.zero_le _
    · exact Nat.le_refl _
  rw [ex]
  exact OL.u (lop1 hy (P := (e, r)) (wp_some ⟨rfl, fun _ => rfl, p3, p4⟩) (by rw [p1]; exact hE))
theorem u_skies {y : Lay} (hy : LY y) {A : St} {M : Mem} (h : HR A M) (s n w : Int32) (hJ : ∀ N, HX N → wp (J N) Q) :
    wp (c0 (f_L_skies y 1 s n w 110 M) (fun (r : Int32) (M1 : Mem) => gK y 73 (0, 12) (c0 (f_X12_skies y 73 s n w M1) fun (b : Int32) (M2 : Mem) => J M2))) Q := by
  unfold f_L_skies
  refine chU hy h.2.2 h.1 (A' := A) ?_ (fun N hN => wp_mono (skies_m hy hN h.1 s n w) (fun o p => ⟨p.2.1, p.2.2.2⟩)) hJ
  obtain ⟨⟨e, r, M1⟩, ex, p1, p3, p4⟩ := skies_c hy h.2.1 h.1 s n w
  have p1 : e = skiE n w := p1
  have hE : skiE n w ≤ 2 := by
    unfold skiE
    repeat' split
    all_goals first | exact Nat.zero_le _ | exact Nat.le_refl _ | exact Nat.le_succ _
  rw [ex]
  exact OL.u (lop12 hy (P := (e, r)) (wp_some ⟨rfl, fun _ => rfl, p3, p4⟩) (by rw [p1]; exact hE))
theorem u_coast {y : Lay} (hy : LY y) {A : St} {M : Mem} (h : HR A M) (n : Int32) (hJ : ∀ N, HX N → wp (J N) Q) :
    wp (c0 (f_L_coast y 1 n 110 M) (fun (r : Int32) (M1 : Mem) => gK y 73 (0, 12) (c0 (f_X12_coast y 73 n M1) fun (b : Int32) (M2 : Mem) => J M2))) Q := by
  unfold f_L_coast
  obtain ⟨v, hc, hm⟩ := h
  obtain ⟨u, w0, eu, -, A0, P0, P0', -, hu, -, hP0⟩ := coast_J hy hc hm v n
  have hl : ∀ (A' : St) (P : Nat × Int32), OC A' P M u → (P.1 = 0 ∨ P.1 = 2) → wp (gK y 1 (0, 11) (ct (f_X11_coast y 1 n M) (fun (_ : Mem) => none) (fun (M5 : Mem) => some ((1 : Int32), M5)) fun (r2 : Int32) (M3 : Mem) => gA y 110 3 (0 : Int32) (lt (wL M3 110 (0 : Int32).toNatClampNeg (r2.toInt64)) fun (M7 : Mem) => some ((0 : Int32), M7)))) (fun o => CR A' o.2 ∧ kM M o.2) := fun A' P q e => by
    rcases e with e | e
    · exact OL.u (lop2 hy (c := 0) (⟨u, eu, q⟩ : wp _ (OC A' P M)) (Or.inl ⟨e, rfl⟩))
    · exact OL.u (lop2 hy (c := 1) (⟨u, eu, q⟩ : wp _ (OC A' P M)) (Or.inr ⟨e, rfl⟩))
  have cz : ∀ {P P' : Nat × Int32}, ((P.1 = 0 ∧ P' = P) ∨ (P = (2, 0) ∧ P' = (1, 0))) → P.1 = 0 ∨ P.1 = 2 := fun e => by
    rcases e with e | e
    · exact Or.inl e.1
    · exact Or.inr (by rw [e.1])
  obtain ⟨⟨r, M1⟩, e1, h1, h2⟩ := hl A0 P0 hu (cz hP0)
  refine wp_c0 (fun o => o = (r, M1)) ⟨_, e1, rfl⟩ (fun r' M1' q => ?_)
  cases q
  rw [gK_t (k_73 hy)]
  obtain ⟨u', w, eu', ew, A1, P1, P1', v1, hu1, hw, hP1⟩ := coast_J hy hc (hm.kM h2) v n
  rw [eu] at eu'
  cases eu'
  obtain ⟨⟨r3, M3⟩, e3, h3, -⟩ := hl A1 P1 hu1 (cz hP1)
  rw [e1] at e3
  cases e3
  refine wp_c0 (fun o => o = w) ⟨_, ew, rfl⟩ (fun b M2 q => ?_)
  cases q
  exact hJ _ ⟨A1, v1, h3.kC1 hw.2.2.2, hw.2.2.1⟩
end CLL
