/-! ===== the layout behind the two constructors ===== -/
def KTl : List (Nat × Nat) := [(9, 0), (0, 11), (0, 9), (2, 700), (0, 1), (1, 30), (0, 5), (1, 700), (1, 40), (0, 5), (1, 700), (1, 40), (0, 2), (0, 1), (1, 30), (0, 5), (1, 700), (1, 40), (0, 5), (1, 700), (1, 40), (0, 8), (1, 30), (1, 30), (1, 30), (1, 6), (1, 6), (1, 6), (0, 10), (0, 6), (0, 4), (0, 0), (1, 1640), (1, 8), (1, 8), (1, 8), (1, 3), (0, 8), (1, 30), (1, 30), (1, 30), (1, 6), (1, 6), (1, 6), (0, 4), (0, 0), (1, 1640), (1, 8), (1, 8), (1, 8), (1, 3), (0, 8), (1, 30), (1, 30), (1, 30), (1, 6), (1, 6), (1, 6), (0, 8), (1, 30), (1, 30), (1, 30), (1, 6), (1, 6), (1, 6), (0, 7), (1, 6), (1, 6), (1, 6), (0, 3), (3, 30), (3, 30), (1, 8), (0, 12), (4, 2), (4, 6), (4, 4), (1, 18), (1, 60), (1, 12), (1, 12), (1, 12), (1, 1400), (1, 1400), (1, 3), (1, 6), (1, 700), (1, 30), (1, 6), (1, 1640), (1, 6), (1, 64), (1, 30), (1, 41), (1, 30), (1, 448), (1, 6), (1, 8), (1, 8), (1, 8), (1, 41), (1, 60), (1, 1800), (1, 8), (1, 41), (1, 1640), (1, 8), (1, 8), (1, 8), (1, 3), (3, 1)]
def FTl : List (Nat × Nat × Nat) := [(1, 0, 2), (1, 1, 4), (1, 2, 12), (1, 3, 30), (1, 4, 44), (1, 5, 58), (1, 6, 65), (1, 7, 69), (1, 8, 70), (1, 9, 71), (1, 10, 72), (2, 0, 3), (4, 6, 5), (4, 7, 6), (4, 8, 9), (6, 0, 7), (6, 1, 8), (9, 0, 10), (9, 1, 11), (12, 0, 28), (12, 1, 29), (12, 2, 13), (12, 3, 21), (13, 6, 14), (13, 7, 15), (13, 8, 18), (15, 0, 16), (15, 1, 17), (18, 0, 19), (18, 1, 20), (21, 0, 13), (21, 1, 22), (21, 2, 23), (21, 3, 24), (21, 4, 25), (21, 5, 26), (21, 6, 27), (28, 0, 2), (29, 0, 28), (30, 0, 37), (30, 1, 31), (30, 2, 33), (30, 3, 34), (30, 4, 35), (30, 5, 36), (31, 0, 32), (37, 0, 4), (37, 1, 38), (37, 2, 39), (37, 3, 40), (37, 4, 41), (37, 5, 42), (37, 6, 43), (44, 0, 51), (44, 1, 45), (44, 2, 47), (44, 3, 48), (44, 4, 49), (44, 5, 50), (45, 0, 46), (51, 0, 4), (51, 1, 52), (51, 2, 53), (51, 3, 54), (51, 4, 55), (51, 5, 56), (51, 6, 57), (58, 0, 4), (58, 1, 59), (58, 2, 60), (58, 3, 61), (58, 4, 62), (58, 5, 63), (58, 6, 64), (65, 0, 66), (65, 1, 67), (65, 2, 68), (65, 3, 37), (73, 0, 74), (73, 1, 75), (73, 2, 76), (73, 5, 77), (73, 6, 78), (73, 7, 79), (73, 8, 80), (73, 9, 81), (73, 10, 82), (73, 11, 83), (73, 12, 84), (73, 13, 85), (73, 14, 86), (73, 28, 87), (73, 29, 88), (73, 30, 89), (73, 38, 90), (73, 39, 91), (73, 40, 92), (73, 42, 93), (73, 43, 94), (73, 44, 95), (73, 45, 96), (73, 46, 97), (73, 47, 98), (73, 48, 99), (73, 49, 100), (73, 50, 101), (73, 51, 102), (73, 53, 103), (73, 58, 104), (73, 59, 105), (73, 60, 106), (73, 61, 107), (73, 62, 108), (73, 63, 109), (74, 0, 1019), (74, 1, 1020), (75, 0, 1021), (75, 1, 1022), (75, 2, 1023), (75, 3, 1024), (75, 4, 1025), (75, 5, 1026), (76, 0, 1021), (76, 1, 1022), (76, 2, 1023), (76, 3, 1024)]
def LYb (y : Lay) : Bool := (List.range 111).all (fun p => decide (kd y p = KTl.getD p (9, 0))) && FTl.all (fun q => decide (y.2.1 q.1 q.2.1 = q.2.2))
def LY (y : Lay) : Prop := LYb y = true
theorem LY_k {y : Lay} (hy : LY y) {p : Nat} {c : Nat × Nat} (hp : Nat.blt p 111 = true) (hc : KTl.getD p (9, 0) = c) : kd y p = c := by
  unfold LY LYb at hy
  rw [Bool.and_eq_true, List.all_eq_true] at hy
  have h := hy.1 p (List.mem_range.mpr (Nat.le_of_ble_eq_true hp))
  rw [of_decide_eq_true h, hc]
theorem LY_f {y : Lay} (hy : LY y) {p k v i : Nat} (hi : FTl[i]? = some (p, k, v)) : y.2.1 p k = v := by
  unfold LY LYb at hy
  rw [Bool.and_eq_true, List.all_eq_true, List.all_eq_true] at hy
  exact of_decide_eq_true (hy.2 _ (List.mem_of_getElem? hi))
theorem k_1 {y : Lay} (hy : LY y) : kd y 1 = (0, 11) := LY_k hy rfl rfl
theorem k_2 {y : Lay} (hy : LY y) : kd y 2 = (0, 9) := LY_k hy rfl rfl
theorem k_3 {y : Lay} (hy : LY y) : kd y 3 = (2, 700) := LY_k hy rfl rfl
theorem k_4 {y : Lay} (hy : LY y) : kd y 4 = (0, 1) := LY_k hy rfl rfl
theorem k_5 {y : Lay} (hy : LY y) : kd y 5 = (1, 30) := LY_k hy rfl rfl
theorem k_6 {y : Lay} (hy : LY y) : kd y 6 = (0, 5) := LY_k hy rfl rfl
theorem k_7 {y : Lay} (hy : LY y) : kd y 7 = (1, 700) := LY_k hy rfl rfl
theorem k_8 {y : Lay} (hy : LY y) : kd y 8 = (1, 40) := LY_k hy rfl rfl
theorem k_9 {y : Lay} (hy : LY y) : kd y 9 = (0, 5) := LY_k hy rfl rfl
theorem k_10 {y : Lay} (hy : LY y) : kd y 10 = (1, 700) := LY_k hy rfl rfl
theorem k_11 {y : Lay} (hy : LY y) : kd y 11 = (1, 40) := LY_k hy rfl rfl
theorem k_12 {y : Lay} (hy : LY y) : kd y 12 = (0, 2) := LY_k hy rfl rfl
theorem k_13 {y : Lay} (hy : LY y) : kd y 13 = (0, 1) := LY_k hy rfl rfl
theorem k_14 {y : Lay} (hy : LY y) : kd y 14 = (1, 30) := LY_k hy rfl rfl
theorem k_15 {y : Lay} (hy : LY y) : kd y 15 = (0, 5) := LY_k hy rfl rfl
theorem k_16 {y : Lay} (hy : LY y) : kd y 16 = (1, 700) := LY_k hy rfl rfl
theorem k_17 {y : Lay} (hy : LY y) : kd y 17 = (1, 40) := LY_k hy rfl rfl
theorem k_18 {y : Lay} (hy : LY y) : kd y 18 = (0, 5) := LY_k hy rfl rfl
theorem k_19 {y : Lay} (hy : LY y) : kd y 19 = (1, 700) := LY_k hy rfl rfl
theorem k_20 {y : Lay} (hy : LY y) : kd y 20 = (1, 40) := LY_k hy rfl rfl
theorem k_21 {y : Lay} (hy : LY y) : kd y 21 = (0, 8) := LY_k hy rfl rfl
theorem k_22 {y : Lay} (hy : LY y) : kd y 22 = (1, 30) := LY_k hy rfl rfl
theorem k_23 {y : Lay} (hy : LY y) : kd y 23 = (1, 30) := LY_k hy rfl rfl
theorem k_24 {y : Lay} (hy : LY y) : kd y 24 = (1, 30) := LY_k hy rfl rfl
theorem k_25 {y : Lay} (hy : LY y) : kd y 25 = (1, 6) := LY_k hy rfl rfl
theorem k_26 {y : Lay} (hy : LY y) : kd y 26 = (1, 6) := LY_k hy rfl rfl
theorem k_27 {y : Lay} (hy : LY y) : kd y 27 = (1, 6) := LY_k hy rfl rfl
theorem k_28 {y : Lay} (hy : LY y) : kd y 28 = (0, 10) := LY_k hy rfl rfl
theorem k_29 {y : Lay} (hy : LY y) : kd y 29 = (0, 6) := LY_k hy rfl rfl
theorem k_30 {y : Lay} (hy : LY y) : kd y 30 = (0, 4) := LY_k hy rfl rfl
theorem k_31 {y : Lay} (hy : LY y) : kd y 31 = (0, 0) := LY_k hy rfl rfl
theorem k_32 {y : Lay} (hy : LY y) : kd y 32 = (1, 1640) := LY_k hy rfl rfl
theorem k_33 {y : Lay} (hy : LY y) : kd y 33 = (1, 8) := LY_k hy rfl rfl
theorem k_34 {y : Lay} (hy : LY y) : kd y 34 = (1, 8) := LY_k hy rfl rfl
theorem k_35 {y : Lay} (hy : LY y) : kd y 35 = (1, 8) := LY_k hy rfl rfl
theorem k_36 {y : Lay} (hy : LY y) : kd y 36 = (1, 3) := LY_k hy rfl rfl
theorem k_37 {y : Lay} (hy : LY y) : kd y 37 = (0, 8) := LY_k hy rfl rfl
theorem k_38 {y : Lay} (hy : LY y) : kd y 38 = (1, 30) := LY_k hy rfl rfl
theorem k_39 {y : Lay} (hy : LY y) : kd y 39 = (1, 30) := LY_k hy rfl rfl
theorem k_40 {y : Lay} (hy : LY y) : kd y 40 = (1, 30) := LY_k hy rfl rfl
theorem k_41 {y : Lay} (hy : LY y) : kd y 41 = (1, 6) := LY_k hy rfl rfl
theorem k_42 {y : Lay} (hy : LY y) : kd y 42 = (1, 6) := LY_k hy rfl rfl
theorem k_43 {y : Lay} (hy : LY y) : kd y 43 = (1, 6) := LY_k hy rfl rfl
theorem k_44 {y : Lay} (hy : LY y) : kd y 44 = (0, 4) := LY_k hy rfl rfl
theorem k_45 {y : Lay} (hy : LY y) : kd y 45 = (0, 0) := LY_k hy rfl rfl
theorem k_46 {y : Lay} (hy : LY y) : kd y 46 = (1, 1640) := LY_k hy rfl rfl
theorem k_47 {y : Lay} (hy : LY y) : kd y 47 = (1, 8) := LY_k hy rfl rfl
theorem k_48 {y : Lay} (hy : LY y) : kd y 48 = (1, 8) := LY_k hy rfl rfl
theorem k_49 {y : Lay} (hy : LY y) : kd y 49 = (1, 8) := LY_k hy rfl rfl
theorem k_50 {y : Lay} (hy : LY y) : kd y 50 = (1, 3) := LY_k hy rfl rfl
theorem k_51 {y : Lay} (hy : LY y) : kd y 51 = (0, 8) := LY_k hy rfl rfl
theorem k_52 {y : Lay} (hy : LY y) : kd y 52 = (1, 30) := LY_k hy rfl rfl
theorem k_53 {y : Lay} (hy : LY y) : kd y 53 = (1, 30) := LY_k hy rfl rfl
theorem k_54 {y : Lay} (hy : LY y) : kd y 54 = (1, 30) := LY_k hy rfl rfl
theorem k_55 {y : Lay} (hy : LY y) : kd y 55 = (1, 6) := LY_k hy rfl rfl
theorem k_56 {y : Lay} (hy : LY y) : kd y 56 = (1, 6) := LY_k hy rfl rfl
theorem k_57 {y : Lay} (hy : LY y) : kd y 57 = (1, 6) := LY_k hy rfl rfl
theorem k_58 {y : Lay} (hy : LY y) : kd y 58 = (0, 8) := LY_k hy rfl rfl
theorem k_59 {y : Lay} (hy : LY y) : kd y 59 = (1, 30) := LY_k hy rfl rfl
theorem k_60 {y : Lay} (hy : LY y) : kd y 60 = (1, 30) := LY_k hy rfl rfl
theorem k_61 {y : Lay} (hy : LY y) : kd y 61 = (1, 30) := LY_k hy rfl rfl
theorem k_62 {y : Lay} (hy : LY y) : kd y 62 = (1, 6) := LY_k hy rfl rfl
theorem k_63 {y : Lay} (hy : LY y) : kd y 63 = (1, 6) := LY_k hy rfl rfl
theorem k_64 {y : Lay} (hy : LY y) : kd y 64 = (1, 6) := LY_k hy rfl rfl
theorem k_65 {y : Lay} (hy : LY y) : kd y 65 = (0, 7) := LY_k hy rfl rfl
theorem k_66 {y : Lay} (hy : LY y) : kd y 66 = (1, 6) := LY_k hy rfl rfl
theorem k_67 {y : Lay} (hy : LY y) : kd y 67 = (1, 6) := LY_k hy rfl rfl
theorem k_68 {y : Lay} (hy : LY y) : kd y 68 = (1, 6) := LY_k hy rfl rfl
theorem k_69 {y : Lay} (hy : LY y) : kd y 69 = (0, 3) := LY_k hy rfl rfl
theorem k_70 {y : Lay} (hy : LY y) : kd y 70 = (3, 30) := LY_k hy rfl rfl
theorem k_71 {y : Lay} (hy : LY y) : kd y 71 = (3, 30) := LY_k hy rfl rfl
theorem k_72 {y : Lay} (hy : LY y) : kd y 72 = (1, 8) := LY_k hy rfl rfl
theorem k_73 {y : Lay} (hy : LY y) : kd y 73 = (0, 12) := LY_k hy rfl rfl
theorem k_74 {y : Lay} (hy : LY y) : kd y 74 = (4, 2) := LY_k hy rfl rfl
theorem k_75 {y : Lay} (hy : LY y) : kd y 75 = (4, 6) := LY_k hy rfl rfl
theorem k_76 {y : Lay} (hy : LY y) : kd y 76 = (4, 4) := LY_k hy rfl rfl
theorem k_77 {y : Lay} (hy : LY y) : kd y 77 = (1, 18) := LY_k hy rfl rfl
theorem k_78 {y : Lay} (hy : LY y) : kd y 78 = (1, 60) := LY_k hy rfl rfl
theorem k_79 {y : Lay} (hy : LY y) : kd y 79 = (1, 12) := LY_k hy rfl rfl
theorem k_80 {y : Lay} (hy : LY y) : kd y 80 = (1, 12) := LY_k hy rfl rfl
theorem k_81 {y : Lay} (hy : LY y) : kd y 81 = (1, 12) := LY_k hy rfl rfl
theorem k_82 {y : Lay} (hy : LY y) : kd y 82 = (1, 1400) := LY_k hy rfl rfl
theorem k_83 {y : Lay} (hy : LY y) : kd y 83 = (1, 1400) := LY_k hy rfl rfl
theorem k_84 {y : Lay} (hy : LY y) : kd y 84 = (1, 3) := LY_k hy rfl rfl
theorem k_85 {y : Lay} (hy : LY y) : kd y 85 = (1, 6) := LY_k hy rfl rfl
theorem k_86 {y : Lay} (hy : LY y) : kd y 86 = (1, 700) := LY_k hy rfl rfl
theorem k_87 {y : Lay} (hy : LY y) : kd y 87 = (1, 30) := LY_k hy rfl rfl
theorem k_88 {y : Lay} (hy : LY y) : kd y 88 = (1, 6) := LY_k hy rfl rfl
theorem k_89 {y : Lay} (hy : LY y) : kd y 89 = (1, 1640) := LY_k hy rfl rfl
theorem k_90 {y : Lay} (hy : LY y) : kd y 90 = (1, 6) := LY_k hy rfl rfl
theorem k_91 {y : Lay} (hy : LY y) : kd y 91 = (1, 64) := LY_k hy rfl rfl
theorem k_92 {y : Lay} (hy : LY y) : kd y 92 = (1, 30) := LY_k hy rfl rfl
theorem k_93 {y : Lay} (hy : LY y) : kd y 93 = (1, 41) := LY_k hy rfl rfl
theorem k_94 {y : Lay} (hy : LY y) : kd y 94 = (1, 30) := LY_k hy rfl rfl
theorem k_95 {y : Lay} (hy : LY y) : kd y 95 = (1, 448) := LY_k hy rfl rfl
theorem k_96 {y : Lay} (hy : LY y) : kd y 96 = (1, 6) := LY_k hy rfl rfl
theorem k_97 {y : Lay} (hy : LY y) : kd y 97 = (1, 8) := LY_k hy rfl rfl
theorem k_98 {y : Lay} (hy : LY y) : kd y 98 = (1, 8) := LY_k hy rfl rfl
theorem k_99 {y : Lay} (hy : LY y) : kd y 99 = (1, 8) := LY_k hy rfl rfl
theorem k_100 {y : Lay} (hy : LY y) : kd y 100 = (1, 41) := LY_k hy rfl rfl
theorem k_101 {y : Lay} (hy : LY y) : kd y 101 = (1, 60) := LY_k hy rfl rfl
theorem k_102 {y : Lay} (hy : LY y) : kd y 102 = (1, 1800) := LY_k hy rfl rfl
theorem k_103 {y : Lay} (hy : LY y) : kd y 103 = (1, 8) := LY_k hy rfl rfl
theorem k_104 {y : Lay} (hy : LY y) : kd y 104 = (1, 41) := LY_k hy rfl rfl
theorem k_105 {y : Lay} (hy : LY y) : kd y 105 = (1, 1640) := LY_k hy rfl rfl
theorem k_106 {y : Lay} (hy : LY y) : kd y 106 = (1, 8) := LY_k hy rfl rfl
theorem k_107 {y : Lay} (hy : LY y) : kd y 107 = (1, 8) := LY_k hy rfl rfl
theorem k_108 {y : Lay} (hy : LY y) : kd y 108 = (1, 8) := LY_k hy rfl rfl
theorem k_109 {y : Lay} (hy : LY y) : kd y 109 = (1, 3) := LY_k hy rfl rfl
theorem k_110 {y : Lay} (hy : LY y) : kd y 110 = (3, 1) := LY_k hy rfl rfl
theorem r_1_0 {y : Lay} (hy : LY y) : y.2.1 1 0 = 2 := LY_f hy (i := 0) rfl
theorem r_1_1 {y : Lay} (hy : LY y) : y.2.1 1 1 = 4 := LY_f hy (i := 1) rfl
theorem r_1_2 {y : Lay} (hy : LY y) : y.2.1 1 2 = 12 := LY_f hy (i := 2) rfl
theorem r_1_3 {y : Lay} (hy : LY y) : y.2.1 1 3 = 30 := LY_f hy (i := 3) rfl
theorem r_1_4 {y : Lay} (hy : LY y) : y.2.1 1 4 = 44 := LY_f hy (i := 4) rfl
theorem r_1_5 {y : Lay} (hy : LY y) : y.2.1 1 5 = 58 := LY_f hy (i := 5) rfl
theorem r_1_6 {y : Lay} (hy : LY y) : y.2.1 1 6 = 65 := LY_f hy (i := 6) rfl
theorem r_1_7 {y : Lay} (hy : LY y) : y.2.1 1 7 = 69 := LY_f hy (i := 7) rfl
theorem r_1_8 {y : Lay} (hy : LY y) : y.2.1 1 8 = 70 := LY_f hy (i := 8) rfl
theorem r_1_9 {y : Lay} (hy : LY y) : y.2.1 1 9 = 71 := LY_f hy (i := 9) rfl
theorem r_1_10 {y : Lay} (hy : LY y) : y.2.1 1 10 = 72 := LY_f hy (i := 10) rfl
theorem r_2_0 {y : Lay} (hy : LY y) : y.2.1 2 0 = 3 := LY_f hy (i := 11) rfl
theorem r_4_6 {y : Lay} (hy : LY y) : y.2.1 4 6 = 5 := LY_f hy (i := 12) rfl
theorem r_4_7 {y : Lay} (hy : LY y) : y.2.1 4 7 = 6 := LY_f hy (i := 13) rfl
theorem r_4_8 {y : Lay} (hy : LY y) : y.2.1 4 8 = 9 := LY_f hy (i := 14) rfl
theorem r_6_0 {y : Lay} (hy : LY y) : y.2.1 6 0 = 7 := LY_f hy (i := 15) rfl
theorem r_6_1 {y : Lay} (hy : LY y) : y.2.1 6 1 = 8 := LY_f hy (i := 16) rfl
theorem r_9_0 {y : Lay} (hy : LY y) : y.2.1 9 0 = 10 := LY_f hy (i := 17) rfl
theorem r_9_1 {y : Lay} (hy : LY y) : y.2.1 9 1 = 11 := LY_f hy (i := 18) rfl
theorem r_12_0 {y : Lay} (hy : LY y) : y.2.1 12 0 = 28 := LY_f hy (i := 19) rfl
theorem r_12_1 {y : Lay} (hy : LY y) : y.2.1 12 1 = 29 := LY_f hy (i := 20) rfl
theorem r_12_2 {y : Lay} (hy : LY y) : y.2.1 12 2 = 13 := LY_f hy (i := 21) rfl
theorem r_12_3 {y : Lay} (hy : LY y) : y.2.1 12 3 = 21 := LY_f hy (i := 22) rfl
theorem r_13_6 {y : Lay} (hy : LY y) : y.2.1 13 6 = 14 := LY_f hy (i := 23) rfl
theorem r_13_7 {y : Lay} (hy : LY y) : y.2.1 13 7 = 15 := LY_f hy (i := 24) rfl
theorem r_13_8 {y : Lay} (hy : LY y) : y.2.1 13 8 = 18 := LY_f hy (i := 25) rfl
theorem r_15_0 {y : Lay} (hy : LY y) : y.2.1 15 0 = 16 := LY_f hy (i := 26) rfl
theorem r_15_1 {y : Lay} (hy : LY y) : y.2.1 15 1 = 17 := LY_f hy (i := 27) rfl
theorem r_18_0 {y : Lay} (hy : LY y) : y.2.1 18 0 = 19 := LY_f hy (i := 28) rfl
theorem r_18_1 {y : Lay} (hy : LY y) : y.2.1 18 1 = 20 := LY_f hy (i := 29) rfl
theorem r_21_0 {y : Lay} (hy : LY y) : y.2.1 21 0 = 13 := LY_f hy (i := 30) rfl
theorem r_21_1 {y : Lay} (hy : LY y) : y.2.1 21 1 = 22 := LY_f hy (i := 31) rfl
theorem r_21_2 {y : Lay} (hy : LY y) : y.2.1 21 2 = 23 := LY_f hy (i := 32) rfl
theorem r_21_3 {y : Lay} (hy : LY y) : y.2.1 21 3 = 24 := LY_f hy (i := 33) rfl
theorem r_21_4 {y : Lay} (hy : LY y) : y.2.1 21 4 = 25 := LY_f hy (i := 34) rfl
theorem r_21_5 {y : Lay} (hy : LY y) : y.2.1 21 5 = 26 := LY_f hy (i := 35) rfl
theorem r_21_6 {y : Lay} (hy : LY y) : y.2.1 21 6 = 27 := LY_f hy (i := 36) rfl
theorem r_28_0 {y : Lay} (hy : LY y) : y.2.1 28 0 = 2 := LY_f hy (i := 37) rfl
theorem r_29_0 {y : Lay} (hy : LY y) : y.2.1 29 0 = 28 := LY_f hy (i := 38) rfl
theorem r_30_0 {y : Lay} (hy : LY y) : y.2.1 30 0 = 37 := LY_f hy (i := 39) rfl
theorem r_30_1 {y : Lay} (hy : LY y) : y.2.1 30 1 = 31 := LY_f hy (i := 40) rfl
theorem r_30_2 {y : Lay} (hy : LY y) : y.2.1 30 2 = 33 := LY_f hy (i := 41) rfl
theorem r_30_3 {y : Lay} (hy : LY y) : y.2.1 30 3 = 34 := LY_f hy (i := 42) rfl
theorem r_30_4 {y : Lay} (hy : LY y) : y.2.1 30 4 = 35 := LY_f hy (i := 43) rfl
theorem r_30_5 {y : Lay} (hy : LY y) : y.2.1 30 5 = 36 := LY_f hy (i := 44) rfl
theorem r_31_0 {y : Lay} (hy : LY y) : y.2.1 31 0 = 32 := LY_f hy (i := 45) rfl
theorem r_37_0 {y : Lay} (hy : LY y) : y.2.1 37 0 = 4 := LY_f hy (i := 46) rfl
theorem r_37_1 {y : Lay} (hy : LY y) : y.2.1 37 1 = 38 := LY_f hy (i := 47) rfl
theorem r_37_2 {y : Lay} (hy : LY y) : y.2.1 37 2 = 39 := LY_f hy (i := 48) rfl
theorem r_37_3 {y : Lay} (hy : LY y) : y.2.1 37 3 = 40 := LY_f hy (i := 49) rfl
theorem r_37_4 {y : Lay} (hy : LY y) : y.2.1 37 4 = 41 := LY_f hy (i := 50) rfl
theorem r_37_5 {y : Lay} (hy : LY y) : y.2.1 37 5 = 42 := LY_f hy (i := 51) rfl
theorem r_37_6 {y : Lay} (hy : LY y) : y.2.1 37 6 = 43 := LY_f hy (i := 52) rfl
theorem r_44_0 {y : Lay} (hy : LY y) : y.2.1 44 0 = 51 := LY_f hy (i := 53) rfl
theorem r_44_1 {y : Lay} (hy : LY y) : y.2.1 44 1 = 45 := LY_f hy (i := 54) rfl
theorem r_44_2 {y : Lay} (hy : LY y) : y.2.1 44 2 = 47 := LY_f hy (i := 55) rfl
theorem r_44_3 {y : Lay} (hy : LY y) : y.2.1 44 3 = 48 := LY_f hy (i := 56) rfl
theorem r_44_4 {y : Lay} (hy : LY y) : y.2.1 44 4 = 49 := LY_f hy (i := 57) rfl
theorem r_44_5 {y : Lay} (hy : LY y) : y.2.1 44 5 = 50 := LY_f hy (i := 58) rfl
theorem r_45_0 {y : Lay} (hy : LY y) : y.2.1 45 0 = 46 := LY_f hy (i := 59) rfl
theorem r_51_0 {y : Lay} (hy : LY y) : y.2.1 51 0 = 4 := LY_f hy (i := 60) rfl
theorem r_51_1 {y : Lay} (hy : LY y) : y.2.1 51 1 = 52 := LY_f hy (i := 61) rfl
theorem r_51_2 {y : Lay} (hy : LY y) : y.2.1 51 2 = 53 := LY_f hy (i := 62) rfl
theorem r_51_3 {y : Lay} (hy : LY y) : y.2.1 51 3 = 54 := LY_f hy (i := 63) rfl
theorem r_51_4 {y : Lay} (hy : LY y) : y.2.1 51 4 = 55 := LY_f hy (i := 64) rfl
theorem r_51_5 {y : Lay} (hy : LY y) : y.2.1 51 5 = 56 := LY_f hy (i := 65) rfl
theorem r_51_6 {y : Lay} (hy : LY y) : y.2.1 51 6 = 57 := LY_f hy (i := 66) rfl
theorem r_58_0 {y : Lay} (hy : LY y) : y.2.1 58 0 = 4 := LY_f hy (i := 67) rfl
theorem r_58_1 {y : Lay} (hy : LY y) : y.2.1 58 1 = 59 := LY_f hy (i := 68) rfl
theorem r_58_2 {y : Lay} (hy : LY y) : y.2.1 58 2 = 60 := LY_f hy (i := 69) rfl
theorem r_58_3 {y : Lay} (hy : LY y) : y.2.1 58 3 = 61 := LY_f hy (i := 70) rfl
theorem r_58_4 {y : Lay} (hy : LY y) : y.2.1 58 4 = 62 := LY_f hy (i := 71) rfl
theorem r_58_5 {y : Lay} (hy : LY y) : y.2.1 58 5 = 63 := LY_f hy (i := 72) rfl
theorem r_58_6 {y : Lay} (hy : LY y) : y.2.1 58 6 = 64 := LY_f hy (i := 73) rfl
theorem r_65_0 {y : Lay} (hy : LY y) : y.2.1 65 0 = 66 := LY_f hy (i := 74) rfl
theorem r_65_1 {y : Lay} (hy : LY y) : y.2.1 65 1 = 67 := LY_f hy (i := 75) rfl
theorem r_65_2 {y : Lay} (hy : LY y) : y.2.1 65 2 = 68 := LY_f hy (i := 76) rfl
theorem r_65_3 {y : Lay} (hy : LY y) : y.2.1 65 3 = 37 := LY_f hy (i := 77) rfl
theorem r_73_0 {y : Lay} (hy : LY y) : y.2.1 73 0 = 74 := LY_f hy (i := 78) rfl
theorem r_73_1 {y : Lay} (hy : LY y) : y.2.1 73 1 = 75 := LY_f hy (i := 79) rfl
theorem r_73_2 {y : Lay} (hy : LY y) : y.2.1 73 2 = 76 := LY_f hy (i := 80) rfl
theorem r_73_5 {y : Lay} (hy : LY y) : y.2.1 73 5 = 77 := LY_f hy (i := 81) rfl
theorem r_73_6 {y : Lay} (hy : LY y) : y.2.1 73 6 = 78 := LY_f hy (i := 82) rfl
theorem r_73_7 {y : Lay} (hy : LY y) : y.2.1 73 7 = 79 := LY_f hy (i := 83) rfl
theorem r_73_8 {y : Lay} (hy : LY y) : y.2.1 73 8 = 80 := LY_f hy (i := 84) rfl
theorem r_73_9 {y : Lay} (hy : LY y) : y.2.1 73 9 = 81 := LY_f hy (i := 85) rfl
theorem r_73_10 {y : Lay} (hy : LY y) : y.2.1 73 10 = 82 := LY_f hy (i := 86) rfl
theorem r_73_11 {y : Lay} (hy : LY y) : y.2.1 73 11 = 83 := LY_f hy (i := 87) rfl
theorem r_73_12 {y : Lay} (hy : LY y) : y.2.1 73 12 = 84 := LY_f hy (i := 88) rfl
theorem r_73_13 {y : Lay} (hy : LY y) : y.2.1 73 13 = 85 := LY_f hy (i := 89) rfl
theorem r_73_14 {y : Lay} (hy : LY y) : y.2.1 73 14 = 86 := LY_f hy (i := 90) rfl
theorem r_73_28 {y : Lay} (hy : LY y) : y.2.1 73 28 = 87 := LY_f hy (i := 91) rfl
theorem r_73_29 {y : Lay} (hy : LY y) : y.2.1 73 29 = 88 := LY_f hy (i := 92) rfl
theorem r_73_30 {y : Lay} (hy : LY y) : y.2.1 73 30 = 89 := LY_f hy (i := 93) rfl
theorem r_73_38 {y : Lay} (hy : LY y) : y.2.1 73 38 = 90 := LY_f hy (i := 94) rfl
theorem r_73_39 {y : Lay} (hy : LY y) : y.2.1 73 39 = 91 := LY_f hy (i := 95) rfl
theorem r_73_40 {y : Lay} (hy : LY y) : y.2.1 73 40 = 92 := LY_f hy (i := 96) rfl
theorem r_73_42 {y : Lay} (hy : LY y) : y.2.1 73 42 = 93 := LY_f hy (i := 97) rfl
theorem r_73_43 {y : Lay} (hy : LY y) : y.2.1 73 43 = 94 := LY_f hy (i := 98) rfl
theorem r_73_44 {y : Lay} (hy : LY y) : y.2.1 73 44 = 95 := LY_f hy (i := 99) rfl
theorem r_73_45 {y : Lay} (hy : LY y) : y.2.1 73 45 = 96 := LY_f hy (i := 100) rfl
theorem r_73_46 {y : Lay} (hy : LY y) : y.2.1 73 46 = 97 := LY_f hy (i := 101) rfl
theorem r_73_47 {y : Lay} (hy : LY y) : y.2.1 73 47 = 98 := LY_f hy (i := 102) rfl
theorem r_73_48 {y : Lay} (hy : LY y) : y.2.1 73 48 = 99 := LY_f hy (i := 103) rfl
theorem r_73_49 {y : Lay} (hy : LY y) : y.2.1 73 49 = 100 := LY_f hy (i := 104) rfl
theorem r_73_50 {y : Lay} (hy : LY y) : y.2.1 73 50 = 101 := LY_f hy (i := 105) rfl
theorem r_73_51 {y : Lay} (hy : LY y) : y.2.1 73 51 = 102 := LY_f hy (i := 106) rfl
theorem r_73_53 {y : Lay} (hy : LY y) : y.2.1 73 53 = 103 := LY_f hy (i := 107) rfl
theorem r_73_58 {y : Lay} (hy : LY y) : y.2.1 73 58 = 104 := LY_f hy (i := 108) rfl
theorem r_73_59 {y : Lay} (hy : LY y) : y.2.1 73 59 = 105 := LY_f hy (i := 109) rfl
theorem r_73_60 {y : Lay} (hy : LY y) : y.2.1 73 60 = 106 := LY_f hy (i := 110) rfl
theorem r_73_61 {y : Lay} (hy : LY y) : y.2.1 73 61 = 107 := LY_f hy (i := 111) rfl
theorem r_73_62 {y : Lay} (hy : LY y) : y.2.1 73 62 = 108 := LY_f hy (i := 112) rfl
theorem r_73_63 {y : Lay} (hy : LY y) : y.2.1 73 63 = 109 := LY_f hy (i := 113) rfl
theorem r_74_0 {y : Lay} (hy : LY y) : y.2.1 74 0 = 1019 := LY_f hy (i := 114) rfl
theorem r_74_1 {y : Lay} (hy : LY y) : y.2.1 74 1 = 1020 := LY_f hy (i := 115) rfl
theorem r_75_0 {y : Lay} (hy : LY y) : y.2.1 75 0 = 1021 := LY_f hy (i := 116) rfl
theorem r_75_1 {y : Lay} (hy : LY y) : y.2.1 75 1 = 1022 := LY_f hy (i := 117) rfl
theorem r_75_2 {y : Lay} (hy : LY y) : y.2.1 75 2 = 1023 := LY_f hy (i := 118) rfl
theorem r_75_3 {y : Lay} (hy : LY y) : y.2.1 75 3 = 1024 := LY_f hy (i := 119) rfl
theorem r_75_4 {y : Lay} (hy : LY y) : y.2.1 75 4 = 1025 := LY_f hy (i := 120) rfl
theorem r_75_5 {y : Lay} (hy : LY y) : y.2.1 75 5 = 1026 := LY_f hy (i := 121) rfl
theorem r_76_0 {y : Lay} (hy : LY y) : y.2.1 76 0 = 1021 := LY_f hy (i := 122) rfl
theorem r_76_1 {y : Lay} (hy : LY y) : y.2.1 76 1 = 1022 := LY_f hy (i := 123) rfl
theorem r_76_2 {y : Lay} (hy : LY y) : y.2.1 76 2 = 1023 := LY_f hy (i := 124) rfl
theorem r_76_3 {y : Lay} (hy : LY y) : y.2.1 76 3 = 1024 := LY_f hy (i := 125) rfl
