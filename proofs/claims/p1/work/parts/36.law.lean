def f_L_law (y : Lay) (M : Mem) (sL : Nat) (xs : Nat → Int32) : Option Int32 := gd (y.2.2 + 2 ≤ 1000) (lt (psh y (0, 11)) fun (y2 : Lay) => lt (zM M (y.2.2 + 1)) fun (M3 : Mem) => ci (f_X11_init y2 (y.2.2 + 1) M3) fun (y4 : Lay) (M5 : Mem) => gd (y4.2.2 + 2 ≤ 1000) (lt (psh y4 (0, 12)) fun (y7 : Lay) => lt (zM M5 (y4.2.2 + 1)) fun (M8 : Mem) => ci (f_X12_init y7 (y4.2.2 + 1) M8) fun (y9 : Lay) (M10 : Mem) => gd (y9.2.2 + 2 ≤ 1000) (lt (psh y9 (3, 1)) fun (y12 : Lay) => lt (zM M10 (y9.2.2 + 1)) fun (M13 : Mem) => fixN (fun _ _ => none) (fun (s16 : Int32 → Mem → Option Int32) (v14 : Int32) (M15 : Mem) => br (((Int32.ofNat sL) - (6 : Int32)) < v14) (some (1 : Int32)) (gd (¬ (v14 < 0 ∨ sL ≤ v14.toNatClampNeg)) (jn (fun (M21 : Mem) => lt (v14 + (6 : Int32)) fun (v23 : Int32) => s16 v23 M21) fun j22 => br (((xs v14.toNatClampNeg) &&& (63 : Int32)) < (0 : Int32) ∨ (37 : Int32) < ((xs v14.toNatClampNeg) &&& (63 : Int32))) (j22 M15) (br (((xs v14.toNatClampNeg) &&& (63 : Int32)) = (0 : Int32)) (gd (¬ ((v14 + (1 : Int32)) < 0 ∨ sL ≤ (v14 + (1 : Int32)).toNatClampNeg)) (gd (¬ ((v14 + (2 : Int32)) < 0 ∨ sL ≤ (v14 + (2 : Int32)).toNatClampNeg)) (gd (¬ ((v14 + (3 : Int32)) < 0 ∨ sL ≤ (v14 + (3 : Int32)).toNatClampNeg)) (gd (¬ ((v14 + (4 : Int32)) < 0 ∨ sL ≤ (v14 + (4 : Int32)).toNatClampNeg)) (gd (¬ ((v14 + (5 : Int32)) < 0 ∨ sL ≤ (v14 + (5 : Int32)).toNatClampNeg)) (gK y12 (y.2.2 + 1) (0, 11) (c0 (f_X11_feed y12 (y.2.2 + 1) (xs (v14 + (1 : Int32)).toNatClampNeg) (xs (v14 + (2 : Int32)).toNatClampNeg) (xs (v14 + (3 : Int32)).toNatClampNeg) (xs (v14 + (4 : Int32)).toNatClampNeg) (xs (v14 + (5 : Int32)).toNatClampNeg) M15) fun (r32 : Int32) (M33 : Mem) => gd (¬ ((v14 + (1 : Int32)) < 0 ∨ sL ≤ (v14 + (1 : Int32)).toNatClampNeg)) (gd (¬ ((v14 + (2 : Int32)) < 0 ∨ sL ≤ (v14 + (2 : Int32)).toNatClampNeg)) (gd (¬ ((v14 + (3 : Int32)) < 0 ∨ sL ≤ (v14 + (3 : Int32)).toNatClampNeg)) (gd (¬ ((v14 + (4 : Int32)) < 0 ∨ sL ≤ (v14 + (4 : Int32)).toNatClampNeg)) (gd (¬ ((v14 + (5 : Int32)) < 0 ∨ sL ≤ (v14 + (5 : Int32)).toNatClampNeg)) (gK y12 (y4.2.2 + 1) (0, 12) (c0 (f_X12_feed y12 (y4.2.2 + 1) (xs (v14 + (1 : Int32)).toNatClampNeg) (xs (v14 + (2 : Int32)).toNatClampNeg) (xs (v14 + (3 : Int32)).toNatClampNeg) (xs (v14 + (4 : Int32)).toNatClampNeg) (xs (v14 + (5 : Int32)).toNatClampNeg) M33) fun (r40 : Int32) (M41 : Mem) => br (r32 = r40) (j22 M41) (some (0 : Int32))))))))))))))) (br (((xs v14.toNatClampNeg) &&& (63 : Int32)) = (1 : Int32)) (gd (¬ ((v14 + (1 : Int32)) < 0 ∨ sL ≤ (v14 + (1 : Int32)).toNatClampNeg)) (c0 (f_L_coast y12 (y.2.2 + 1) (xs (v14 + (1 : Int32)).toNatClampNeg) (y9.2.2 + 1) M15) fun (r47 : Int32) (M48 : Mem) => gd (¬ ((v14 + (1 : Int32)) < 0 ∨ sL ≤ (v14 + (1 : Int32)).toNatClampNeg)) (gK y12 (y4.2.2 + 1) (0, 12) (c0 (f_X12_coast y12 (y4.2.2 + 1) (xs (v14 + (1 : Int32)).toNatClampNeg) M48) fun (r51 : Int32) (M52 : Mem) => cp (f_X12_thrown y12 (y4.2.2 + 1) M52) fun (r53 : Int32) => br (r53 = r47) (jn (fun (_u : Unit) => j22 M52) fun j56 => br (r47 = 0) (gA y12 (y9.2.2 + 1) 3 (0 : Int32) (br ((lg_cmp (M52.2.1 (y9.2.2 + 1) (0 : Int32).toNatClampNeg) (r51.toInt64)) = 0) (j56 ()) (some (0 : Int32)))) (j56 ())) (some (0 : Int32)))))) (br (((xs v14.toNatClampNeg) &&& (63 : Int32)) = (2 : Int32)) (gK y12 (y.2.2 + 1) (0, 11) (cp (f_X11_fault y12 (y.2.2 + 1) M15) fun (r65 : Int32) => gK y12 (y4.2.2 + 1) (0, 12) (c0 (f_X12_fault y12 (y4.2.2 + 1) M15) fun (r67 : Int32) (M68 : Mem) => br (r65 = r67) (j22 M68) (some (0 : Int32))))) (br (((xs v14.toNatClampNeg) &&& (63 : Int32)) = (3 : Int32)) (gd (¬ ((v14 + (1 : Int32)) < 0 ∨ sL ≤ (v14 + (1 : Int32)).toNatClampNeg)) (c0 (f_L_count y12 (y.2.2 + 1) (xs (v14 + (1 : Int32)).toNatClampNeg) (y9.2.2 + 1) M15) fun (r74 : Int32) (M75 : Mem) => gd (¬ ((v14 + (1 : Int32)) < 0 ∨ sL ≤ (v14 + (1 : Int32)).toNatClampNeg)) (gK y12 (y4.2.2 + 1) (0, 12) (c0 (f_X12_count y12 (y4.2.2 + 1) (xs (v14 + (1 : Int32)).toNatClampNeg) M75) fun (r78 : Int32) (M79 : Mem) => cp (f_X12_thrown y12 (y4.2.2 + 1) M79) fun (r80 : Int32) => br (r80 = r74) (jn (fun (_u : Unit) => j22 M79) fun j83 => br (r74 = 0) (gA y12 (y9.2.2 + 1) 3 (0 : Int32) (br ((lg_cmp (M79.2.1 (y9.2.2 + 1) (0 : Int32).toNatClampNeg) (r78.toInt64)) = 0) (j83 ()) (some (0 : Int32)))) (j83 ())) (some (0 : Int32)))))) (br (((xs v14.toNatClampNeg) &&& (63 : Int32)) = (4 : Int32)) (gd (¬ ((v14 + (1 : Int32)) < 0 ∨ sL ≤ (v14 + (1 : Int32)).toNatClampNeg)) (gd (¬ ((v14 + (2 : Int32)) < 0 ∨ sL ≤ (v14 + (2 : Int32)).toNatClampNeg)) (c0 (f_L_cell y12 (y.2.2 + 1) (xs (v14 + (1 : Int32)).toNatClampNeg) (xs (v14 + (2 : Int32)).toNatClampNeg) (y9.2.2 + 1) M15) fun (r93 : Int32) (M94 : Mem) => gd (¬ ((v14 + (1 : Int32)) < 0 ∨ sL ≤ (v14 + (1 : Int32)).toNatClampNeg)) (gd (¬ ((v14 + (2 : Int32)) < 0 ∨ sL ≤ (v14 + (2 : Int32)).toNatClampNeg)) (gK y12 (y4.2.2 + 1) (0, 12) (c0 (f_X12_cell y12 (y4.2.2 + 1) (xs (v14 + (1 : Int32)).toNatClampNeg) (xs (v14 + (2 : Int32)).toNatClampNeg) M94) fun (r98 : Int32) (M99 : Mem) => cp (f_X12_thrown y12 (y4.2.2 + 1) M99) fun (r100 : Int32) => br (r100 = r93) (jn (fun (_u : Unit) => j22 M99) fun j103 => br (r93 = 0) (gA y12 (y9.2.2 + 1) 3 (0 : Int32) (br ((lg_cmp (M99.2.1 (y9.2.2 + 1) (0 : Int32).toNatClampNeg) (r98.toInt64)) = 0) (j103 ()) (some (0 : Int32)))) (j103 ())) (some (0 : Int32)))))))) (br (((xs v14.toNatClampNeg) &&& (63 : Int32)) = (5 : Int32)) (gd (¬ ((v14 + (1 : Int32)) < 0 ∨ sL ≤ (v14 + (1 : Int32)).toNatClampNeg)) (gd (¬ ((v14 + (2 : Int32)) < 0 ∨ sL ≤ (v14 + (2 : Int32)).toNatClampNeg)) (c0 (f_L_girl y12 (y.2.2 + 1) (xs (v14 + (1 : Int32)).toNatClampNeg) (xs (v14 + (2 : Int32)).toNatClampNeg) (y9.2.2 + 1) M15) fun (r113 : Int32) (M114 : Mem) => gd (¬ ((v14 + (1 : Int32)) < 0 ∨ sL ≤ (v14 + (1 : Int32)).toNatClampNeg)) (gd (¬ ((v14 + (2 : Int32)) < 0 ∨ sL ≤ (v14 + (2 : Int32)).toNatClampNeg)) (gK y12 (y4.2.2 + 1) (0, 12) (c0 (f_X12_girl y12 (y4.2.2 + 1) (xs (v14 + (1 : Int32)).toNatClampNeg) (xs (v14 + (2 : Int32)).toNatClampNeg) M114) fun (r118 : Int32) (M119 : Mem) => cp (f_X12_thrown y12 (y4.2.2 + 1) M119) fun (r120 : Int32) => br (r120 = r113) (jn (fun (_u : Unit) => j22 M119) fun j123 => br (r113 = 0) (gA y12 (y9.2.2 + 1) 3 (0 : Int32) (br ((lg_cmp (M119.2.1 (y9.2.2 + 1) (0 : Int32).toNatClampNeg) (r118.toInt64)) = 0) (j123 ()) (some (0 : Int32)))) (j123 ())) (some (0 : Int32)))))))) (br (((xs v14.toNatClampNeg) &&& (63 : Int32)) = (6 : Int32)) (gd (¬ ((v14 + (1 : Int32)) < 0 ∨ sL ≤ (v14 + (1 : Int32)).toNatClampNeg)) (gK y12 (y.2.2 + 1) (0, 11) (c0 (f_X11_days y12 (y.2.2 + 1) (xs (v14 + (1 : Int32)).toNatClampNeg) M15) fun (r133 : Int32) (M134 : Mem) => gd (¬ ((v14 + (1 : Int32)) < 0 ∨ sL ≤ (v14 + (1 : Int32)).toNatClampNeg)) (gK y12 (y4.2.2 + 1) (0, 12) (c0 (f_X12_days y12 (y4.2.2 + 1) (xs (v14 + (1 : Int32)).toNatClampNeg) M134) fun (r137 : Int32) (M138 : Mem) => br (r133 = r137) (j22 M138) (some (0 : Int32))))))) (br (((xs v14.toNatClampNeg) &&& (63 : Int32)) = (7 : Int32)) (gd (¬ ((v14 + (1 : Int32)) < 0 ∨ sL ≤ (v14 + (1 : Int32)).toNatClampNeg)) (gd (¬ ((v14 + (2 : Int32)) < 0 ∨ sL ≤ (v14 + (2 : Int32)).toNatClampNeg)) (jn (fun (v145 : Int32) => c0 (f_L_rest y12 (y.2.2 + 1) (xs (v14 + (1 : Int32)).toNatClampNeg) v145 (y9.2.2 + 1) M15) fun (r147 : Int32) (M148 : Mem) => gd (¬ ((v14 + (1 : Int32)) < 0 ∨ sL ≤ (v14 + (1 : Int32)).toNatClampNeg)) (gd (¬ ((v14 + (2 : Int32)) < 0 ∨ sL ≤ (v14 + (2 : Int32)).toNatClampNeg)) (jn (fun (v151 : Int32) => gK y12 (y4.2.2 + 1) (0, 12) (c0 (f_X12_rest y12 (y4.2.2 + 1) (xs (v14 + (1 : Int32)).toNatClampNeg) v151 M148) fun (r154 : Int32) (M155 : Mem) => cp (f_X12_thrown y12 (y4.2.2 + 1) M155) fun (r156 : Int32) => br (r156 = r147) (jn (fun (_u : Unit) => j22 M155) fun j159 => br (r147 = 0) (gA y12 (y9.2.2 + 1) 3 (0 : Int32) (jn (fun (v163 : Int64) => br ((lg_cmp (M155.2.1 (y9.2.2 + 1) (0 : Int32).toNatClampNeg) v163) = 0) (j159 ()) (some (0 : Int32))) fun j164 => br (r154 = 0) (j164 (0 : Int64)) (j164 (1 : Int64)))) (j159 ())) (some (0 : Int32)))) fun j152 => br ((xs (v14 + (2 : Int32)).toNatClampNeg) = 0) (j152 (0 : Int32)) (j152 (1 : Int32))))) fun j146 => br ((xs (v14 + (2 : Int32)).toNatClampNeg) = 0) (j146 (0 : Int32)) (j146 (1 : Int32))))) (br (((xs v14.toNatClampNeg) &&& (63 : Int32)) = (8 : Int32)) (gd (¬ ((v14 + (1 : Int32)) < 0 ∨ sL ≤ (v14 + (1 : Int32)).toNatClampNeg)) (gd (¬ ((v14 + (2 : Int32)) < 0 ∨ sL ≤ (v14 + (2 : Int32)).toNatClampNeg)) (c0 (f_L_go y12 (y.2.2 + 1) (xs (v14 + (1 : Int32)).toNatClampNeg) (xs (v14 + (2 : Int32)).toNatClampNeg) (y9.2.2 + 1) M15) fun (r177 : Int32) (M178 : Mem) => gd (¬ ((v14 + (1 : Int32)) < 0 ∨ sL ≤ (v14 + (1 : Int32)).toNatClampNeg)) (gd (¬ ((v14 + (2 : Int32)) < 0 ∨ sL ≤ (v14 + (2 : Int32)).toNatClampNeg)) (gK y12 (y4.2.2 + 1) (0, 12) (c0 (f_X12_go y12 (y4.2.2 + 1) (xs (v14 + (1 : Int32)).toNatClampNeg) (xs (v14 + (2 : Int32)).toNatClampNeg) M178) fun (r182 : Int32) (M183 : Mem) => cp (f_X12_thrown y12 (y4.2.2 + 1) M183) fun (r184 : Int32) => br (r184 = r177) (jn (fun (_u : Unit) => j22 M183) fun j187 => br (r177 = 0) (gA y12 (y9.2.2 + 1) 3 (0 : Int32) (br ((lg_cmp (M183.2.1 (y9.2.2 + 1) (0 : Int32).toNatClampNeg) (r182.toInt64)) = 0) (j187 ()) (some (0 : Int32)))) (j187 ())) (some (0 : Int32)))))))) (br (((xs v14.toNatClampNeg) &&& (63 : Int32)) = (9 : Int32)) (gd (¬ ((v14 + (1 : Int32)) < 0 ∨ sL ≤ (v14 + (1 : Int32)).toNatClampNeg)) (gK y12 (y.2.2 + 1) (0, 11) (c0 (f_X11_bag y12 (y.2.2 + 1) (xs (v14 + (1 : Int32)).toNatClampNeg) M15) fun (r197 : Int32) (M198 : Mem) => gd (¬ ((v14 + (1 : Int32)) < 0 ∨ sL ≤ (v14 + (1 : Int32)).toNatClampNeg)) (gK y12 (y4.2.2 + 1) (0, 12) (c0 (f_X12_bag y12 (y4.2.2 + 1) (xs (v14 + (1 : Int32)).toNatClampNeg) M198) fun (r201 : Int32) (M202 : Mem) => br (r197 = r201) (j22 M202) (some (0 : Int32))))))) (br (((xs v14.toNatClampNeg) &&& (63 : Int32)) = (10 : Int32)) (gd (¬ ((v14 + (1 : Int32)) < 0 ∨ sL ≤ (v14 + (1 : Int32)).toNatClampNeg)) (gd (¬ ((v14 + (2 : Int32)) < 0 ∨ sL ≤ (v14 + (2 : Int32)).toNatClampNeg)) (jn (fun (v209 : Int32) => c0 (f_L_peg y12 (y.2.2 + 1) (xs (v14 + (1 : Int32)).toNatClampNeg) v209 (y9.2.2 + 1) M15) fun (r211 : Int32) (M212 : Mem) => gd (¬ ((v14 + (1 : Int32)) < 0 ∨ sL ≤ (v14 + (1 : Int32)).toNatClampNeg)) (gd (¬ ((v14 + (2 : Int32)) < 0 ∨ sL ≤ (v14 + (2 : Int32)).toNatClampNeg)) (jn (fun (v215 : Int32) => gK y12 (y4.2.2 + 1) (0, 12) (c0 (f_X12_peg y12 (y4.2.2 + 1) (xs (v14 + (1 : Int32)).toNatClampNeg) v215 M212) fun (r218 : Int32) (M219 : Mem) => cp (f_X12_thrown y12 (y4.2.2 + 1) M219) fun (r220 : Int32) => br (r220 = r211) (jn (fun (_u : Unit) => j22 M219) fun j223 => br (r211 = 0) (gA y12 (y9.2.2 + 1) 3 (0 : Int32) (br ((lg_cmp (M219.2.1 (y9.2.2 + 1) (0 : Int32).toNatClampNeg) (r218.toInt64)) = 0) (j223 ()) (some (0 : Int32)))) (j223 ())) (some (0 : Int32)))) fun j216 => br ((xs (v14 + (2 : Int32)).toNatClampNeg) = 0) (j216 (0 : Int32)) (j216 (1 : Int32))))) fun j210 => br ((xs (v14 + (2 : Int32)).toNatClampNeg) = 0) (j210 (0 : Int32)) (j210 (1 : Int32))))) (br (((xs v14.toNatClampNeg) &&& (63 : Int32)) = (11 : Int32)) (gK y12 (y.2.2 + 1) (0, 11) (c0 (f_X11_undo y12 (y.2.2 + 1) M15) fun (r236 : Int32) (M237 : Mem) => gK y12 (y4.2.2 + 1) (0, 12) (c0 (f_X12_undo y12 (y4.2.2 + 1) M237) fun (r239 : Int32) (M240 : Mem) => br (r236 = r239) (j22 M240) (some (0 : Int32))))) (br (((xs v14.toNatClampNeg) &&& (63 : Int32)) = (12 : Int32)) (gd (¬ ((v14 + (1 : Int32)) < 0 ∨ sL ≤ (v14 + (1 : Int32)).toNatClampNeg)) (gd (¬ ((v14 + (2 : Int32)) < 0 ∨ sL ≤ (v14 + (2 : Int32)).toNatClampNeg)) (c0 (f_L_then y12 (y.2.2 + 1) (xs (v14 + (1 : Int32)).toNatClampNeg) (xs (v14 + (2 : Int32)).toNatClampNeg) (y9.2.2 + 1) M15) fun (r247 : Int32) (M248 : Mem) => gd (¬ ((v14 + (1 : Int32)) < 0 ∨ sL ≤ (v14 + (1 : Int32)).toNatClampNeg)) (gd (¬ ((v14 + (2 : Int32)) < 0 ∨ sL ≤ (v14 + (2 : Int32)).toNatClampNeg)) (gK y12 (y4.2.2 + 1) (0, 12) (c0 (f_X12_then y12 (y4.2.2 + 1) (xs (v14 + (1 : Int32)).toNatClampNeg) (xs (v14 + (2 : Int32)).toNatClampNeg) M248) fun (r252 : Int32) (M253 : Mem) => cp (f_X12_thrown y12 (y4.2.2 + 1) M253) fun (r254 : Int32) => br (r254 = r247) (jn (fun (_u : Unit) => j22 M253) fun j257 => br (r247 = 0) (gA y12 (y9.2.2 + 1) 3 (0 : Int32) (br ((lg_cmp (M253.2.1 (y9.2.2 + 1) (0 : Int32).toNatClampNeg) (r252.toInt64)) = 0) (j257 ()) (some (0 : Int32)))) (j257 ())) (some (0 : Int32)))))))) (br (((xs v14.toNatClampNeg) &&& (63 : Int32)) = (13 : Int32)) (gd (¬ ((v14 + (1 : Int32)) < 0 ∨ sL ≤ (v14 + (1 : Int32)).toNatClampNeg)) (gd (¬ ((v14 + (2 : Int32)) < 0 ∨ sL ≤ (v14 + (2 : Int32)).toNatClampNeg)) (c0 (f_L_sky y12 (y.2.2 + 1) (xs (v14 + (1 : Int32)).toNatClampNeg) (xs (v14 + (2 : Int32)).toNatClampNeg) (y9.2.2 + 1) M15) fun (r267 : Int32) (M268 : Mem) => gd (¬ ((v14 + (1 : Int32)) < 0 ∨ sL ≤ (v14 + (1 : Int32)).toNatClampNeg)) (gd (¬ ((v14 + (2 : Int32)) < 0 ∨ sL ≤ (v14 + (2 : Int32)).toNatClampNeg)) (gK y12 (y4.2.2 + 1) (0, 12) (c0 (f_X12_sky y12 (y4.2.2 + 1) (xs (v14 + (1 : Int32)).toNatClampNeg) (xs (v14 + (2 : Int32)).toNatClampNeg) M268) fun (r272 : Int32) (M273 : Mem) => cp (f_X12_thrown y12 (y4.2.2 + 1) M273) fun (r274 : Int32) => br (r274 = r267) (jn (fun (_u : Unit) => j22 M273) fun j277 => br (r267 = 0) (gA y12 (y9.2.2 + 1) 3 (0 : Int32) (br ((lg_cmp (M273.2.1 (y9.2.2 + 1) (0 : Int32).toNatClampNeg) (r272.toInt64)) = 0) (j277 ()) (some (0 : Int32)))) (j277 ())) (some (0 : Int32)))))))) (br (((xs v14.toNatClampNeg) &&& (63 : Int32)) = (14 : Int32)) (gd (¬ ((v14 + (1 : Int32)) < 0 ∨ sL ≤ (v14 + (1 : Int32)).toNatClampNeg)) (c0 (f_L_overdone y12 (y.2.2 + 1) (xs (v14 + (1 : Int32)).toNatClampNeg) (y9.2.2 + 1) M15) fun (r286 : Int32) (M287 : Mem) => gd (¬ ((v14 + (1 : Int32)) < 0 ∨ sL ≤ (v14 + (1 : Int32)).toNatClampNeg)) (gK y12 (y4.2.2 + 1) (0, 12) (c0 (f_X12_overdone y12 (y4.2.2 + 1) (xs (v14 + (1 : Int32)).toNatClampNeg) M287) fun (r290 : Int32) (M291 : Mem) => cp (f_X12_thrown y12 (y4.2.2 + 1) M291) fun (r292 : Int32) => br (r292 = r286) (jn (fun (_u : Unit) => j22 M291) fun j295 => br (r286 = 0) (gA y12 (y9.2.2 + 1) 3 (0 : Int32) (br ((lg_cmp (M291.2.1 (y9.2.2 + 1) (0 : Int32).toNatClampNeg) (r290.toInt64)) = 0) (j295 ()) (some (0 : Int32)))) (j295 ())) (some (0 : Int32)))))) (br (((xs v14.toNatClampNeg) &&& (63 : Int32)) = (15 : Int32)) (gd (¬ ((v14 + (1 : Int32)) < 0 ∨ sL ≤ (v14 + (1 : Int32)).toNatClampNeg)) (c0 (f_L_first y12 (y.2.2 + 1) (xs (v14 + (1 : Int32)).toNatClampNeg) (y9.2.2 + 1) M15) fun (r304 : Int32) (M305 : Mem) => gd (¬ ((v14 + (1 : Int32)) < 0 ∨ sL ≤ (v14 + (1 : Int32)).toNatClampNeg)) (gK y12 (y4.2.2 + 1) (0, 12) (c0 (f_X12_first y12 (y4.2.2 + 1) (xs (v14 + (1 : Int32)).toNatClampNeg) M305) fun (r308 : Int32) (M309 : Mem) => cp (f_X12_thrown y12 (y4.2.2 + 1) M309) fun (r310 : Int32) => br (r310 = r304) (jn (fun (_u : Unit) => j22 M309) fun j313 => br (r304 = 0) (gA y12 (y9.2.2 + 1) 3 (0 : Int32) (br ((lg_cmp (M309.2.1 (y9.2.2 + 1) (0 : Int32).toNatClampNeg) (r308.toInt64)) = 0) (j313 ()) (some (0 : Int32)))) (j313 ())) (some (0 : Int32)))))) (br (((xs v14.toNatClampNeg) &&& (63 : Int32)) = (16 : Int32)) (gK y12 (y.2.2 + 1) (0, 11) (c0 (f_X11_spent y12 (y.2.2 + 1) M15) fun (r322 : Int32) (M323 : Mem) => gK y12 (y4.2.2 + 1) (0, 12) (c0 (f_X12_spent y12 (y4.2.2 + 1) M323) fun (r325 : Int32) (M326 : Mem) => br (r322 = r325) (j22 M326) (some (0 : Int32))))) (br (((xs v14.toNatClampNeg) &&& (63 : Int32)) = (17 : Int32)) (gd (¬ ((v14 + (1 : Int32)) < 0 ∨ sL ≤ (v14 + (1 : Int32)).toNatClampNeg)) (c0 (f_L_streak y12 (y.2.2 + 1) (xs (v14 + (1 : Int32)).toNatClampNeg) (y9.2.2 + 1) M15) fun (r332 : Int32) (M333 : Mem) => gd (¬ ((v14 + (1 : Int32)) < 0 ∨ sL ≤ (v14 + (1 : Int32)).toNatClampNeg)) (gK y12 (y4.2.2 + 1) (0, 12) (c0 (f_X12_streak y12 (y4.2.2 + 1) (xs (v14 + (1 : Int32)).toNatClampNeg) M333) fun (r336 : Int32) (M337 : Mem) => cp (f_X12_thrown y12 (y4.2.2 + 1) M337) fun (r338 : Int32) => br (r338 = r332) (jn (fun (_u : Unit) => j22 M337) fun j341 => br (r332 = 0) (gA y12 (y9.2.2 + 1) 3 (0 : Int32) (br ((lg_cmp (M337.2.1 (y9.2.2 + 1) (0 : Int32).toNatClampNeg) (r336.toInt64)) = 0) (j341 ()) (some (0 : Int32)))) (j341 ())) (some (0 : Int32)))))) (br (((xs v14.toNatClampNeg) &&& (63 : Int32)) = (18 : Int32)) (gd (¬ ((v14 + (1 : Int32)) < 0 ∨ sL ≤ (v14 + (1 : Int32)).toNatClampNeg)) (gd (¬ ((v14 + (2 : Int32)) < 0 ∨ sL ≤ (v14 + (2 : Int32)).toNatClampNeg)) (c0 (f_L_patch y12 (y.2.2 + 1) (xs (v14 + (1 : Int32)).toNatClampNeg) (xs (v14 + (2 : Int32)).toNatClampNeg) (y9.2.2 + 1) M15) fun (r351 : Int32) (M352 : Mem) => gd (¬ ((v14 + (1 : Int32)) < 0 ∨ sL ≤ (v14 + (1 : Int32)).toNatClampNeg)) (gd (¬ ((v14 + (2 : Int32)) < 0 ∨ sL ≤ (v14 + (2 : Int32)).toNatClampNeg)) (gK y12 (y4.2.2 + 1) (0, 12) (c0 (f_X12_patch y12 (y4.2.2 + 1) (xs (v14 + (1 : Int32)).toNatClampNeg) (xs (v14 + (2 : Int32)).toNatClampNeg) M352) fun (r356 : Int32) (M357 : Mem) => cp (f_X12_thrown y12 (y4.2.2 + 1) M357) fun (r358 : Int32) => br (r358 = r351) (jn (fun (_u : Unit) => j22 M357) fun j361 => br (r351 = 0) (gA y12 (y9.2.2 + 1) 3 (0 : Int32) (br ((lg_cmp (M357.2.1 (y9.2.2 + 1) (0 : Int32).toNatClampNeg) (r356.toInt64)) = 0) (j361 ()) (some (0 : Int32)))) (j361 ())) (some (0 : Int32)))))))) (br (((xs v14.toNatClampNeg) &&& (63 : Int32)) = (19 : Int32)) (gd (¬ ((v14 + (1 : Int32)) < 0 ∨ sL ≤ (v14 + (1 : Int32)).toNatClampNeg)) (c0 (f_L_patches y12 (y.2.2 + 1) (xs (v14 + (1 : Int32)).toNatClampNeg) (y9.2.2 + 1) M15) fun (r370 : Int32) (M371 : Mem) => gd (¬ ((v14 + (1 : Int32)) < 0 ∨ sL ≤ (v14 + (1 : Int32)).toNatClampNeg)) (gK y12 (y4.2.2 + 1) (0, 12) (c0 (f_X12_patches y12 (y4.2.2 + 1) (xs (v14 + (1 : Int32)).toNatClampNeg) M371) fun (r374 : Int32) (M375 : Mem) => cp (f_X12_thrown y12 (y4.2.2 + 1) M375) fun (r376 : Int32) => br (r376 = r370) (jn (fun (_u : Unit) => j22 M375) fun j379 => br (r370 = 0) (gA y12 (y9.2.2 + 1) 3 (0 : Int32) (br ((lg_cmp (M375.2.1 (y9.2.2 + 1) (0 : Int32).toNatClampNeg) (r374.toInt64)) = 0) (j379 ()) (some (0 : Int32)))) (j379 ())) (some (0 : Int32)))))) (br (((xs v14.toNatClampNeg) &&& (63 : Int32)) = (20 : Int32)) (gd (¬ ((v14 + (1 : Int32)) < 0 ∨ sL ≤ (v14 + (1 : Int32)).toNatClampNeg)) (gd (¬ ((v14 + (2 : Int32)) < 0 ∨ sL ≤ (v14 + (2 : Int32)).toNatClampNeg)) (c0 (f_L_way y12 (y.2.2 + 1) (xs (v14 + (1 : Int32)).toNatClampNeg) (xs (v14 + (2 : Int32)).toNatClampNeg) (y9.2.2 + 1) M15) fun (r389 : Int32) (M390 : Mem) => gd (¬ ((v14 + (1 : Int32)) < 0 ∨ sL ≤ (v14 + (1 : Int32)).toNatClampNeg)) (gd (¬ ((v14 + (2 : Int32)) < 0 ∨ sL ≤ (v14 + (2 : Int32)).toNatClampNeg)) (gK y12 (y4.2.2 + 1) (0, 12) (c0 (f_X12_way y12 (y4.2.2 + 1) (xs (v14 + (1 : Int32)).toNatClampNeg) (xs (v14 + (2 : Int32)).toNatClampNeg) M390) fun (r394 : Int32) (M395 : Mem) => cp (f_X12_thrown y12 (y4.2.2 + 1) M395) fun (r396 : Int32) => br (r396 = r389) (jn (fun (_u : Unit) => j22 M395) fun j399 => br (r389 = 0) (gA y12 (y9.2.2 + 1) 3 (0 : Int32) (br ((lg_cmp (M395.2.1 (y9.2.2 + 1) (0 : Int32).toNatClampNeg) (r394.toInt64)) = 0) (j399 ()) (some (0 : Int32)))) (j399 ())) (some (0 : Int32)))))))) (br (((xs v14.toNatClampNeg) &&& (63 : Int32)) = (21 : Int32)) (gK y12 (y.2.2 + 1) (0, 11) (c0 (f_X11_toRest y12 (y.2.2 + 1) M15) fun (r408 : Int32) (M409 : Mem) => gK y12 (y4.2.2 + 1) (0, 12) (c0 (f_X12_toRest y12 (y4.2.2 + 1) M409) fun (r411 : Int32) (M412 : Mem) => br (r408 = r411) (j22 M412) (some (0 : Int32))))) (br (((xs v14.toNatClampNeg) &&& (63 : Int32)) = (22 : Int32)) (gd (¬ ((v14 + (1 : Int32)) < 0 ∨ sL ≤ (v14 + (1 : Int32)).toNatClampNeg)) (gd (¬ ((v14 + (2 : Int32)) < 0 ∨ sL ≤ (v14 + (2 : Int32)).toNatClampNeg)) (c0 (f_L_toStand y12 (y.2.2 + 1) (xs (v14 + (1 : Int32)).toNatClampNeg) (xs (v14 + (2 : Int32)).toNatClampNeg) (y9.2.2 + 1) M15) fun (r419 : Int32) (M420 : Mem) => gd (¬ ((v14 + (1 : Int32)) < 0 ∨ sL ≤ (v14 + (1 : Int32)).toNatClampNeg)) (gd (¬ ((v14 + (2 : Int32)) < 0 ∨ sL ≤ (v14 + (2 : Int32)).toNatClampNeg)) (gK y12 (y4.2.2 + 1) (0, 12) (c0 (f_X12_toStand y12 (y4.2.2 + 1) (xs (v14 + (1 : Int32)).toNatClampNeg) (xs (v14 + (2 : Int32)).toNatClampNeg) M420) fun (r424 : Int32) (M425 : Mem) => cp (f_X12_thrown y12 (y4.2.2 + 1) M425) fun (r426 : Int32) => br (r426 = r419) (jn (fun (_u : Unit) => j22 M425) fun j429 => br (r419 = 0) (gA y12 (y9.2.2 + 1) 3 (0 : Int32) (br ((lg_cmp (M425.2.1 (y9.2.2 + 1) (0 : Int32).toNatClampNeg) (r424.toInt64)) = 0) (j429 ()) (some (0 : Int32)))) (j429 ())) (some (0 : Int32)))))))) (br (((xs v14.toNatClampNeg) &&& (63 : Int32)) = (23 : Int32)) (gd (¬ ((v14 + (1 : Int32)) < 0 ∨ sL ≤ (v14 + (1 : Int32)).toNatClampNeg)) (gd (¬ ((v14 + (2 : Int32)) < 0 ∨ sL ≤ (v14 + (2 : Int32)).toNatClampNeg)) (c0 (f_L_toSwish y12 (y.2.2 + 1) (xs (v14 + (1 : Int32)).toNatClampNeg) (xs (v14 + (2 : Int32)).toNatClampNeg) (y9.2.2 + 1) M15) fun (r439 : Int32) (M440 : Mem) => gd (¬ ((v14 + (1 : Int32)) < 0 ∨ sL ≤ (v14 + (1 : Int32)).toNatClampNeg)) (gd (¬ ((v14 + (2 : Int32)) < 0 ∨ sL ≤ (v14 + (2 : Int32)).toNatClampNeg)) (gK y12 (y4.2.2 + 1) (0, 12) (c0 (f_X12_toSwish y12 (y4.2.2 + 1) (xs (v14 + (1 : Int32)).toNatClampNeg) (xs (v14 + (2 : Int32)).toNatClampNeg) M440) fun (r444 : Int32) (M445 : Mem) => cp (f_X12_thrown y12 (y4.2.2 + 1) M445) fun (r446 : Int32) => br (r446 = r439) (jn (fun (_u : Unit) => j22 M445) fun j449 => br (r439 = 0) (gA y12 (y9.2.2 + 1) 3 (0 : Int32) (br ((lg_cmp (M445.2.1 (y9.2.2 + 1) (0 : Int32).toNatClampNeg) (r444.toInt64)) = 0) (j449 ()) (some (0 : Int32)))) (j449 ())) (some (0 : Int32)))))))) (br (((xs v14.toNatClampNeg) &&& (63 : Int32)) = (24 : Int32)) (gd (¬ ((v14 + (1 : Int32)) < 0 ∨ sL ≤ (v14 + (1 : Int32)).toNatClampNeg)) (gd (¬ ((v14 + (2 : Int32)) < 0 ∨ sL ≤ (v14 + (2 : Int32)).toNatClampNeg)) (c0 (f_L_sent y12 (y.2.2 + 1) (xs (v14 + (1 : Int32)).toNatClampNeg) (xs (v14 + (2 : Int32)).toNatClampNeg) (y9.2.2 + 1) M15) fun (r459 : Int32) (M460 : Mem) => gd (¬ ((v14 + (1 : Int32)) < 0 ∨ sL ≤ (v14 + (1 : Int32)).toNatClampNeg)) (gd (¬ ((v14 + (2 : Int32)) < 0 ∨ sL ≤ (v14 + (2 : Int32)).toNatClampNeg)) (gK y12 (y4.2.2 + 1) (0, 12) (c0 (f_X12_sent y12 (y4.2.2 + 1) (xs (v14 + (1 : Int32)).toNatClampNeg) (xs (v14 + (2 : Int32)).toNatClampNeg) M460) fun (r464 : Int32) (M465 : Mem) => cp (f_X12_thrown y12 (y4.2.2 + 1) M465) fun (r466 : Int32) => br (r466 = r459) (jn (fun (_u : Unit) => j22 M465) fun j469 => br (r459 = 0) (gA y12 (y9.2.2 + 1) 3 (0 : Int32) (br ((lg_cmp (M465.2.1 (y9.2.2 + 1) (0 : Int32).toNatClampNeg) (r464.toInt64)) = 0) (j469 ()) (some (0 : Int32)))) (j469 ())) (some (0 : Int32)))))))) (br (((xs v14.toNatClampNeg) &&& (63 : Int32)) = (25 : Int32)) (gd (¬ ((v14 + (1 : Int32)) < 0 ∨ sL ≤ (v14 + (1 : Int32)).toNatClampNeg)) (c0 (f_L_band y12 (y.2.2 + 1) (xs (v14 + (1 : Int32)).toNatClampNeg) (y9.2.2 + 1) M15) fun (r478 : Int32) (M479 : Mem) => gd (¬ ((v14 + (1 : Int32)) < 0 ∨ sL ≤ (v14 + (1 : Int32)).toNatClampNeg)) (gK y12 (y4.2.2 + 1) (0, 12) (c0 (f_X12_band y12 (y4.2.2 + 1) (xs (v14 + (1 : Int32)).toNatClampNeg) M479) fun (r482 : Int32) (M483 : Mem) => cp (f_X12_thrown y12 (y4.2.2 + 1) M483) fun (r484 : Int32) => br (r484 = r478) (jn (fun (_u : Unit) => j22 M483) fun j487 => br (r478 = 0) (gA y12 (y9.2.2 + 1) 3 (0 : Int32) (br ((lg_cmp (M483.2.1 (y9.2.2 + 1) (0 : Int32).toNatClampNeg) (r482.toInt64)) = 0) (j487 ()) (some (0 : Int32)))) (j487 ())) (some (0 : Int32)))))) (br (((xs v14.toNatClampNeg) &&& (63 : Int32)) = (26 : Int32)) (gK y12 (y.2.2 + 1) (0, 11) (c0 (f_X11_steady y12 (y.2.2 + 1) M15) fun (r496 : Int32) (M497 : Mem) => gK y12 (y4.2.2 + 1) (0, 12) (c0 (f_X12_steady y12 (y4.2.2 + 1) M497) fun (r499 : Int32) (M500 : Mem) => br (r496 = r499) (j22 M500) (some (0 : Int32))))) (br (((xs v14.toNatClampNeg) &&& (63 : Int32)) = (27 : Int32)) (gd (¬ ((v14 + (1 : Int32)) < 0 ∨ sL ≤ (v14 + (1 : Int32)).toNatClampNeg)) (gd (¬ ((v14 + (2 : Int32)) < 0 ∨ sL ≤ (v14 + (2 : Int32)).toNatClampNeg)) (c0 (f_L_steps y12 (y.2.2 + 1) (xs (v14 + (1 : Int32)).toNatClampNeg) (xs (v14 + (2 : Int32)).toNatClampNeg) (y9.2.2 + 1) M15) fun (r507 : Int32) (M508 : Mem) => gd (¬ ((v14 + (1 : Int32)) < 0 ∨ sL ≤ (v14 + (1 : Int32)).toNatClampNeg)) (gd (¬ ((v14 + (2 : Int32)) < 0 ∨ sL ≤ (v14 + (2 : Int32)).toNatClampNeg)) (gK y12 (y4.2.2 + 1) (0, 12) (c0 (f_X12_steps y12 (y4.2.2 + 1) (xs (v14 + (1 : Int32)).toNatClampNeg) (xs (v14 + (2 : Int32)).toNatClampNeg) M508) fun (r512 : Int32) (M513 : Mem) => cp (f_X12_thrown y12 (y4.2.2 + 1) M513) fun (r514 : Int32) => br (r514 = r507) (jn (fun (_u : Unit) => j22 M513) fun j517 => br (r507 = 0) (gA y12 (y9.2.2 + 1) 3 (0 : Int32) (br ((lg_cmp (M513.2.1 (y9.2.2 + 1) (0 : Int32).toNatClampNeg) (r512.toInt64)) = 0) (j517 ()) (some (0 : Int32)))) (j517 ())) (some (0 : Int32)))))))) (br (((xs v14.toNatClampNeg) &&& (63 : Int32)) = (28 : Int32)) (gd (¬ ((v14 + (1 : Int32)) < 0 ∨ sL ≤ (v14 + (1 : Int32)).toNatClampNeg)) (c0 (f_L_nearest y12 (y.2.2 + 1) (xs (v14 + (1 : Int32)).toNatClampNeg) (y9.2.2 + 1) M15) fun (r526 : Int32) (M527 : Mem) => gd (¬ ((v14 + (1 : Int32)) < 0 ∨ sL ≤ (v14 + (1 : Int32)).toNatClampNeg)) (gK y12 (y4.2.2 + 1) (0, 12) (c0 (f_X12_nearest y12 (y4.2.2 + 1) (xs (v14 + (1 : Int32)).toNatClampNeg) M527) fun (r530 : Int32) (M531 : Mem) => cp (f_X12_thrown y12 (y4.2.2 + 1) M531) fun (r532 : Int32) => br (r532 = r526) (jn (fun (_u : Unit) => j22 M531) fun j535 => br (r526 = 0) (gA y12 (y9.2.2 + 1) 3 (0 : Int32) (br ((lg_cmp (M531.2.1 (y9.2.2 + 1) (0 : Int32).toNatClampNeg) (r530.toInt64)) = 0) (j535 ()) (some (0 : Int32)))) (j535 ())) (some (0 : Int32)))))) (br (((xs v14.toNatClampNeg) &&& (63 : Int32)) = (29 : Int32)) (gd (¬ ((v14 + (1 : Int32)) < 0 ∨ sL ≤ (v14 + (1 : Int32)).toNatClampNeg)) (c0 (f_L_missed y12 (y.2.2 + 1) (xs (v14 + (1 : Int32)).toNatClampNeg) (y9.2.2 + 1) M15) fun (r544 : Int32) (M545 : Mem) => gd (¬ ((v14 + (1 : Int32)) < 0 ∨ sL ≤ (v14 + (1 : Int32)).toNatClampNeg)) (gK y12 (y4.2.2 + 1) (0, 12) (c0 (f_X12_missed y12 (y4.2.2 + 1) (xs (v14 + (1 : Int32)).toNatClampNeg) M545) fun (r548 : Int32) (M549 : Mem) => cp (f_X12_thrown y12 (y4.2.2 + 1) M549) fun (r550 : Int32) => br (r550 = r544) (jn (fun (_u : Unit) => j22 M549) fun j553 => br (r544 = 0) (gA y12 (y9.2.2 + 1) 3 (0 : Int32) (br ((lg_cmp (M549.2.1 (y9.2.2 + 1) (0 : Int32).toNatClampNeg) (r548.toInt64)) = 0) (j553 ()) (some (0 : Int32)))) (j553 ())) (some (0 : Int32)))))) (br (((xs v14.toNatClampNeg) &&& (63 : Int32)) = (30 : Int32)) (gd (¬ ((v14 + (1 : Int32)) < 0 ∨ sL ≤ (v14 + (1 : Int32)).toNatClampNeg)) (gd (¬ ((v14 + (2 : Int32)) < 0 ∨ sL ≤ (v14 + (2 : Int32)).toNatClampNeg)) (gd (¬ ((v14 + (3 : Int32)) < 0 ∨ sL ≤ (v14 + (3 : Int32)).toNatClampNeg)) (c0 (f_L_see y12 (y.2.2 + 1) (xs (v14 + (1 : Int32)).toNatClampNeg) (xs (v14 + (2 : Int32)).toNatClampNeg) (xs (v14 + (3 : Int32)).toNatClampNeg) (y9.2.2 + 1) M15) fun (r564 : Int32) (M565 : Mem) => gd (¬ ((v14 + (1 : Int32)) < 0 ∨ sL ≤ (v14 + (1 : Int32)).toNatClampNeg)) (gd (¬ ((v14 + (2 : Int32)) < 0 ∨ sL ≤ (v14 + (2 : Int32)).toNatClampNeg)) (gd (¬ ((v14 + (3 : Int32)) < 0 ∨ sL ≤ (v14 + (3 : Int32)).toNatClampNeg)) (gK y12 (y4.2.2 + 1) (0, 12) (c0 (f_X12_see y12 (y4.2.2 + 1) (xs (v14 + (1 : Int32)).toNatClampNeg) (xs (v14 + (2 : Int32)).toNatClampNeg) (xs (v14 + (3 : Int32)).toNatClampNeg) M565) fun (r570 : Int32) (M571 : Mem) => cp (f_X12_thrown y12 (y4.2.2 + 1) M571) fun (r572 : Int32) => br (r572 = r564) (jn (fun (_u : Unit) => j22 M571) fun j575 => br (r564 = 0) (gA y12 (y9.2.2 + 1) 3 (0 : Int32) (br ((lg_cmp (M571.2.1 (y9.2.2 + 1) (0 : Int32).toNatClampNeg) (r570.toInt64)) = 0) (j575 ()) (some (0 : Int32)))) (j575 ())) (some (0 : Int32)))))))))) (br (((xs v14.toNatClampNeg) &&& (63 : Int32)) = (31 : Int32)) (gd (¬ ((v14 + (1 : Int32)) < 0 ∨ sL ≤ (v14 + (1 : Int32)).toNatClampNeg)) (c0 (f_L_skilled y12 (y.2.2 + 1) (xs (v14 + (1 : Int32)).toNatClampNeg) (y9.2.2 + 1) M15) fun (r584 : Int32) (M585 : Mem) => gd (¬ ((v14 + (1 : Int32)) < 0 ∨ sL ≤ (v14 + (1 : Int32)).toNatClampNeg)) (gK y12 (y4.2.2 + 1) (0, 12) (c0 (f_X12_skilled y12 (y4.2.2 + 1) (xs (v14 + (1 : Int32)).toNatClampNeg) M585) fun (r588 : Int32) (M589 : Mem) => cp (f_X12_thrown y12 (y4.2.2 + 1) M589) fun (r590 : Int32) => br (r590 = r584) (jn (fun (_u : Unit) => j22 M589) fun j593 => br (r584 = 0) (gA y12 (y9.2.2 + 1) 3 (0 : Int32) (br ((lg_cmp (M589.2.1 (y9.2.2 + 1) (0 : Int32).toNatClampNeg) (r588.toInt64)) = 0) (j593 ()) (some (0 : Int32)))) (j593 ())) (some (0 : Int32)))))) (br (((xs v14.toNatClampNeg) &&& (63 : Int32)) = (32 : Int32)) (gd (¬ ((v14 + (1 : Int32)) < 0 ∨ sL ≤ (v14 + (1 : Int32)).toNatClampNeg)) (c0 (f_L_look y12 (y.2.2 + 1) (xs (v14 + (1 : Int32)).toNatClampNeg) (y9.2.2 + 1) M15) fun (r602 : Int32) (M603 : Mem) => gd (¬ ((v14 + (1 : Int32)) < 0 ∨ sL ≤ (v14 + (1 : Int32)).toNatClampNeg)) (gK y12 (y4.2.2 + 1) (0, 12) (c0 (f_X12_look y12 (y4.2.2 + 1) (xs (v14 + (1 : Int32)).toNatClampNeg) M603) fun (r606 : Int32) (M607 : Mem) => cp (f_X12_thrown y12 (y4.2.2 + 1) M607) fun (r608 : Int32) => br (r608 = r602) (jn (fun (_u : Unit) => j22 M607) fun j611 => br (r602 = 0) (gA y12 (y9.2.2 + 1) 3 (0 : Int32) (br ((lg_cmp (M607.2.1 (y9.2.2 + 1) (0 : Int32).toNatClampNeg) (r606.toInt64)) = 0) (j611 ()) (some (0 : Int32)))) (j611 ())) (some (0 : Int32)))))) (br (((xs v14.toNatClampNeg) &&& (63 : Int32)) = (33 : Int32)) (gK y12 (y.2.2 + 1) (0, 11) (c0 (f_X11_forget y12 (y.2.2 + 1) M15) fun (r620 : Int32) (M621 : Mem) => gK y12 (y4.2.2 + 1) (0, 12) (c0 (f_X12_forget y12 (y4.2.2 + 1) M621) fun (r623 : Int32) (M624 : Mem) => j22 M624))) (br (((xs v14.toNatClampNeg) &&& (63 : Int32)) = (34 : Int32)) (gd (¬ ((v14 + (1 : Int32)) < 0 ∨ sL ≤ (v14 + (1 : Int32)).toNatClampNeg)) (gd (¬ ((v14 + (2 : Int32)) < 0 ∨ sL ≤ (v14 + (2 : Int32)).toNatClampNeg)) (gd (¬ ((v14 + (3 : Int32)) < 0 ∨ sL ≤ (v14 + (3 : Int32)).toNatClampNeg)) (c0 (f_L_game y12 (y.2.2 + 1) (xs (v14 + (1 : Int32)).toNatClampNeg) (xs (v14 + (2 : Int32)).toNatClampNeg) (xs (v14 + (3 : Int32)).toNatClampNeg) (y9.2.2 + 1) M15) fun (r630 : Int32) (M631 : Mem) => gd (¬ ((v14 + (1 : Int32)) < 0 ∨ sL ≤ (v14 + (1 : Int32)).toNatClampNeg)) (gd (¬ ((v14 + (2 : Int32)) < 0 ∨ sL ≤ (v14 + (2 : Int32)).toNatClampNeg)) (gd (¬ ((v14 + (3 : Int32)) < 0 ∨ sL ≤ (v14 + (3 : Int32)).toNatClampNeg)) (gK y12 (y4.2.2 + 1) (0, 12) (c0 (f_X12_game y12 (y4.2.2 + 1) (xs (v14 + (1 : Int32)).toNatClampNeg) (xs (v14 + (2 : Int32)).toNatClampNeg) (xs (v14 + (3 : Int32)).toNatClampNeg) M631) fun (r636 : Int32) (M637 : Mem) => cp (f_X12_thrown y12 (y4.2.2 + 1) M637) fun (r638 : Int32) => br (r638 = r630) (jn (fun (_u : Unit) => j22 M637) fun j641 => br (r630 = 0) (gA y12 (y9.2.2 + 1) 3 (0 : Int32) (br ((lg_cmp (M637.2.1 (y9.2.2 + 1) (0 : Int32).toNatClampNeg) (r636.toInt64)) = 0) (j641 ()) (some (0 : Int32)))) (j641 ())) (some (0 : Int32)))))))))) (br (((xs v14.toNatClampNeg) &&& (63 : Int32)) = (35 : Int32)) (gd (¬ ((v14 + (1 : Int32)) < 0 ∨ sL ≤ (v14 + (1 : Int32)).toNatClampNeg)) (gd (¬ ((v14 + (2 : Int32)) < 0 ∨ sL ≤ (v14 + (2 : Int32)).toNatClampNeg)) (gd (¬ ((v14 + (3 : Int32)) < 0 ∨ sL ≤ (v14 + (3 : Int32)).toNatClampNeg)) (c0 (f_L_skies y12 (y.2.2 + 1) (xs (v14 + (1 : Int32)).toNatClampNeg) (xs (v14 + (2 : Int32)).toNatClampNeg) (xs (v14 + (3 : Int32)).toNatClampNeg) (y9.2.2 + 1) M15) fun (r652 : Int32) (M653 : Mem) => gd (¬ ((v14 + (1 : Int32)) < 0 ∨ sL ≤ (v14 + (1 : Int32)).toNatClampNeg)) (gd (¬ ((v14 + (2 : Int32)) < 0 ∨ sL ≤ (v14 + (2 : Int32)).toNatClampNeg)) (gd (¬ ((v14 + (3 : Int32)) < 0 ∨ sL ≤ (v14 + (3 : Int32)).toNatClampNeg)) (gK y12 (y4.2.2 + 1) (0, 12) (c0 (f_X12_skies y12 (y4.2.2 + 1) (xs (v14 + (1 : Int32)).toNatClampNeg) (xs (v14 + (2 : Int32)).toNatClampNeg) (xs (v14 + (3 : Int32)).toNatClampNeg) M653) fun (r658 : Int32) (M659 : Mem) => cp (f_X12_thrown y12 (y4.2.2 + 1) M659) fun (r660 : Int32) => br (r660 = r652) (jn (fun (_u : Unit) => j22 M659) fun j663 => br (r652 = 0) (gA y12 (y9.2.2 + 1) 3 (0 : Int32) (br ((lg_cmp (M659.2.1 (y9.2.2 + 1) (0 : Int32).toNatClampNeg) (r658.toInt64)) = 0) (j663 ()) (some (0 : Int32)))) (j663 ())) (some (0 : Int32)))))))))) (br (((xs v14.toNatClampNeg) &&& (63 : Int32)) = (36 : Int32)) (gK y12 (y.2.2 + 1) (0, 11) (c0 (f_X11_image y12 (y.2.2 + 1) M15) fun (r672 : Int32) (M673 : Mem) => gK y12 (y4.2.2 + 1) (0, 12) (c0 (f_X12_image y12 (y4.2.2 + 1) M673) fun (r675 : Int32) (M676 : Mem) => j22 M676))) (gK y12 (y.2.2 + 1) (0, 11) (c0 (f_X11_restore y12 (y.2.2 + 1) M15) fun (r680 : Int32) (M681 : Mem) => gK y12 (y4.2.2 + 1) (0, 12) (c0 (f_X12_restore y12 (y4.2.2 + 1) M681) fun (r683 : Int32) (M684 : Mem) => br (r680 = r683) (j22 M684) (some (0 : Int32))))))))))))))))))))))))))))))))))))))))))))) 2 (0 : Int32) M13)))
set_option maxRecDepth 20000 in
set_option maxHeartbeats 32000000 in
theorem w_L_law {g : GX} {x : KX} {Q : State → Prop} (y : Lay) (M : Mem) {sL : Nat} {xs : Nat → Int32} (hsL : g.2.2.2.2.2.1 = sL) (hxs : g.2.2.2.2.2.2 = xs) (C : CX g x RL code 7 837 600002 7302232) (R : RTL g x Q) (hz : HZ g x 0 y) {out : Int32} (h : f_L_law y M sL xs = some out) (ho : out = 1) : GG g x 7 Q 0 0 y M 0 [some (.ref 1999), none, none, none, none, none, none] [] := by
  unfold f_L_law at h
  obtain ⟨g1, h⟩ := gd_e h
  refine g_new C tb_L_law_0_ok (i := 0) hz rfl cls_11 cnw_11 ck_L_8 ins_11 ini_11 (Or.inr g1) (by decide) (by decide) (fun hz => ?_)
  refine g_nm (fun y2 ey2 M3 eM3 => ?_)
  have h := lt_e ey2 h
  have h := lt_e eM3 h
  rw [← ey2] at hz
  refine g_dup C tb_L_law_0_ok (i := 1) rfl rfl ?_
  obtain ⟨y4, M5, ey4, h⟩ := ci_e h
  refine g_callI C tb_L_law_0_ok (i := 2) [] hz rfl mw_X11_init mi_X11_init mli_L_99 rfl rfl rfl rfl (w_X11_init C.G y2 (y.2.2 + 1) M3) ey4 (by decide) (by decide) rfl (fun hz => ?_)
  refine g_astore_n C tb_L_law_0_ok (i := 3) rfl rfl rfl ?_
  obtain ⟨g6, h⟩ := gd_e h
  refine g_new C tb_L_law_0_ok (i := 4) hz rfl cls_12 cnw_12 ck_L_100 ins_12 ini_12 (Or.inr g6) (by decide) (by decide) (fun hz => ?_)
  refine g_nm (fun y7 ey7 M8 eM8 => ?_)
  have h := lt_e ey7 h
  have h := lt_e eM8 h
  rw [← ey7] at hz
  refine g_dup C tb_L_law_0_ok (i := 5) rfl rfl ?_
  obtain ⟨y9, M10, ey9, h⟩ := ci_e h
  refine g_callI C tb_L_law_0_ok (i := 6) [] hz rfl mw_X12_init mi_X12_init mli_L_102 rfl rfl rfl rfl (w_X12_init C.G y7 (y4.2.2 + 1) M8) ey9 (by decide) (by decide) rfl (fun hz => ?_)
  refine g_astore_n C tb_L_law_0_ok (i := 7) rfl rfl rfl ?_
  refine g_iconstv C tb_L_law_0_ok (i := 8) 1 rfl k_iconstv_1 ?_
  obtain ⟨g11, h⟩ := gd_e h
  refine g_newaL C tb_L_law_0_ok (i := 9) (N := 1) hz rfl acl_long (by decide) (by decide) rfl g11 (by decide) (by decide) (fun hz => ?_)
  refine g_nm (fun y12 ey12 M13 eM13 => ?_)
  have h := lt_e ey12 h
  have h := lt_e eM13 h
  rw [← ey12] at hz
  refine g_astore_n C tb_L_law_0_ok (i := 10) rfl rfl rfl ?_
  refine g_iconstv C tb_L_law_0_ok (i := 11) 0 rfl k_iconstv_0 ?_
  refine g_istore C tb_L_law_0_ok (i := 12) rfl rfl rfl ?_
  refine g_less (L' := [some (.ref 1999), some (.ref (y.2.2 + 1)), some (.ref (y4.2.2 + 1)), some (.ref (y9.2.2 + 1)), some (.int (0 : Int32)), none, none]) ⟨rfl, ⟨rfl, ⟨rfl, ⟨rfl, ⟨rfl, trivial⟩⟩⟩⟩⟩ ?_
  refine fix_k (P := fun (n : Nat) (f : Int32 → Mem → Option Int32) => ∀ (v14 : Int32) (M15 : Mem), f v14 M15 = some out → ∀ kc ks : Nat, kc + 43 * n ≤ 600002 → ks + 253 * n ≤ 7302232 → GG g x 7 Q kc ks y12 M15 23 [some (.ref 1999), some (.ref (y.2.2 + 1)), some (.ref (y4.2.2 + 1)), some (.ref (y9.2.2 + 1)), some (.int v14), none, none] []) ?_ ?_ 2 (0 : Int32) M13 h _ _ (by decide) (by decide)
  · intro v14 M15 h; exact (nn_e h).elim
  · intro n s16 ih17 v14 M15 h kc ks hkc9 hks9
    refine g_widen (k2 := kc + 0) (s2 := ks + 0) (bl (by omega)) (bl (by omega)) ?_
    refine g_iload C tb_L_law_0_ok (i := 13) rfl rfl ?_
    refine g_aload_n C tb_L_law_0_ok (i := 14) rfl rfl ?_
    refine g_xlen C tb_L_law_0_ok (i := 15) hsL rfl ?_
    refine g_bipushv C tb_L_law_0_ok (i := 16) 6 rfl k_bipushv_6 ?_
    refine g_isub C tb_L_law_0_ok (i := 17) rfl ?_
    obtain ⟨t18, f19⟩ := br_e h
    refine g_icmp_gt C tb_L_law_0_ok (i := 18) 2216 rfl rfl (fun c => ?_) (fun c => ?_)
    · have h := t18 c
      refine g_iconstv C tb_L_law_33_ok (i := 4) 1 rfl k_iconstv_1 ?_
      cases h
      exact g_lret C R (bl (by omega)) (bl (by omega)) tb_L_law_33_ok (i := 5) rfl
    · have h := f19 c
      refine g_aload_n C tb_L_law_0_ok (i := 19) rfl rfl ?_
      refine g_iload C tb_L_law_0_ok (i := 20) rfl rfl ?_
      obtain ⟨b20, h⟩ := gd_e h
      refine g_xald C tb_L_law_0_ok (i := 21) hsL hxs rfl b20 ?_
      refine g_bipushv C tb_L_law_0_ok (i := 22) 63 rfl k_bipushv_63 ?_
      refine g_iand C tb_L_law_0_ok (i := 23) rfl ?_
      obtain ⟨j22, ej22, h⟩ := jn_e h
      have J2210 : ∀ (M21 : Mem), j22 M21 = some out → GG g x 7 Q (kc + 42) (ks + 252) y12 M21 2210 [some (.ref 1999), some (.ref (y.2.2 + 1)), some (.ref (y4.2.2 + 1)), some (.ref (y9.2.2 + 1)), some (.int v14), none, none] [] := by
        intro M21 h; subst ej22
        obtain ⟨v23, ev23⟩ : ∃ w : Int32, w = v14 + (6 : Int32) := ⟨_, rfl⟩
        have h := lt_e ev23 h
        refine g_iincv C tb_L_law_33_ok (i := 2) (6 : Int32) ev23 rfl rfl k_iconstv_6 rfl rfl ?_
        refine g_goto C tb_L_law_33_ok (i := 3) 23 rfl rfl ?_
        exact g_less (L' := [some (.ref 1999), some (.ref (y.2.2 + 1)), some (.ref (y4.2.2 + 1)), some (.ref (y9.2.2 + 1)), some (.int v23), none, none]) ⟨rfl, ⟨rfl, ⟨rfl, ⟨rfl, ⟨rfl, trivial⟩⟩⟩⟩⟩ (ih17 v23 M21 h _ _ (by omega) (by omega))
      obtain ⟨t24, f25⟩ := br_e h
      by_cases hsw : ((xs v14.toNatClampNeg) &&& (63 : Int32)) < (0 : Int32) ∨ (37 : Int32) < ((xs v14.toNatClampNeg) &&& (63 : Int32))
      · have h := t24 hsw
        refine g_tableOut C tb_L_law_0_ok (i := 24) 0 37 2210 rfl hsw (by decide) rfl ?_
        refine g_widen (k2 := (kc + 42)) (s2 := (ks + 252)) (bl (by omega)) (bl (by omega)) ?_
        exact g_less (L' := [some (.ref 1999), some (.ref (y.2.2 + 1)), some (.ref (y4.2.2 + 1)), some (.ref (y9.2.2 + 1)), some (.int v14), none, none]) ⟨rfl, ⟨rfl, ⟨rfl, ⟨rfl, ⟨rfl, trivial⟩⟩⟩⟩⟩ (J2210 M15 h)
      have h := f25 hsw
      obtain ⟨t44, f45⟩ := br_e h
      by_cases hs1000 : ((xs v14.toNatClampNeg) &&& (63 : Int32)) = (0 : Int32)
      · have h := t44 hs1000
        refine g_tableIn C tb_L_law_0_ok (i := 24) 0 208 168 rfl hs1000 (by decide) rfl ?_
        refine g_aload_n C tb_L_law_0_ok (i := 25) rfl rfl ?_
        refine g_aload_n C tb_L_law_0_ok (i := 26) rfl rfl ?_
        refine g_iload C tb_L_law_0_ok (i := 27) rfl rfl ?_
        refine g_iconstv C tb_L_law_0_ok (i := 28) 1 rfl k_iconstv_1 ?_
        refine g_iadd C tb_L_law_0_ok (i := 29) rfl ?_
        obtain ⟨b26, h⟩ := gd_e h
        refine g_xald C tb_L_law_0_ok (i := 30) hsL hxs rfl b26 ?_
        refine g_aload_n C tb_L_law_0_ok (i := 31) rfl rfl ?_
        refine g_iload C tb_L_law_0_ok (i := 32) rfl rfl ?_
        refine g_iconstv C tb_L_law_0_ok (i := 33) 2 rfl k_iconstv_2 ?_
        refine g_iadd C tb_L_law_0_ok (i := 34) rfl ?_
        obtain ⟨b27, h⟩ := gd_e h
        refine g_xald C tb_L_law_0_ok (i := 35) hsL hxs rfl b27 ?_
        refine g_aload_n C tb_L_law_0_ok (i := 36) rfl rfl ?_
        refine g_iload C tb_L_law_0_ok (i := 37) rfl rfl ?_
        refine g_iconstv C tb_L_law_0_ok (i := 38) 3 rfl k_iconstv_3 ?_
        refine g_iadd C tb_L_law_0_ok (i := 39) rfl ?_
        obtain ⟨b28, h⟩ := gd_e h
        refine g_xald C tb_L_law_1_ok (i := 0) hsL hxs rfl b28 ?_
        refine g_aload_n C tb_L_law_1_ok (i := 1) rfl rfl ?_
        refine g_iload C tb_L_law_1_ok (i := 2) rfl rfl ?_
        refine g_iconstv C tb_L_law_1_ok (i := 3) 4 rfl k_iconstv_4 ?_
        refine g_iadd C tb_L_law_1_ok (i := 4) rfl ?_
        obtain ⟨b29, h⟩ := gd_e h
        refine g_xald C tb_L_law_1_ok (i := 5) hsL hxs rfl b29 ?_
        refine g_aload_n C tb_L_law_1_ok (i := 6) rfl rfl ?_
        refine g_iload C tb_L_law_1_ok (i := 7) rfl rfl ?_
        refine g_iconstv C tb_L_law_1_ok (i := 8) 5 rfl k_iconstv_5 ?_
        refine g_iadd C tb_L_law_1_ok (i := 9) rfl ?_
        obtain ⟨b30, h⟩ := gd_e h
        refine g_xald C tb_L_law_1_ok (i := 10) hsL hxs rfl b30 ?_
        obtain ⟨k31, h⟩ := gK_e h
        obtain ⟨r32, M33, er32, h⟩ := c0_e h
        refine g_callV0 C tb_L_law_1_ok (i := 11) [.int (xs (v14 + (1 : Int32)).toNatClampNeg), .int (xs (v14 + (2 : Int32)).toNatClampNeg), .int (xs (v14 + (3 : Int32)).toNatClampNeg), .int (xs (v14 + (4 : Int32)).toNatClampNeg), .int (xs (v14 + (5 : Int32)).toNatClampNeg)] rfl mw_X11_feed mv_X11_feed ml_L_103 k31 rfl rfl rfl rfl (w_X11_feed C.G y12 (y.2.2 + 1) (xs (v14 + (1 : Int32)).toNatClampNeg) (xs (v14 + (2 : Int32)).toNatClampNeg) (xs (v14 + (3 : Int32)).toNatClampNeg) (xs (v14 + (4 : Int32)).toNatClampNeg) (xs (v14 + (5 : Int32)).toNatClampNeg) M15) er32 (bl (by omega)) (bl (by omega)) rfl ?_
        refine g_aload_n C tb_L_law_1_ok (i := 12) rfl rfl ?_
        refine g_aload_n C tb_L_law_1_ok (i := 13) rfl rfl ?_
        refine g_iload C tb_L_law_1_ok (i := 14) rfl rfl ?_
        refine g_iconstv C tb_L_law_1_ok (i := 15) 1 rfl k_iconstv_1 ?_
        refine g_iadd C tb_L_law_1_ok (i := 16) rfl ?_
        obtain ⟨b34, h⟩ := gd_e h
        refine g_xald C tb_L_law_1_ok (i := 17) hsL hxs rfl b34 ?_
        refine g_aload_n C tb_L_law_1_ok (i := 18) rfl rfl ?_
        refine g_iload C tb_L_law_1_ok (i := 19) rfl rfl ?_
        refine g_iconstv C tb_L_law_1_ok (i := 20) 2 rfl k_iconstv_2 ?_
        refine g_iadd C tb_L_law_1_ok (i := 21) rfl ?_
        obtain ⟨b35, h⟩ := gd_e h
        refine g_xald C tb_L_law_1_ok (i := 22) hsL hxs rfl b35 ?_
        refine g_aload_n C tb_L_law_1_ok (i := 23) rfl rfl ?_
        refine g_iload C tb_L_law_1_ok (i := 24) rfl rfl ?_
        refine g_iconstv C tb_L_law_1_ok (i := 25) 3 rfl k_iconstv_3 ?_
        refine g_iadd C tb_L_law_1_ok (i := 26) rfl ?_
        obtain ⟨b36, h⟩ := gd_e h
        refine g_xald C tb_L_law_1_ok (i := 27) hsL hxs rfl b36 ?_
        refine g_aload_n C tb_L_law_1_ok (i := 28) rfl rfl ?_
        refine g_iload C tb_L_law_1_ok (i := 29) rfl rfl ?_
        refine g_iconstv C tb_L_law_1_ok (i := 30) 4 rfl k_iconstv_4 ?_
        refine g_iadd C tb_L_law_1_ok (i := 31) rfl ?_
        obtain ⟨b37, h⟩ := gd_e h
        refine g_xald C tb_L_law_1_ok (i := 32) hsL hxs rfl b37 ?_
        refine g_aload_n C tb_L_law_1_ok (i := 33) rfl rfl ?_
        refine g_iload C tb_L_law_1_ok (i := 34) rfl rfl ?_
        refine g_iconstv C tb_L_law_1_ok (i := 35) 5 rfl k_iconstv_5 ?_
        refine g_iadd C tb_L_law_1_ok (i := 36) rfl ?_
        obtain ⟨b38, h⟩ := gd_e h
        refine g_xald C tb_L_law_1_ok (i := 37) hsL hxs rfl b38 ?_
        obtain ⟨k39, h⟩ := gK_e h
        obtain ⟨r40, M41, er40, h⟩ := c0_e h
        refine g_callV0 C tb_L_law_1_ok (i := 38) [.int (xs (v14 + (1 : Int32)).toNatClampNeg), .int (xs (v14 + (2 : Int32)).toNatClampNeg), .int (xs (v14 + (3 : Int32)).toNatClampNeg), .int (xs (v14 + (4 : Int32)).toNatClampNeg), .int (xs (v14 + (5 : Int32)).toNatClampNeg)] rfl mw_X12_feed mv_X12_feed ml_L_107 k39 rfl rfl rfl rfl (w_X12_feed C.G y12 (y4.2.2 + 1) (xs (v14 + (1 : Int32)).toNatClampNeg) (xs (v14 + (2 : Int32)).toNatClampNeg) (xs (v14 + (3 : Int32)).toNatClampNeg) (xs (v14 + (4 : Int32)).toNatClampNeg) (xs (v14 + (5 : Int32)).toNatClampNeg) M33) er40 (bl (by omega)) (bl (by omega)) rfl ?_
        obtain ⟨t42, f43⟩ := br_e h
        refine g_icmp_eq C tb_L_law_1_ok (i := 39) 2210 rfl rfl (fun c => ?_) (fun c => ?_)
        · have h := t42 c
          refine g_widen (k2 := (kc + 42)) (s2 := (ks + 252)) (bl (by omega)) (bl (by omega)) ?_
          exact g_less (L' := [some (.ref 1999), some (.ref (y.2.2 + 1)), some (.ref (y4.2.2 + 1)), some (.ref (y9.2.2 + 1)), some (.int v14), none, none]) ⟨rfl, ⟨rfl, ⟨rfl, ⟨rfl, ⟨rfl, trivial⟩⟩⟩⟩⟩ (J2210 M41 h)
        · have h := f43 c
          refine g_iconstv C tb_L_law_2_ok (i := 0) 0 rfl k_iconstv_0 ?_
          cases h
          exact absurd ho (by decide)
      have h := f45 hs1000
      obtain ⟨t62, f63⟩ := br_e h
      by_cases hs1001 : ((xs v14.toNatClampNeg) &&& (63 : Int32)) = (1 : Int32)
      · have h := t62 hs1001
        refine g_tableIn C tb_L_law_0_ok (i := 24) 1 281 241 rfl hs1001 (by decide) rfl ?_
        refine g_aload_n C tb_L_law_2_ok (i := 2) rfl rfl ?_
        refine g_aload_n C tb_L_law_2_ok (i := 3) rfl rfl ?_
        refine g_iload C tb_L_law_2_ok (i := 4) rfl rfl ?_
        refine g_iconstv C tb_L_law_2_ok (i := 5) 1 rfl k_iconstv_1 ?_
        refine g_iadd C tb_L_law_2_ok (i := 6) rfl ?_
        obtain ⟨b46, h⟩ := gd_e h
        refine g_xald C tb_L_law_2_ok (i := 7) hsL hxs rfl b46 ?_
        refine g_aload_n C tb_L_law_2_ok (i := 8) rfl rfl ?_
        obtain ⟨r47, M48, er47, h⟩ := c0_e h
        refine g_callSW C tb_L_law_2_ok (i := 9) [.ref (y.2.2 + 1), .int (xs (v14 + (1 : Int32)).toNatClampNeg), .ref (y9.2.2 + 1)] rfl mwh_L_coast ml_L_108 rfl rfl rfl rfl (w_L_coast C.G y12 (y.2.2 + 1) (xs (v14 + (1 : Int32)).toNatClampNeg) (y9.2.2 + 1) M15) er47 (bl (by omega)) (bl (by omega)) rfl ?_
        refine g_istore C tb_L_law_2_ok (i := 10) rfl rfl rfl ?_
        refine g_aload_n C tb_L_law_2_ok (i := 11) rfl rfl ?_
        refine g_aload_n C tb_L_law_2_ok (i := 12) rfl rfl ?_
        refine g_iload C tb_L_law_2_ok (i := 13) rfl rfl ?_
        refine g_iconstv C tb_L_law_2_ok (i := 14) 1 rfl k_iconstv_1 ?_
        refine g_iadd C tb_L_law_2_ok (i := 15) rfl ?_
        obtain ⟨b49, h⟩ := gd_e h
        refine g_xald C tb_L_law_2_ok (i := 16) hsL hxs rfl b49 ?_
        obtain ⟨k50, h⟩ := gK_e h
        obtain ⟨r51, M52, er51, h⟩ := c0_e h
        refine g_callV0 C tb_L_law_2_ok (i := 17) [.int (xs (v14 + (1 : Int32)).toNatClampNeg)] rfl mw_X12_coast mv_X12_coast ml_L_113 k50 rfl rfl rfl rfl (w_X12_coast C.G y12 (y4.2.2 + 1) (xs (v14 + (1 : Int32)).toNatClampNeg) M48) er51 (bl (by omega)) (bl (by omega)) rfl ?_
        refine g_istore C tb_L_law_2_ok (i := 18) rfl rfl rfl ?_
        refine g_aload_n C tb_L_law_2_ok (i := 19) rfl rfl ?_
        obtain ⟨r53, er53, h⟩ := cp_e h
        refine g_callV0 C tb_L_law_2_ok (i := 20) [] rfl mw_X12_thrown mv_X12_thrown ml_L_114 k50 rfl rfl rfl rfl (w_X12_thrown C.G y12 (y4.2.2 + 1) M52) (pm_s er53) (bl (by omega)) (bl (by omega)) rfl ?_
        refine g_iload C tb_L_law_2_ok (i := 21) rfl rfl ?_
        obtain ⟨t54, f55⟩ := br_e h
        refine g_icmp_eq C tb_L_law_2_ok (i := 22) 317 rfl rfl (fun c => ?_) (fun c => ?_)
        · have h := t54 c
          refine g_iload C tb_L_law_2_ok (i := 25) rfl rfl ?_
          obtain ⟨j56, ej56, h⟩ := jn_e h
          have J334 : ∀ (_u : Unit), j56 _u = some out → GG g x 7 Q (kc + 1) (ks + 6) y12 M52 334 [some (.ref 1999), some (.ref (y.2.2 + 1)), some (.ref (y4.2.2 + 1)), some (.ref (y9.2.2 + 1)), some (.int v14), none, none] [] := by
            intro _u h; subst ej56
            refine g_goto C tb_L_law_2_ok (i := 36) 2210 rfl rfl ?_
            refine g_widen (k2 := (kc + 42)) (s2 := (ks + 252)) (bl (by omega)) (bl (by omega)) ?_
            exact g_less (L' := [some (.ref 1999), some (.ref (y.2.2 + 1)), some (.ref (y4.2.2 + 1)), some (.ref (y9.2.2 + 1)), some (.int v14), none, none]) ⟨rfl, ⟨rfl, ⟨rfl, ⟨rfl, ⟨rfl, trivial⟩⟩⟩⟩⟩ (J2210 M52 h)
          obtain ⟨t57, f58⟩ := br_e h
          refine g_if_ne C tb_L_law_2_ok (i := 26) 334 rfl rfl (fun c => ?_) (fun c => ?_)
          · have h := f58 c
            exact g_less (L' := [some (.ref 1999), some (.ref (y.2.2 + 1)), some (.ref (y4.2.2 + 1)), some (.ref (y9.2.2 + 1)), some (.int v14), none, none]) ⟨rfl, ⟨rfl, ⟨rfl, ⟨rfl, ⟨rfl, trivial⟩⟩⟩⟩⟩ (J334 () h)
          · have h := t57 c
            refine g_aload_n C tb_L_law_2_ok (i := 27) rfl rfl ?_
            refine g_iconstv C tb_L_law_2_ok (i := 28) 0 rfl k_iconstv_0 ?_
            obtain ⟨b59, h⟩ := gA_e h
            refine g_lald C tb_L_law_2_ok (i := 29) rfl b59 ?_
            refine g_iload C tb_L_law_2_ok (i := 30) rfl rfl ?_
            refine g_i2l C tb_L_law_2_ok (i := 31) rfl ?_
            refine g_lcmp C tb_L_law_2_ok (i := 32) rfl ?_
            obtain ⟨t60, f61⟩ := br_e h
            refine g_if_eq C tb_L_law_2_ok (i := 33) 334 rfl rfl (fun c => ?_) (fun c => ?_)
            · have h := t60 c
              exact g_less (L' := [some (.ref 1999), some (.ref (y.2.2 + 1)), some (.ref (y4.2.2 + 1)), some (.ref (y9.2.2 + 1)), some (.int v14), none, none]) ⟨rfl, ⟨rfl, ⟨rfl, ⟨rfl, ⟨rfl, trivial⟩⟩⟩⟩⟩ (J334 () h)
            · have h := f61 c
              refine g_iconstv C tb_L_law_2_ok (i := 34) 0 rfl k_iconstv_0 ?_
              cases h
              exact absurd ho (by decide)
        · have h := f55 c
          refine g_iconstv C tb_L_law_2_ok (i := 23) 0 rfl k_iconstv_0 ?_
          cases h
          exact absurd ho (by decide)
      have h := f63 hs1001
      obtain ⟨t71, f72⟩ := br_e h
      by_cases hs1002 : ((xs v14.toNatClampNeg) &&& (63 : Int32)) = (2 : Int32)
      · have h := t71 hs1002
        refine g_tableIn C tb_L_law_0_ok (i := 24) 2 337 297 rfl hs1002 (by decide) rfl ?_
        refine g_aload_n C tb_L_law_2_ok (i := 37) rfl rfl ?_
        obtain ⟨k64, h⟩ := gK_e h
        obtain ⟨r65, er65, h⟩ := cp_e h
        refine g_callV0 C tb_L_law_2_ok (i := 38) [] rfl mw_X11_fault mv_X11_fault ml_L_118 k64 rfl rfl rfl rfl (w_X11_fault C.G y12 (y.2.2 + 1) M15) (pm_s er65) (bl (by omega)) (bl (by omega)) rfl ?_
        refine g_aload_n C tb_L_law_2_ok (i := 39) rfl rfl ?_
        obtain ⟨k66, h⟩ := gK_e h
        obtain ⟨r67, M68, er67, h⟩ := c0_e h
        refine g_callV0 C tb_L_law_3_ok (i := 0) [] rfl mw_X12_fault mv_X12_fault ml_L_121 k66 rfl rfl rfl rfl (w_X12_fault C.G y12 (y4.2.2 + 1) M15) er67 (bl (by omega)) (bl (by omega)) rfl ?_
        obtain ⟨t69, f70⟩ := br_e h
        refine g_icmp_eq C tb_L_law_3_ok (i := 1) 2210 rfl rfl (fun c => ?_) (fun c => ?_)
        · have h := t69 c
          refine g_widen (k2 := (kc + 42)) (s2 := (ks + 252)) (bl (by omega)) (bl (by omega)) ?_
          exact g_less (L' := [some (.ref 1999), some (.ref (y.2.2 + 1)), some (.ref (y4.2.2 + 1)), some (.ref (y9.2.2 + 1)), some (.int v14), none, none]) ⟨rfl, ⟨rfl, ⟨rfl, ⟨rfl, ⟨rfl, trivial⟩⟩⟩⟩⟩ (J2210 M68 h)
        · have h := f70 c
          refine g_iconstv C tb_L_law_3_ok (i := 2) 0 rfl k_iconstv_0 ?_
          cases h
          exact absurd ho (by decide)
      have h := f72 hs1002
      obtain ⟨t89, f90⟩ := br_e h
      by_cases hs1003 : ((xs v14.toNatClampNeg) &&& (63 : Int32)) = (3 : Int32)
      · have h := t89 hs1003
        refine g_tableIn C tb_L_law_0_ok (i := 24) 3 350 310 rfl hs1003 (by decide) rfl ?_
        refine g_aload_n C tb_L_law_3_ok (i := 4) rfl rfl ?_
        refine g_aload_n C tb_L_law_3_ok (i := 5) rfl rfl ?_
        refine g_iload C tb_L_law_3_ok (i := 6) rfl rfl ?_
        refine g_iconstv C tb_L_law_3_ok (i := 7) 1 rfl k_iconstv_1 ?_
        refine g_iadd C tb_L_law_3_ok (i := 8) rfl ?_
        obtain ⟨b73, h⟩ := gd_e h
        refine g_xald C tb_L_law_3_ok (i := 9) hsL hxs rfl b73 ?_
        refine g_aload_n C tb_L_law_3_ok (i := 10) rfl rfl ?_
        obtain ⟨r74, M75, er74, h⟩ := c0_e h
        refine g_callSW C tb_L_law_3_ok (i := 11) [.ref (y.2.2 + 1), .int (xs (v14 + (1 : Int32)).toNatClampNeg), .ref (y9.2.2 + 1)] rfl mwh_L_count ml_L_122 rfl rfl rfl rfl (w_L_count C.G y12 (y.2.2 + 1) (xs (v14 + (1 : Int32)).toNatClampNeg) (y9.2.2 + 1) M15) er74 (bl (by omega)) (bl (by omega)) rfl ?_
        refine g_istore C tb_L_law_3_ok (i := 12) rfl rfl rfl ?_
        refine g_aload_n C tb_L_law_3_ok (i := 13) rfl rfl ?_
        refine g_aload_n C tb_L_law_3_ok (i := 14) rfl rfl ?_
        refine g_iload C tb_L_law_3_ok (i := 15) rfl rfl ?_
        refine g_iconstv C tb_L_law_3_ok (i := 16) 1 rfl k_iconstv_1 ?_
        refine g_iadd C tb_L_law_3_ok (i := 17) rfl ?_
        obtain ⟨b76, h⟩ := gd_e h
        refine g_xald C tb_L_law_3_ok (i := 18) hsL hxs rfl b76 ?_
        obtain ⟨k77, h⟩ := gK_e h
        obtain ⟨r78, M79, er78, h⟩ := c0_e h
        refine g_callV0 C tb_L_law_3_ok (i := 19) [.int (xs (v14 + (1 : Int32)).toNatClampNeg)] rfl mw_X12_count mv_X12_count ml_L_124 k77 rfl rfl rfl rfl (w_X12_count C.G y12 (y4.2.2 + 1) (xs (v14 + (1 : Int32)).toNatClampNeg) M75) er78 (bl (by omega)) (bl (by omega)) rfl ?_
        refine g_istore C tb_L_law_3_ok (i := 20) rfl rfl rfl ?_
        refine g_aload_n C tb_L_law_3_ok (i := 21) rfl rfl ?_
        obtain ⟨r80, er80, h⟩ := cp_e h
        refine g_callV0 C tb_L_law_3_ok (i := 22) [] rfl mw_X12_thrown mv_X12_thrown ml_L_114 k77 rfl rfl rfl rfl (w_X12_thrown C.G y12 (y4.2.2 + 1) M79) (pm_s er80) (bl (by omega)) (bl (by omega)) rfl ?_
        refine g_iload C tb_L_law_3_ok (i := 23) rfl rfl ?_
        obtain ⟨t81, f82⟩ := br_e h
        refine g_icmp_eq C tb_L_law_3_ok (i := 24) 386 rfl rfl (fun c => ?_) (fun c => ?_)
        · have h := t81 c
          refine g_iload C tb_L_law_3_ok (i := 27) rfl rfl ?_
          obtain ⟨j83, ej83, h⟩ := jn_e h
          have J403 : ∀ (_u : Unit), j83 _u = some out → GG g x 7 Q (kc + 1) (ks + 6) y12 M79 403 [some (.ref 1999), some (.ref (y.2.2 + 1)), some (.ref (y4.2.2 + 1)), some (.ref (y9.2.2 + 1)), some (.int v14), none, none] [] := by
            intro _u h; subst ej83
            refine g_goto C tb_L_law_3_ok (i := 38) 2210 rfl rfl ?_
            refine g_widen (k2 := (kc + 42)) (s2 := (ks + 252)) (bl (by omega)) (bl (by omega)) ?_
            exact g_less (L' := [some (.ref 1999), some (.ref (y.2.2 + 1)), some (.ref (y4.2.2 + 1)), some (.ref (y9.2.2 + 1)), some (.int v14), none, none]) ⟨rfl, ⟨rfl, ⟨rfl, ⟨rfl, ⟨rfl, trivial⟩⟩⟩⟩⟩ (J2210 M79 h)
          obtain ⟨t84, f85⟩ := br_e h
          refine g_if_ne C tb_L_law_3_ok (i := 28) 403 rfl rfl (fun c => ?_) (fun c => ?_)
          · have h := f85 c
            exact g_less (L' := [some (.ref 1999), some (.ref (y.2.2 + 1)), some (.ref (y4.2.2 + 1)), some (.ref (y9.2.2 + 1)), some (.int v14), none, none]) ⟨rfl, ⟨rfl, ⟨rfl, ⟨rfl, ⟨rfl, trivial⟩⟩⟩⟩⟩ (J403 () h)
          · have h := t84 c
            refine g_aload_n C tb_L_law_3_ok (i := 29) rfl rfl ?_
            refine g_iconstv C tb_L_law_3_ok (i := 30) 0 rfl k_iconstv_0 ?_
            obtain ⟨b86, h⟩ := gA_e h
            refine g_lald C tb_L_law_3_ok (i := 31) rfl b86 ?_
            refine g_iload C tb_L_law_3_ok (i := 32) rfl rfl ?_
            refine g_i2l C tb_L_law_3_ok (i := 33) rfl ?_
            refine g_lcmp C tb_L_law_3_ok (i := 34) rfl ?_
            obtain ⟨t87, f88⟩ := br_e h
            refine g_if_eq C tb_L_law_3_ok (i := 35) 403 rfl rfl (fun c => ?_) (fun c => ?_)
            · have h := t87 c
              exact g_less (L' := [some (.ref 1999), some (.ref (y.2.2 + 1)), some (.ref (y4.2.2 + 1)), some (.ref (y9.2.2 + 1)), some (.int v14), none, none]) ⟨rfl, ⟨rfl, ⟨rfl, ⟨rfl, ⟨rfl, trivial⟩⟩⟩⟩⟩ (J403 () h)
            · have h := f88 c
              refine g_iconstv C tb_L_law_3_ok (i := 36) 0 rfl k_iconstv_0 ?_
              cases h
              exact absurd ho (by decide)
        · have h := f82 c
          refine g_iconstv C tb_L_law_3_ok (i := 25) 0 rfl k_iconstv_0 ?_
          cases h
          exact absurd ho (by decide)
      have h := f90 hs1003
      obtain ⟨t109, f110⟩ := br_e h
      by_cases hs1004 : ((xs v14.toNatClampNeg) &&& (63 : Int32)) = (4 : Int32)
      · have h := t109 hs1004
        refine g_tableIn C tb_L_law_0_ok (i := 24) 4 406 366 rfl hs1004 (by decide) rfl ?_
        refine g_aload_n C tb_L_law_3_ok (i := 39) rfl rfl ?_
        refine g_aload_n C tb_L_law_4_ok (i := 0) rfl rfl ?_
        refine g_iload C tb_L_law_4_ok (i := 1) rfl rfl ?_
        refine g_iconstv C tb_L_law_4_ok (i := 2) 1 rfl k_iconstv_1 ?_
        refine g_iadd C tb_L_law_4_ok (i := 3) rfl ?_
        obtain ⟨b91, h⟩ := gd_e h
        refine g_xald C tb_L_law_4_ok (i := 4) hsL hxs rfl b91 ?_
        refine g_aload_n C tb_L_law_4_ok (i := 5) rfl rfl ?_
        refine g_iload C tb_L_law_4_ok (i := 6) rfl rfl ?_
        refine g_iconstv C tb_L_law_4_ok (i := 7) 2 rfl k_iconstv_2 ?_
        refine g_iadd C tb_L_law_4_ok (i := 8) rfl ?_
        obtain ⟨b92, h⟩ := gd_e h
        refine g_xald C tb_L_law_4_ok (i := 9) hsL hxs rfl b92 ?_
        refine g_aload_n C tb_L_law_4_ok (i := 10) rfl rfl ?_
        obtain ⟨r93, M94, er93, h⟩ := c0_e h
        refine g_callSW C tb_L_law_4_ok (i := 11) [.ref (y.2.2 + 1), .int (xs (v14 + (1 : Int32)).toNatClampNeg), .int (xs (v14 + (2 : Int32)).toNatClampNeg), .ref (y9.2.2 + 1)] rfl mwh_L_cell ml_L_125 rfl rfl rfl rfl (w_L_cell C.G y12 (y.2.2 + 1) (xs (v14 + (1 : Int32)).toNatClampNeg) (xs (v14 + (2 : Int32)).toNatClampNeg) (y9.2.2 + 1) M15) er93 (bl (by omega)) (bl (by omega)) rfl ?_
        refine g_istore C tb_L_law_4_ok (i := 12) rfl rfl rfl ?_
        refine g_aload_n C tb_L_law_4_ok (i := 13) rfl rfl ?_
        refine g_aload_n C tb_L_law_4_ok (i := 14) rfl rfl ?_
        refine g_iload C tb_L_law_4_ok (i := 15) rfl rfl ?_
        refine g_iconstv C tb_L_law_4_ok (i := 16) 1 rfl k_iconstv_1 ?_
        refine g_iadd C tb_L_law_4_ok (i := 17) rfl ?_
        obtain ⟨b95, h⟩ := gd_e h
        refine g_xald C tb_L_law_4_ok (i := 18) hsL hxs rfl b95 ?_
        refine g_aload_n C tb_L_law_4_ok (i := 19) rfl rfl ?_
        refine g_iload C tb_L_law_4_ok (i := 20) rfl rfl ?_
        refine g_iconstv C tb_L_law_4_ok (i := 21) 2 rfl k_iconstv_2 ?_
        refine g_iadd C tb_L_law_4_ok (i := 22) rfl ?_
        obtain ⟨b96, h⟩ := gd_e h
        refine g_xald C tb_L_law_4_ok (i := 23) hsL hxs rfl b96 ?_
        obtain ⟨k97, h⟩ := gK_e h
        obtain ⟨r98, M99, er98, h⟩ := c0_e h
        refine g_callV0 C tb_L_law_4_ok (i := 24) [.int (xs (v14 + (1 : Int32)).toNatClampNeg), .int (xs (v14 + (2 : Int32)).toNatClampNeg)] rfl mw_X12_cell mv_X12_cell ml_L_128 k97 rfl rfl rfl rfl (w_X12_cell C.G y12 (y4.2.2 + 1) (xs (v14 + (1 : Int32)).toNatClampNeg) (xs (v14 + (2 : Int32)).toNatClampNeg) M94) er98 (bl (by omega)) (bl (by omega)) rfl ?_
        refine g_istore C tb_L_law_4_ok (i := 25) rfl rfl rfl ?_
        refine g_aload_n C tb_L_law_4_ok (i := 26) rfl rfl ?_
        obtain ⟨r100, er100, h⟩ := cp_e h
        refine g_callV0 C tb_L_law_4_ok (i := 27) [] rfl mw_X12_thrown mv_X12_thrown ml_L_114 k97 rfl rfl rfl rfl (w_X12_thrown C.G y12 (y4.2.2 + 1) M99) (pm_s er100) (bl (by omega)) (bl (by omega)) rfl ?_
        refine g_iload C tb_L_law_4_ok (i := 28) rfl rfl ?_
        obtain ⟨t101, f102⟩ := br_e h
        refine g_icmp_eq C tb_L_law_4_ok (i := 29) 454 rfl rfl (fun c => ?_) (fun c => ?_)
        · have h := t101 c
          refine g_iload C tb_L_law_4_ok (i := 32) rfl rfl ?_
          obtain ⟨j103, ej103, h⟩ := jn_e h
          have J471 : ∀ (_u : Unit), j103 _u = some out → GG g x 7 Q (kc + 2) (ks + 12) y12 M99 471 [some (.ref 1999), some (.ref (y.2.2 + 1)), some (.ref (y4.2.2 + 1)), some (.ref (y9.2.2 + 1)), some (.int v14), none, none] [] := by
            intro _u h; subst ej103
            refine g_goto C tb_L_law_5_ok (i := 3) 2210 rfl rfl ?_
            refine g_widen (k2 := (kc + 42)) (s2 := (ks + 252)) (bl (by omega)) (bl (by omega)) ?_
            exact g_less (L' := [some (.ref 1999), some (.ref (y.2.2 + 1)), some (.ref (y4.2.2 + 1)), some (.ref (y9.2.2 + 1)), some (.int v14), none, none]) ⟨rfl, ⟨rfl, ⟨rfl, ⟨rfl, ⟨rfl, trivial⟩⟩⟩⟩⟩ (J2210 M99 h)
          obtain ⟨t104, f105⟩ := br_e h
          refine g_if_ne C tb_L_law_4_ok (i := 33) 471 rfl rfl (fun c => ?_) (fun c => ?_)
          · have h := f105 c
            exact g_less (L' := [some (.ref 1999), some (.ref (y.2.2 + 1)), some (.ref (y4.2.2 + 1)), some (.ref (y9.2.2 + 1)), some (.int v14), none, none]) ⟨rfl, ⟨rfl, ⟨rfl, ⟨rfl, ⟨rfl, trivial⟩⟩⟩⟩⟩ (J471 () h)
          · have h := t104 c
            refine g_aload_n C tb_L_law_4_ok (i := 34) rfl rfl ?_
            refine g_iconstv C tb_L_law_4_ok (i := 35) 0 rfl k_iconstv_0 ?_
            obtain ⟨b106, h⟩ := gA_e h
            refine g_lald C tb_L_law_4_ok (i := 36) rfl b106 ?_
            refine g_iload C tb_L_law_4_ok (i := 37) rfl rfl ?_
            refine g_i2l C tb_L_law_4_ok (i := 38) rfl ?_
            refine g_lcmp C tb_L_law_4_ok (i := 39) rfl ?_
            obtain ⟨t107, f108⟩ := br_e h
            refine g_if_eq C tb_L_law_5_ok (i := 0) 471 rfl rfl (fun c => ?_) (fun c => ?_)
            · have h := t107 c
              exact g_less (L' := [some (.ref 1999), some (.ref (y.2.2 + 1)), some (.ref (y4.2.2 + 1)), some (.ref (y9.2.2 + 1)), some (.int v14), none, none]) ⟨rfl, ⟨rfl, ⟨rfl, ⟨rfl, ⟨rfl, trivial⟩⟩⟩⟩⟩ (J471 () h)
            · have h := f108 c
              refine g_iconstv C tb_L_law_5_ok (i := 1) 0 rfl k_iconstv_0 ?_
              cases h
              exact absurd ho (by decide)
        · have h := f102 c
          refine g_iconstv C tb_L_law_4_ok (i := 30) 0 rfl k_iconstv_0 ?_
          cases h
          exact absurd ho (by decide)
      have h := f110 hs1004
      obtain ⟨t129, f130⟩ := br_e h
      by_cases hs1005 : ((xs v14.toNatClampNeg) &&& (63 : Int32)) = (5 : Int32)
      · have h := t129 hs1005
        refine g_tableIn C tb_L_law_0_ok (i := 24) 5 474 434 rfl hs1005 (by decide) rfl ?_
        refine g_aload_n C tb_L_law_5_ok (i := 4) rfl rfl ?_
        refine g_aload_n C tb_L_law_5_ok (i := 5) rfl rfl ?_
        refine g_iload C tb_L_law_5_ok (i := 6) rfl rfl ?_
        refine g_iconstv C tb_L_law_5_ok (i := 7) 1 rfl k_iconstv_1 ?_
        refine g_iadd C tb_L_law_5_ok (i := 8) rfl ?_
        obtain ⟨b111, h⟩ := gd_e h
        refine g_xald C tb_L_law_5_ok (i := 9) hsL hxs rfl b111 ?_
        refine g_aload_n C tb_L_law_5_ok (i := 10) rfl rfl ?_
        refine g_iload C tb_L_law_5_ok (i := 11) rfl rfl ?_
        refine g_iconstv C tb_L_law_5_ok (i := 12) 2 rfl k_iconstv_2 ?_
        refine g_iadd C tb_L_law_5_ok (i := 13) rfl ?_
        obtain ⟨b112, h⟩ := gd_e h
        refine g_xald C tb_L_law_5_ok (i := 14) hsL hxs rfl b112 ?_
        refine g_aload_n C tb_L_law_5_ok (i := 15) rfl rfl ?_
        obtain ⟨r113, M114, er113, h⟩ := c0_e h
        refine g_callSW C tb_L_law_5_ok (i := 16) [.ref (y.2.2 + 1), .int (xs (v14 + (1 : Int32)).toNatClampNeg), .int (xs (v14 + (2 : Int32)).toNatClampNeg), .ref (y9.2.2 + 1)] rfl mwh_L_girl ml_L_129 rfl rfl rfl rfl (w_L_girl C.G y12 (y.2.2 + 1) (xs (v14 + (1 : Int32)).toNatClampNeg) (xs (v14 + (2 : Int32)).toNatClampNeg) (y9.2.2 + 1) M15) er113 (bl (by omega)) (bl (by omega)) rfl ?_
        refine g_istore C tb_L_law_5_ok (i := 17) rfl rfl rfl ?_
        refine g_aload_n C tb_L_law_5_ok (i := 18) rfl rfl ?_
        refine g_aload_n C tb_L_law_5_ok (i := 19) rfl rfl ?_
        refine g_iload C tb_L_law_5_ok (i := 20) rfl rfl ?_
        refine g_iconstv C tb_L_law_5_ok (i := 21) 1 rfl k_iconstv_1 ?_
        refine g_iadd C tb_L_law_5_ok (i := 22) rfl ?_
        obtain ⟨b115, h⟩ := gd_e h
        refine g_xald C tb_L_law_5_ok (i := 23) hsL hxs rfl b115 ?_
        refine g_aload_n C tb_L_law_5_ok (i := 24) rfl rfl ?_
        refine g_iload C tb_L_law_5_ok (i := 25) rfl rfl ?_
        refine g_iconstv C tb_L_law_5_ok (i := 26) 2 rfl k_iconstv_2 ?_
        refine g_iadd C tb_L_law_5_ok (i := 27) rfl ?_
        obtain ⟨b116, h⟩ := gd_e h
        refine g_xald C tb_L_law_5_ok (i := 28) hsL hxs rfl b116 ?_
        obtain ⟨k117, h⟩ := gK_e h
        obtain ⟨r118, M119, er118, h⟩ := c0_e h
        refine g_callV0 C tb_L_law_5_ok (i := 29) [.int (xs (v14 + (1 : Int32)).toNatClampNeg), .int (xs (v14 + (2 : Int32)).toNatClampNeg)] rfl mw_X12_girl mv_X12_girl ml_L_131 k117 rfl rfl rfl rfl (w_X12_girl C.G y12 (y4.2.2 + 1) (xs (v14 + (1 : Int32)).toNatClampNeg) (xs (v14 + (2 : Int32)).toNatClampNeg) M114) er118 (bl (by omega)) (bl (by omega)) rfl ?_
        refine g_istore C tb_L_law_5_ok (i := 30) rfl rfl rfl ?_
        refine g_aload_n C tb_L_law_5_ok (i := 31) rfl rfl ?_
        obtain ⟨r120, er120, h⟩ := cp_e h
        refine g_callV0 C tb_L_law_5_ok (i := 32) [] rfl mw_X12_thrown mv_X12_thrown ml_L_114 k117 rfl rfl rfl rfl (w_X12_thrown C.G y12 (y4.2.2 + 1) M119) (pm_s er120) (bl (by omega)) (bl (by omega)) rfl ?_
        refine g_iload C tb_L_law_5_ok (i := 33) rfl rfl ?_
        obtain ⟨t121, f122⟩ := br_e h
        refine g_icmp_eq C tb_L_law_5_ok (i := 34) 522 rfl rfl (fun c => ?_) (fun c => ?_)
        · have h := t121 c
          refine g_iload C tb_L_law_5_ok (i := 37) rfl rfl ?_
          obtain ⟨j123, ej123, h⟩ := jn_e h
          have J539 : ∀ (_u : Unit), j123 _u = some out → GG g x 7 Q (kc + 2) (ks + 12) y12 M119 539 [some (.ref 1999), some (.ref (y.2.2 + 1)), some (.ref (y4.2.2 + 1)), some (.ref (y9.2.2 + 1)), some (.int v14), none, none] [] := by
            intro _u h; subst ej123
            refine g_goto C tb_L_law_6_ok (i := 8) 2210 rfl rfl ?_
            refine g_widen (k2 := (kc + 42)) (s2 := (ks + 252)) (bl (by omega)) (bl (by omega)) ?_
            exact g_less (L' := [some (.ref 1999), some (.ref (y.2.2 + 1)), some (.ref (y4.2.2 + 1)), some (.ref (y9.2.2 + 1)), some (.int v14), none, none]) ⟨rfl, ⟨rfl, ⟨rfl, ⟨rfl, ⟨rfl, trivial⟩⟩⟩⟩⟩ (J2210 M119 h)
          obtain ⟨t124, f125⟩ := br_e h
          refine g_if_ne C tb_L_law_5_ok (i := 38) 539 rfl rfl (fun c => ?_) (fun c => ?_)
          · have h := f125 c
            exact g_less (L' := [some (.ref 1999), some (.ref (y.2.2 + 1)), some (.ref (y4.2.2 + 1)), some (.ref (y9.2.2 + 1)), some (.int v14), none, none]) ⟨rfl, ⟨rfl, ⟨rfl, ⟨rfl, ⟨rfl, trivial⟩⟩⟩⟩⟩ (J539 () h)
          · have h := t124 c
            refine g_aload_n C tb_L_law_5_ok (i := 39) rfl rfl ?_
            refine g_iconstv C tb_L_law_6_ok (i := 0) 0 rfl k_iconstv_0 ?_
            obtain ⟨b126, h⟩ := gA_e h
            refine g_lald C tb_L_law_6_ok (i := 1) rfl b126 ?_
            refine g_iload C tb_L_law_6_ok (i := 2) rfl rfl ?_
            refine g_i2l C tb_L_law_6_ok (i := 3) rfl ?_
            refine g_lcmp C tb_L_law_6_ok (i := 4) rfl ?_
            obtain ⟨t127, f128⟩ := br_e h
            refine g_if_eq C tb_L_law_6_ok (i := 5) 539 rfl rfl (fun c => ?_) (fun c => ?_)
            · have h := t127 c
              exact g_less (L' := [some (.ref 1999), some (.ref (y.2.2 + 1)), some (.ref (y4.2.2 + 1)), some (.ref (y9.2.2 + 1)), some (.int v14), none, none]) ⟨rfl, ⟨rfl, ⟨rfl, ⟨rfl, ⟨rfl, trivial⟩⟩⟩⟩⟩ (J539 () h)
            · have h := f128 c
              refine g_iconstv C tb_L_law_6_ok (i := 6) 0 rfl k_iconstv_0 ?_
              cases h
              exact absurd ho (by decide)
        · have h := f122 c
          refine g_iconstv C tb_L_law_5_ok (i := 35) 0 rfl k_iconstv_0 ?_
          cases h
          exact absurd ho (by decide)
      have h := f130 hs1005
      obtain ⟨t141, f142⟩ := br_e h
      by_cases hs1006 : ((xs v14.toNatClampNeg) &&& (63 : Int32)) = (6 : Int32)
      · have h := t141 hs1006
        refine g_tableIn C tb_L_law_0_ok (i := 24) 6 542 502 rfl hs1006 (by decide) rfl ?_
        refine g_aload_n C tb_L_law_6_ok (i := 9) rfl rfl ?_
        refine g_aload_n C tb_L_law_6_ok (i := 10) rfl rfl ?_
        refine g_iload C tb_L_law_6_ok (i := 11) rfl rfl ?_
        refine g_iconstv C tb_L_law_6_ok (i := 12) 1 rfl k_iconstv_1 ?_
        refine g_iadd C tb_L_law_6_ok (i := 13) rfl ?_
        obtain ⟨b131, h⟩ := gd_e h
        refine g_xald C tb_L_law_6_ok (i := 14) hsL hxs rfl b131 ?_
        obtain ⟨k132, h⟩ := gK_e h
        obtain ⟨r133, M134, er133, h⟩ := c0_e h
        refine g_callV0 C tb_L_law_6_ok (i := 15) [.int (xs (v14 + (1 : Int32)).toNatClampNeg)] rfl mw_X11_days mv_X11_days ml_L_132 k132 rfl rfl rfl rfl (w_X11_days C.G y12 (y.2.2 + 1) (xs (v14 + (1 : Int32)).toNatClampNeg) M15) er133 (bl (by omega)) (bl (by omega)) rfl ?_
        refine g_aload_n C tb_L_law_6_ok (i := 16) rfl rfl ?_
        refine g_aload_n C tb_L_law_6_ok (i := 17) rfl rfl ?_
        refine g_iload C tb_L_law_6_ok (i := 18) rfl rfl ?_
        refine g_iconstv C tb_L_law_6_ok (i := 19) 1 rfl k_iconstv_1 ?_
        refine g_iadd C tb_L_law_6_ok (i := 20) rfl ?_
        obtain ⟨b135, h⟩ := gd_e h
        refine g_xald C tb_L_law_6_ok (i := 21) hsL hxs rfl b135 ?_
        obtain ⟨k136, h⟩ := gK_e h
        obtain ⟨r137, M138, er137, h⟩ := c0_e h
        refine g_callV0 C tb_L_law_6_ok (i := 22) [.int (xs (v14 + (1 : Int32)).toNatClampNeg)] rfl mw_X12_days mv_X12_days ml_L_135 k136 rfl rfl rfl rfl (w_X12_days C.G y12 (y4.2.2 + 1) (xs (v14 + (1 : Int32)).toNatClampNeg) M134) er137 (bl (by omega)) (bl (by omega)) rfl ?_
        obtain ⟨t139, f140⟩ := br_e h
        refine g_icmp_eq C tb_L_law_6_ok (i := 23) 2210 rfl rfl (fun c => ?_) (fun c => ?_)
        · have h := t139 c
          refine g_widen (k2 := (kc + 42)) (s2 := (ks + 252)) (bl (by omega)) (bl (by omega)) ?_
          exact g_less (L' := [some (.ref 1999), some (.ref (y.2.2 + 1)), some (.ref (y4.2.2 + 1)), some (.ref (y9.2.2 + 1)), some (.int v14), none, none]) ⟨rfl, ⟨rfl, ⟨rfl, ⟨rfl, ⟨rfl, trivial⟩⟩⟩⟩⟩ (J2210 M138 h)
        · have h := f140 c
          refine g_iconstv C tb_L_law_6_ok (i := 24) 0 rfl k_iconstv_0 ?_
          cases h
          exact absurd ho (by decide)
      have h := f142 hs1006
      obtain ⟨t173, f174⟩ := br_e h
      by_cases hs1007 : ((xs v14.toNatClampNeg) &&& (63 : Int32)) = (7 : Int32)
      · have h := t173 hs1007
        refine g_tableIn C tb_L_law_0_ok (i := 24) 7 567 527 rfl hs1007 (by decide) rfl ?_
        refine g_aload_n C tb_L_law_6_ok (i := 26) rfl rfl ?_
        refine g_aload_n C tb_L_law_6_ok (i := 27) rfl rfl ?_
        refine g_iload C tb_L_law_6_ok (i := 28) rfl rfl ?_
        refine g_iconstv C tb_L_law_6_ok (i := 29) 1 rfl k_iconstv_1 ?_
        refine g_iadd C tb_L_law_6_ok (i := 30) rfl ?_
        obtain ⟨b143, h⟩ := gd_e h
        refine g_xald C tb_L_law_6_ok (i := 31) hsL hxs rfl b143 ?_
        refine g_aload_n C tb_L_law_6_ok (i := 32) rfl rfl ?_
        refine g_iload C tb_L_law_6_ok (i := 33) rfl rfl ?_
        refine g_iconstv C tb_L_law_6_ok (i := 34) 2 rfl k_iconstv_2 ?_
        refine g_iadd C tb_L_law_6_ok (i := 35) rfl ?_
        obtain ⟨b144, h⟩ := gd_e h
        refine g_xald C tb_L_law_6_ok (i := 36) hsL hxs rfl b144 ?_
        obtain ⟨j146, ej146, h⟩ := jn_e h
        have J588 : ∀ (v145 : Int32), j146 v145 = some out → GG g x 7 Q (kc + 0) (ks + 0) y12 M15 588 [some (.ref 1999), some (.ref (y.2.2 + 1)), some (.ref (y4.2.2 + 1)), some (.ref (y9.2.2 + 1)), some (.int v14), none, none] [.int v145, .int (xs (v14 + (1 : Int32)).toNatClampNeg), .ref (y.2.2 + 1)] := by
          intro v145 h; subst ej146
          refine g_aload_n C tb_L_law_7_ok (i := 1) rfl rfl ?_
          obtain ⟨r147, M148, er147, h⟩ := c0_e h
          refine g_callSW C tb_L_law_7_ok (i := 2) [.ref (y.2.2 + 1), .int (xs (v14 + (1 : Int32)).toNatClampNeg), .int v145, .ref (y9.2.2 + 1)] rfl mwh_L_rest ml_L_136 rfl rfl rfl rfl (w_L_rest C.G y12 (y.2.2 + 1) (xs (v14 + (1 : Int32)).toNatClampNeg) v145 (y9.2.2 + 1) M15) er147 (bl (by omega)) (bl (by omega)) rfl ?_
          refine g_istore C tb_L_law_7_ok (i := 3) rfl rfl rfl ?_
          refine g_aload_n C tb_L_law_7_ok (i := 4) rfl rfl ?_
          refine g_aload_n C tb_L_law_7_ok (i := 5) rfl rfl ?_
          refine g_iload C tb_L_law_7_ok (i := 6) rfl rfl ?_
          refine g_iconstv C tb_L_law_7_ok (i := 7) 1 rfl k_iconstv_1 ?_
          refine g_iadd C tb_L_law_7_ok (i := 8) rfl ?_
          obtain ⟨b149, h⟩ := gd_e h
          refine g_xald C tb_L_law_7_ok (i := 9) hsL hxs rfl b149 ?_
          refine g_aload_n C tb_L_law_7_ok (i := 10) rfl rfl ?_
          refine g_iload C tb_L_law_7_ok (i := 11) rfl rfl ?_
          refine g_iconstv C tb_L_law_7_ok (i := 12) 2 rfl k_iconstv_2 ?_
          refine g_iadd C tb_L_law_7_ok (i := 13) rfl ?_
          obtain ⟨b150, h⟩ := gd_e h
          refine g_xald C tb_L_law_7_ok (i := 14) hsL hxs rfl b150 ?_
          obtain ⟨j152, ej152, h⟩ := jn_e h
          have J615 : ∀ (v151 : Int32), j152 v151 = some out → GG g x 7 Q (kc + 1) (ks + 6) y12 M148 615 [some (.ref 1999), some (.ref (y.2.2 + 1)), some (.ref (y4.2.2 + 1)), some (.ref (y9.2.2 + 1)), some (.int v14), some (.int r147), none] [.int v151, .int (xs (v14 + (1 : Int32)).toNatClampNeg), .ref (y4.2.2 + 1)] := by
            intro v151 h; subst ej152
            obtain ⟨k153, h⟩ := gK_e h
            obtain ⟨r154, M155, er154, h⟩ := c0_e h
            refine g_callV0 C tb_L_law_7_ok (i := 19) [.int (xs (v14 + (1 : Int32)).toNatClampNeg), .int v151] rfl mw_X12_rest mv_X12_rest ml_L_139 k153 rfl rfl rfl rfl (w_X12_rest C.G y12 (y4.2.2 + 1) (xs (v14 + (1 : Int32)).toNatClampNeg) v151 M148) er154 (bl (by omega)) (bl (by omega)) rfl ?_
            refine g_istore C tb_L_law_7_ok (i := 20) rfl rfl rfl ?_
            refine g_aload_n C tb_L_law_7_ok (i := 21) rfl rfl ?_
            obtain ⟨r156, er156, h⟩ := cp_e h
            refine g_callV0 C tb_L_law_7_ok (i := 22) [] rfl mw_X12_thrown mv_X12_thrown ml_L_114 k153 rfl rfl rfl rfl (w_X12_thrown C.G y12 (y4.2.2 + 1) M155) (pm_s er156) (bl (by omega)) (bl (by omega)) rfl ?_
            refine g_iload C tb_L_law_7_ok (i := 23) rfl rfl ?_
            obtain ⟨t157, f158⟩ := br_e h
            refine g_icmp_eq C tb_L_law_7_ok (i := 24) 631 rfl rfl (fun c => ?_) (fun c => ?_)
            · have h := t157 c
              refine g_iload C tb_L_law_7_ok (i := 27) rfl rfl ?_
              obtain ⟨j159, ej159, h⟩ := jn_e h
              have J655 : ∀ (_u : Unit), j159 _u = some out → GG g x 7 Q (kc + 1) (ks + 6) y12 M155 655 [some (.ref 1999), some (.ref (y.2.2 + 1)), some (.ref (y4.2.2 + 1)), some (.ref (y9.2.2 + 1)), some (.int v14), none, none] [] := by
                intro _u h; subst ej159
                refine g_goto C tb_L_law_8_ok (i := 1) 2210 rfl rfl ?_
                refine g_widen (k2 := (kc + 42)) (s2 := (ks + 252)) (bl (by omega)) (bl (by omega)) ?_
                exact g_less (L' := [some (.ref 1999), some (.ref (y.2.2 + 1)), some (.ref (y4.2.2 + 1)), some (.ref (y9.2.2 + 1)), some (.int v14), none, none]) ⟨rfl, ⟨rfl, ⟨rfl, ⟨rfl, ⟨rfl, trivial⟩⟩⟩⟩⟩ (J2210 M155 h)
              obtain ⟨t160, f161⟩ := br_e h
              refine g_if_ne C tb_L_law_7_ok (i := 28) 655 rfl rfl (fun c => ?_) (fun c => ?_)
              · have h := f161 c
                exact g_less (L' := [some (.ref 1999), some (.ref (y.2.2 + 1)), some (.ref (y4.2.2 + 1)), some (.ref (y9.2.2 + 1)), some (.int v14), none, none]) ⟨rfl, ⟨rfl, ⟨rfl, ⟨rfl, ⟨rfl, trivial⟩⟩⟩⟩⟩ (J655 () h)
              · have h := t160 c
                refine g_aload_n C tb_L_law_7_ok (i := 29) rfl rfl ?_
                refine g_iconstv C tb_L_law_7_ok (i := 30) 0 rfl k_iconstv_0 ?_
                obtain ⟨b162, h⟩ := gA_e h
                refine g_lald C tb_L_law_7_ok (i := 31) rfl b162 ?_
                refine g_iload C tb_L_law_7_ok (i := 32) rfl rfl ?_
                obtain ⟨j164, ej164, h⟩ := jn_e h
                have J649 : ∀ (v163 : Int64), j164 v163 = some out → GG g x 7 Q (kc + 1) (ks + 6) y12 M155 649 [some (.ref 1999), some (.ref (y.2.2 + 1)), some (.ref (y4.2.2 + 1)), some (.ref (y9.2.2 + 1)), some (.int v14), none, none] [.long v163, .long (M155.2.1 (y9.2.2 + 1) (0 : Int32).toNatClampNeg)] := by
                  intro v163 h; subst ej164
                  refine g_lcmp C tb_L_law_7_ok (i := 37) rfl ?_
                  obtain ⟨t165, f166⟩ := br_e h
                  refine g_if_eq C tb_L_law_7_ok (i := 38) 655 rfl rfl (fun c => ?_) (fun c => ?_)
                  · have h := t165 c
                    exact g_less (L' := [some (.ref 1999), some (.ref (y.2.2 + 1)), some (.ref (y4.2.2 + 1)), some (.ref (y9.2.2 + 1)), some (.int v14), none, none]) ⟨rfl, ⟨rfl, ⟨rfl, ⟨rfl, ⟨rfl, trivial⟩⟩⟩⟩⟩ (J655 () h)
                  · have h := f166 c
                    refine g_iconstv C tb_L_law_7_ok (i := 39) 0 rfl k_iconstv_0 ?_
                    cases h
                    exact absurd ho (by decide)
                obtain ⟨t167, f168⟩ := br_e h
                refine g_if_eq C tb_L_law_7_ok (i := 33) 648 rfl rfl (fun c => ?_) (fun c => ?_)
                · have h := t167 c
                  refine g_lconst C tb_L_law_7_ok (i := 36) 0 rfl rfl ?_
                  exact g_less (L' := [some (.ref 1999), some (.ref (y.2.2 + 1)), some (.ref (y4.2.2 + 1)), some (.ref (y9.2.2 + 1)), some (.int v14), none, none]) ⟨rfl, ⟨rfl, ⟨rfl, ⟨rfl, ⟨rfl, trivial⟩⟩⟩⟩⟩ (J649 (0 : Int64) h)
                · have h := f168 c
                  refine g_lconst C tb_L_law_7_ok (i := 34) 1 rfl rfl ?_
                  refine g_goto C tb_L_law_7_ok (i := 35) 649 rfl rfl ?_
                  exact g_less (L' := [some (.ref 1999), some (.ref (y.2.2 + 1)), some (.ref (y4.2.2 + 1)), some (.ref (y9.2.2 + 1)), some (.int v14), none, none]) ⟨rfl, ⟨rfl, ⟨rfl, ⟨rfl, ⟨rfl, trivial⟩⟩⟩⟩⟩ (J649 (1 : Int64) h)
            · have h := f158 c
              refine g_iconstv C tb_L_law_7_ok (i := 25) 0 rfl k_iconstv_0 ?_
              cases h
              exact absurd ho (by decide)
          obtain ⟨t169, f170⟩ := br_e h
          refine g_if_eq C tb_L_law_7_ok (i := 15) 614 rfl rfl (fun c => ?_) (fun c => ?_)
          · have h := t169 c
            refine g_iconstv C tb_L_law_7_ok (i := 18) 0 rfl k_iconstv_0 ?_
            exact g_less (L' := [some (.ref 1999), some (.ref (y.2.2 + 1)), some (.ref (y4.2.2 + 1)), some (.ref (y9.2.2 + 1)), some (.int v14), some (.int r147), none]) ⟨rfl, ⟨rfl, ⟨rfl, ⟨rfl, ⟨rfl, ⟨rfl, trivial⟩⟩⟩⟩⟩⟩ (J615 (0 : Int32) h)
          · have h := f170 c
            refine g_iconstv C tb_L_law_7_ok (i := 16) 1 rfl k_iconstv_1 ?_
            refine g_goto C tb_L_law_7_ok (i := 17) 615 rfl rfl ?_
            exact g_less (L' := [some (.ref 1999), some (.ref (y.2.2 + 1)), some (.ref (y4.2.2 + 1)), some (.ref (y9.2.2 + 1)), some (.int v14), some (.int r147), none]) ⟨rfl, ⟨rfl, ⟨rfl, ⟨rfl, ⟨rfl, ⟨rfl, trivial⟩⟩⟩⟩⟩⟩ (J615 (1 : Int32) h)
        obtain ⟨t171, f172⟩ := br_e h
        refine g_if_eq C tb_L_law_6_ok (i := 37) 587 rfl rfl (fun c => ?_) (fun c => ?_)
        · have h := t171 c
          refine g_iconstv C tb_L_law_7_ok (i := 0) 0 rfl k_iconstv_0 ?_
          exact g_less (L' := [some (.ref 1999), some (.ref (y.2.2 + 1)), some (.ref (y4.2.2 + 1)), some (.ref (y9.2.2 + 1)), some (.int v14), none, none]) ⟨rfl, ⟨rfl, ⟨rfl, ⟨rfl, ⟨rfl, trivial⟩⟩⟩⟩⟩ (J588 (0 : Int32) h)
        · have h := f172 c
          refine g_iconstv C tb_L_law_6_ok (i := 38) 1 rfl k_iconstv_1 ?_
          refine g_goto C tb_L_law_6_ok (i := 39) 588 rfl rfl ?_
          exact g_less (L' := [some (.ref 1999), some (.ref (y.2.2 + 1)), some (.ref (y4.2.2 + 1)), some (.ref (y9.2.2 + 1)), some (.int v14), none, none]) ⟨rfl, ⟨rfl, ⟨rfl, ⟨rfl, ⟨rfl, trivial⟩⟩⟩⟩⟩ (J588 (1 : Int32) h)
      have h := f174 hs1007
      obtain ⟨t193, f194⟩ := br_e h
      by_cases hs1008 : ((xs v14.toNatClampNeg) &&& (63 : Int32)) = (8 : Int32)
      · have h := t193 hs1008
        refine g_tableIn C tb_L_law_0_ok (i := 24) 8 658 618 rfl hs1008 (by decide) rfl ?_
        refine g_aload_n C tb_L_law_8_ok (i := 2) rfl rfl ?_
        refine g_aload_n C tb_L_law_8_ok (i := 3) rfl rfl ?_
        refine g_iload C tb_L_law_8_ok (i := 4) rfl rfl ?_
        refine g_iconstv C tb_L_law_8_ok (i := 5) 1 rfl k_iconstv_1 ?_
        refine g_iadd C tb_L_law_8_ok (i := 6) rfl ?_
        obtain ⟨b175, h⟩ := gd_e h
        refine g_xald C tb_L_law_8_ok (i := 7) hsL hxs rfl b175 ?_
        refine g_aload_n C tb_L_law_8_ok (i := 8) rfl rfl ?_
        refine g_iload C tb_L_law_8_ok (i := 9) rfl rfl ?_
        refine g_iconstv C tb_L_law_8_ok (i := 10) 2 rfl k_iconstv_2 ?_
        refine g_iadd C tb_L_law_8_ok (i := 11) rfl ?_
        obtain ⟨b176, h⟩ := gd_e h
        refine g_xald C tb_L_law_8_ok (i := 12) hsL hxs rfl b176 ?_
        refine g_aload_n C tb_L_law_8_ok (i := 13) rfl rfl ?_
        obtain ⟨r177, M178, er177, h⟩ := c0_e h
        refine g_callSW C tb_L_law_8_ok (i := 14) [.ref (y.2.2 + 1), .int (xs (v14 + (1 : Int32)).toNatClampNeg), .int (xs (v14 + (2 : Int32)).toNatClampNeg), .ref (y9.2.2 + 1)] rfl mwh_L_go ml_L_140 rfl rfl rfl rfl (w_L_go C.G y12 (y.2.2 + 1) (xs (v14 + (1 : Int32)).toNatClampNeg) (xs (v14 + (2 : Int32)).toNatClampNeg) (y9.2.2 + 1) M15) er177 (bl (by omega)) (bl (by omega)) rfl ?_
        refine g_istore C tb_L_law_8_ok (i := 15) rfl rfl rfl ?_
        refine g_aload_n C tb_L_law_8_ok (i := 16) rfl rfl ?_
        refine g_aload_n C tb_L_law_8_ok (i := 17) rfl rfl ?_
        refine g_iload C tb_L_law_8_ok (i := 18) rfl rfl ?_
        refine g_iconstv C tb_L_law_8_ok (i := 19) 1 rfl k_iconstv_1 ?_
        refine g_iadd C tb_L_law_8_ok (i := 20) rfl ?_
        obtain ⟨b179, h⟩ := gd_e h
        refine g_xald C tb_L_law_8_ok (i := 21) hsL hxs rfl b179 ?_
        refine g_aload_n C tb_L_law_8_ok (i := 22) rfl rfl ?_
        refine g_iload C tb_L_law_8_ok (i := 23) rfl rfl ?_
        refine g_iconstv C tb_L_law_8_ok (i := 24) 2 rfl k_iconstv_2 ?_
        refine g_iadd C tb_L_law_8_ok (i := 25) rfl ?_
        obtain ⟨b180, h⟩ := gd_e h
        refine g_xald C tb_L_law_8_ok (i := 26) hsL hxs rfl b180 ?_
        obtain ⟨k181, h⟩ := gK_e h
        obtain ⟨r182, M183, er182, h⟩ := c0_e h
        refine g_callV0 C tb_L_law_8_ok (i := 27) [.int (xs (v14 + (1 : Int32)).toNatClampNeg), .int (xs (v14 + (2 : Int32)).toNatClampNeg)] rfl mw_X12_go mv_X12_go ml_L_142 k181 rfl rfl rfl rfl (w_X12_go C.G y12 (y4.2.2 + 1) (xs (v14 + (1 : Int32)).toNatClampNeg) (xs (v14 + (2 : Int32)).toNatClampNeg) M178) er182 (bl (by omega)) (bl (by omega)) rfl ?_
        refine g_istore C tb_L_law_8_ok (i := 28) rfl rfl rfl ?_
        refine g_aload_n C tb_L_law_8_ok (i := 29) rfl rfl ?_
        obtain ⟨r184, er184, h⟩ := cp_e h
        refine g_callV0 C tb_L_law_8_ok (i := 30) [] rfl mw_X12_thrown mv_X12_thrown ml_L_114 k181 rfl rfl rfl rfl (w_X12_thrown C.G y12 (y4.2.2 + 1) M183) (pm_s er184) (bl (by omega)) (bl (by omega)) rfl ?_
        refine g_iload C tb_L_law_8_ok (i := 31) rfl rfl ?_
        obtain ⟨t185, f186⟩ := br_e h
        refine g_icmp_eq C tb_L_law_8_ok (i := 32) 706 rfl rfl (fun c => ?_) (fun c => ?_)
        · have h := t185 c
          refine g_iload C tb_L_law_8_ok (i := 35) rfl rfl ?_
          obtain ⟨j187, ej187, h⟩ := jn_e h
          have J723 : ∀ (_u : Unit), j187 _u = some out → GG g x 7 Q (kc + 2) (ks + 12) y12 M183 723 [some (.ref 1999), some (.ref (y.2.2 + 1)), some (.ref (y4.2.2 + 1)), some (.ref (y9.2.2 + 1)), some (.int v14), none, none] [] := by
            intro _u h; subst ej187
            refine g_goto C tb_L_law_9_ok (i := 6) 2210 rfl rfl ?_
            refine g_widen (k2 := (kc + 42)) (s2 := (ks + 252)) (bl (by omega)) (bl (by omega)) ?_
            exact g_less (L' := [some (.ref 1999), some (.ref (y.2.2 + 1)), some (.ref (y4.2.2 + 1)), some (.ref (y9.2.2 + 1)), some (.int v14), none, none]) ⟨rfl, ⟨rfl, ⟨rfl, ⟨rfl, ⟨rfl, trivial⟩⟩⟩⟩⟩ (J2210 M183 h)
          obtain ⟨t188, f189⟩ := br_e h
          refine g_if_ne C tb_L_law_8_ok (i := 36) 723 rfl rfl (fun c => ?_) (fun c => ?_)
          · have h := f189 c
            exact g_less (L' := [some (.ref 1999), some (.ref (y.2.2 + 1)), some (.ref (y4.2.2 + 1)), some (.ref (y9.2.2 + 1)), some (.int v14), none, none]) ⟨rfl, ⟨rfl, ⟨rfl, ⟨rfl, ⟨rfl, trivial⟩⟩⟩⟩⟩ (J723 () h)
          · have h := t188 c
            refine g_aload_n C tb_L_law_8_ok (i := 37) rfl rfl ?_
            refine g_iconstv C tb_L_law_8_ok (i := 38) 0 rfl k_iconstv_0 ?_
            obtain ⟨b190, h⟩ := gA_e h
            refine g_lald C tb_L_law_8_ok (i := 39) rfl b190 ?_
            refine g_iload C tb_L_law_9_ok (i := 0) rfl rfl ?_
            refine g_i2l C tb_L_law_9_ok (i := 1) rfl ?_
            refine g_lcmp C tb_L_law_9_ok (i := 2) rfl ?_
            obtain ⟨t191, f192⟩ := br_e h
            refine g_if_eq C tb_L_law_9_ok (i := 3) 723 rfl rfl (fun c => ?_) (fun c => ?_)
            · have h := t191 c
              exact g_less (L' := [some (.ref 1999), some (.ref (y.2.2 + 1)), some (.ref (y4.2.2 + 1)), some (.ref (y9.2.2 + 1)), some (.int v14), none, none]) ⟨rfl, ⟨rfl, ⟨rfl, ⟨rfl, ⟨rfl, trivial⟩⟩⟩⟩⟩ (J723 () h)
            · have h := f192 c
              refine g_iconstv C tb_L_law_9_ok (i := 4) 0 rfl k_iconstv_0 ?_
              cases h
              exact absurd ho (by decide)
        · have h := f186 c
          refine g_iconstv C tb_L_law_8_ok (i := 33) 0 rfl k_iconstv_0 ?_
          cases h
          exact absurd ho (by decide)
      have h := f194 hs1008
      obtain ⟨t205, f206⟩ := br_e h
      by_cases hs1009 : ((xs v14.toNatClampNeg) &&& (63 : Int32)) = (9 : Int32)
      · have h := t205 hs1009
        refine g_tableIn C tb_L_law_0_ok (i := 24) 9 726 686 rfl hs1009 (by decide) rfl ?_
        refine g_aload_n C tb_L_law_9_ok (i := 7) rfl rfl ?_
        refine g_aload_n C tb_L_law_9_ok (i := 8) rfl rfl ?_
        refine g_iload C tb_L_law_9_ok (i := 9) rfl rfl ?_
        refine g_iconstv C tb_L_law_9_ok (i := 10) 1 rfl k_iconstv_1 ?_
        refine g_iadd C tb_L_law_9_ok (i := 11) rfl ?_
        obtain ⟨b195, h⟩ := gd_e h
        refine g_xald C tb_L_law_9_ok (i := 12) hsL hxs rfl b195 ?_
        obtain ⟨k196, h⟩ := gK_e h
        obtain ⟨r197, M198, er197, h⟩ := c0_e h
        refine g_callV0 C tb_L_law_9_ok (i := 13) [.int (xs (v14 + (1 : Int32)).toNatClampNeg)] rfl mw_X11_bag mv_X11_bag ml_L_143 k196 rfl rfl rfl rfl (w_X11_bag C.G y12 (y.2.2 + 1) (xs (v14 + (1 : Int32)).toNatClampNeg) M15) er197 (bl (by omega)) (bl (by omega)) rfl ?_
        refine g_aload_n C tb_L_law_9_ok (i := 14) rfl rfl ?_
        refine g_aload_n C tb_L_law_9_ok (i := 15) rfl rfl ?_
        refine g_iload C tb_L_law_9_ok (i := 16) rfl rfl ?_
        refine g_iconstv C tb_L_law_9_ok (i := 17) 1 rfl k_iconstv_1 ?_
        refine g_iadd C tb_L_law_9_ok (i := 18) rfl ?_
        obtain ⟨b199, h⟩ := gd_e h
        refine g_xald C tb_L_law_9_ok (i := 19) hsL hxs rfl b199 ?_
        obtain ⟨k200, h⟩ := gK_e h
        obtain ⟨r201, M202, er201, h⟩ := c0_e h
        refine g_callV0 C tb_L_law_9_ok (i := 20) [.int (xs (v14 + (1 : Int32)).toNatClampNeg)] rfl mw_X12_bag mv_X12_bag ml_L_146 k200 rfl rfl rfl rfl (w_X12_bag C.G y12 (y4.2.2 + 1) (xs (v14 + (1 : Int32)).toNatClampNeg) M198) er201 (bl (by omega)) (bl (by omega)) rfl ?_
        obtain ⟨t203, f204⟩ := br_e h
        refine g_icmp_eq C tb_L_law_9_ok (i := 21) 2210 rfl rfl (fun c => ?_) (fun c => ?_)
        · have h := t203 c
          refine g_widen (k2 := (kc + 42)) (s2 := (ks + 252)) (bl (by omega)) (bl (by omega)) ?_
          exact g_less (L' := [some (.ref 1999), some (.ref (y.2.2 + 1)), some (.ref (y4.2.2 + 1)), some (.ref (y9.2.2 + 1)), some (.int v14), none, none]) ⟨rfl, ⟨rfl, ⟨rfl, ⟨rfl, ⟨rfl, trivial⟩⟩⟩⟩⟩ (J2210 M202 h)
        · have h := f204 c
          refine g_iconstv C tb_L_law_9_ok (i := 22) 0 rfl k_iconstv_0 ?_
          cases h
          exact absurd ho (by decide)
      have h := f206 hs1009
      obtain ⟨t233, f234⟩ := br_e h
      by_cases hs1010 : ((xs v14.toNatClampNeg) &&& (63 : Int32)) = (10 : Int32)
      · have h := t233 hs1010
        refine g_tableIn C tb_L_law_0_ok (i := 24) 10 751 711 rfl hs1010 (by decide) rfl ?_
        refine g_aload_n C tb_L_law_9_ok (i := 24) rfl rfl ?_
        refine g_aload_n C tb_L_law_9_ok (i := 25) rfl rfl ?_
        refine g_iload C tb_L_law_9_ok (i := 26) rfl rfl ?_
        refine g_iconstv C tb_L_law_9_ok (i := 27) 1 rfl k_iconstv_1 ?_
        refine g_iadd C tb_L_law_9_ok (i := 28) rfl ?_
        obtain ⟨b207, h⟩ := gd_e h
        refine g_xald C tb_L_law_9_ok (i := 29) hsL hxs rfl b207 ?_
        refine g_aload_n C tb_L_law_9_ok (i := 30) rfl rfl ?_
        refine g_iload C tb_L_law_9_ok (i := 31) rfl rfl ?_
        refine g_iconstv C tb_L_law_9_ok (i := 32) 2 rfl k_iconstv_2 ?_
        refine g_iadd C tb_L_law_9_ok (i := 33) rfl ?_
        obtain ⟨b208, h⟩ := gd_e h
        refine g_xald C tb_L_law_9_ok (i := 34) hsL hxs rfl b208 ?_
        obtain ⟨j210, ej210, h⟩ := jn_e h
        have J772 : ∀ (v209 : Int32), j210 v209 = some out → GG g x 7 Q (kc + 0) (ks + 0) y12 M15 772 [some (.ref 1999), some (.ref (y.2.2 + 1)), some (.ref (y4.2.2 + 1)), some (.ref (y9.2.2 + 1)), some (.int v14), none, none] [.int v209, .int (xs (v14 + (1 : Int32)).toNatClampNeg), .ref (y.2.2 + 1)] := by
          intro v209 h; subst ej210
          refine g_aload_n C tb_L_law_9_ok (i := 39) rfl rfl ?_
          obtain ⟨r211, M212, er211, h⟩ := c0_e h
          refine g_callSW C tb_L_law_10_ok (i := 0) [.ref (y.2.2 + 1), .int (xs (v14 + (1 : Int32)).toNatClampNeg), .int v209, .ref (y9.2.2 + 1)] rfl mwh_L_peg ml_L_147 rfl rfl rfl rfl (w_L_peg C.G y12 (y.2.2 + 1) (xs (v14 + (1 : Int32)).toNatClampNeg) v209 (y9.2.2 + 1) M15) er211 (bl (by omega)) (bl (by omega)) rfl ?_
          refine g_istore C tb_L_law_10_ok (i := 1) rfl rfl rfl ?_
          refine g_aload_n C tb_L_law_10_ok (i := 2) rfl rfl ?_
          refine g_aload_n C tb_L_law_10_ok (i := 3) rfl rfl ?_
          refine g_iload C tb_L_law_10_ok (i := 4) rfl rfl ?_
          refine g_iconstv C tb_L_law_10_ok (i := 5) 1 rfl k_iconstv_1 ?_
          refine g_iadd C tb_L_law_10_ok (i := 6) rfl ?_
          obtain ⟨b213, h⟩ := gd_e h
          refine g_xald C tb_L_law_10_ok (i := 7) hsL hxs rfl b213 ?_
          refine g_aload_n C tb_L_law_10_ok (i := 8) rfl rfl ?_
          refine g_iload C tb_L_law_10_ok (i := 9) rfl rfl ?_
          refine g_iconstv C tb_L_law_10_ok (i := 10) 2 rfl k_iconstv_2 ?_
          refine g_iadd C tb_L_law_10_ok (i := 11) rfl ?_
          obtain ⟨b214, h⟩ := gd_e h
          refine g_xald C tb_L_law_10_ok (i := 12) hsL hxs rfl b214 ?_
          obtain ⟨j216, ej216, h⟩ := jn_e h
          have J799 : ∀ (v215 : Int32), j216 v215 = some out → GG g x 7 Q (kc + 1) (ks + 6) y12 M212 799 [some (.ref 1999), some (.ref (y.2.2 + 1)), some (.ref (y4.2.2 + 1)), some (.ref (y9.2.2 + 1)), some (.int v14), some (.int r211), none] [.int v215, .int (xs (v14 + (1 : Int32)).toNatClampNeg), .ref (y4.2.2 + 1)] := by
            intro v215 h; subst ej216
            obtain ⟨k217, h⟩ := gK_e h
            obtain ⟨r218, M219, er218, h⟩ := c0_e h
            refine g_callV0 C tb_L_law_10_ok (i := 17) [.int (xs (v14 + (1 : Int32)).toNatClampNeg), .int v215] rfl mw_X12_peg mv_X12_peg ml_L_149 k217 rfl rfl rfl rfl (w_X12_peg C.G y12 (y4.2.2 + 1) (xs (v14 + (1 : Int32)).toNatClampNeg) v215 M212) er218 (bl (by omega)) (bl (by omega)) rfl ?_
            refine g_istore C tb_L_law_10_ok (i := 18) rfl rfl rfl ?_
            refine g_aload_n C tb_L_law_10_ok (i := 19) rfl rfl ?_
            obtain ⟨r220, er220, h⟩ := cp_e h
            refine g_callV0 C tb_L_law_10_ok (i := 20) [] rfl mw_X12_thrown mv_X12_thrown ml_L_114 k217 rfl rfl rfl rfl (w_X12_thrown C.G y12 (y4.2.2 + 1) M219) (pm_s er220) (bl (by omega)) (bl (by omega)) rfl ?_
            refine g_iload C tb_L_law_10_ok (i := 21) rfl rfl ?_
            obtain ⟨t221, f222⟩ := br_e h
            refine g_icmp_eq C tb_L_law_10_ok (i := 22) 815 rfl rfl (fun c => ?_) (fun c => ?_)
            · have h := t221 c
              refine g_iload C tb_L_law_10_ok (i := 25) rfl rfl ?_
              obtain ⟨j223, ej223, h⟩ := jn_e h
              have J832 : ∀ (_u : Unit), j223 _u = some out → GG g x 7 Q (kc + 1) (ks + 6) y12 M219 832 [some (.ref 1999), some (.ref (y.2.2 + 1)), some (.ref (y4.2.2 + 1)), some (.ref (y9.2.2 + 1)), some (.int v14), none, none] [] := by
                intro _u h; subst ej223
                refine g_goto C tb_L_law_10_ok (i := 36) 2210 rfl rfl ?_
                refine g_widen (k2 := (kc + 42)) (s2 := (ks + 252)) (bl (by omega)) (bl (by omega)) ?_
                exact g_less (L' := [some (.ref 1999), some (.ref (y.2.2 + 1)), some (.ref (y4.2.2 + 1)), some (.ref (y9.2.2 + 1)), some (.int v14), none, none]) ⟨rfl, ⟨rfl, ⟨rfl, ⟨rfl, ⟨rfl, trivial⟩⟩⟩⟩⟩ (J2210 M219 h)
              obtain ⟨t224, f225⟩ := br_e h
              refine g_if_ne C tb_L_law_10_ok (i := 26) 832 rfl rfl (fun c => ?_) (fun c => ?_)
              · have h := f225 c
                exact g_less (L' := [some (.ref 1999), some (.ref (y.2.2 + 1)), some (.ref (y4.2.2 + 1)), some (.ref (y9.2.2 + 1)), some (.int v14), none, none]) ⟨rfl, ⟨rfl, ⟨rfl, ⟨rfl, ⟨rfl, trivial⟩⟩⟩⟩⟩ (J832 () h)
              · have h := t224 c
                refine g_aload_n C tb_L_law_10_ok (i := 27) rfl rfl ?_
                refine g_iconstv C tb_L_law_10_ok (i := 28) 0 rfl k_iconstv_0 ?_
                obtain ⟨b226, h⟩ := gA_e h
                refine g_lald C tb_L_law_10_ok (i := 29) rfl b226 ?_
                refine g_iload C tb_L_law_10_ok (i := 30) rfl rfl ?_
                refine g_i2l C tb_L_law_10_ok (i := 31) rfl ?_
                refine g_lcmp C tb_L_law_10_ok (i := 32) rfl ?_
                obtain ⟨t227, f228⟩ := br_e h
                refine g_if_eq C tb_L_law_10_ok (i := 33) 832 rfl rfl (fun c => ?_) (fun c => ?_)
                · have h := t227 c
                  exact g_less (L' := [some (.ref 1999), some (.ref (y.2.2 + 1)), some (.ref (y4.2.2 + 1)), some (.ref (y9.2.2 + 1)), some (.int v14), none, none]) ⟨rfl, ⟨rfl, ⟨rfl, ⟨rfl, ⟨rfl, trivial⟩⟩⟩⟩⟩ (J832 () h)
                · have h := f228 c
                  refine g_iconstv C tb_L_law_10_ok (i := 34) 0 rfl k_iconstv_0 ?_
                  cases h
                  exact absurd ho (by decide)
            · have h := f222 c
              refine g_iconstv C tb_L_law_10_ok (i := 23) 0 rfl k_iconstv_0 ?_
              cases h
              exact absurd ho (by decide)
          obtain ⟨t229, f230⟩ := br_e h
          refine g_if_eq C tb_L_law_10_ok (i := 13) 798 rfl rfl (fun c => ?_) (fun c => ?_)
          · have h := t229 c
            refine g_iconstv C tb_L_law_10_ok (i := 16) 0 rfl k_iconstv_0 ?_
            exact g_less (L' := [some (.ref 1999), some (.ref (y.2.2 + 1)), some (.ref (y4.2.2 + 1)), some (.ref (y9.2.2 + 1)), some (.int v14), some (.int r211), none]) ⟨rfl, ⟨rfl, ⟨rfl, ⟨rfl, ⟨rfl, ⟨rfl, trivial⟩⟩⟩⟩⟩⟩ (J799 (0 : Int32) h)
          · have h := f230 c
            refine g_iconstv C tb_L_law_10_ok (i := 14) 1 rfl k_iconstv_1 ?_
            refine g_goto C tb_L_law_10_ok (i := 15) 799 rfl rfl ?_
            exact g_less (L' := [some (.ref 1999), some (.ref (y.2.2 + 1)), some (.ref (y4.2.2 + 1)), some (.ref (y9.2.2 + 1)), some (.int v14), some (.int r211), none]) ⟨rfl, ⟨rfl, ⟨rfl, ⟨rfl, ⟨rfl, ⟨rfl, trivial⟩⟩⟩⟩⟩⟩ (J799 (1 : Int32) h)
        obtain ⟨t231, f232⟩ := br_e h
        refine g_if_eq C tb_L_law_9_ok (i := 35) 771 rfl rfl (fun c => ?_) (fun c => ?_)
        · have h := t231 c
          refine g_iconstv C tb_L_law_9_ok (i := 38) 0 rfl k_iconstv_0 ?_
          exact g_less (L' := [some (.ref 1999), some (.ref (y.2.2 + 1)), some (.ref (y4.2.2 + 1)), some (.ref (y9.2.2 + 1)), some (.int v14), none, none]) ⟨rfl, ⟨rfl, ⟨rfl, ⟨rfl, ⟨rfl, trivial⟩⟩⟩⟩⟩ (J772 (0 : Int32) h)
        · have h := f232 c
          refine g_iconstv C tb_L_law_9_ok (i := 36) 1 rfl k_iconstv_1 ?_
          refine g_goto C tb_L_law_9_ok (i := 37) 772 rfl rfl ?_
          exact g_less (L' := [some (.ref 1999), some (.ref (y.2.2 + 1)), some (.ref (y4.2.2 + 1)), some (.ref (y9.2.2 + 1)), some (.int v14), none, none]) ⟨rfl, ⟨rfl, ⟨rfl, ⟨rfl, ⟨rfl, trivial⟩⟩⟩⟩⟩ (J772 (1 : Int32) h)
      have h := f234 hs1010
      obtain ⟨t243, f244⟩ := br_e h
      by_cases hs1011 : ((xs v14.toNatClampNeg) &&& (63 : Int32)) = (11 : Int32)
      · have h := t243 hs1011
        refine g_tableIn C tb_L_law_0_ok (i := 24) 11 835 795 rfl hs1011 (by decide) rfl ?_
        refine g_aload_n C tb_L_law_10_ok (i := 37) rfl rfl ?_
        obtain ⟨k235, h⟩ := gK_e h
        obtain ⟨r236, M237, er236, h⟩ := c0_e h
        refine g_callV0 C tb_L_law_10_ok (i := 38) [] rfl mw_X11_undo mv_X11_undo ml_L_150 k235 rfl rfl rfl rfl (w_X11_undo C.G y12 (y.2.2 + 1) M15) er236 (bl (by omega)) (bl (by omega)) rfl ?_
        refine g_aload_n C tb_L_law_10_ok (i := 39) rfl rfl ?_
        obtain ⟨k238, h⟩ := gK_e h
        obtain ⟨r239, M240, er239, h⟩ := c0_e h
        refine g_callV0 C tb_L_law_11_ok (i := 0) [] rfl mw_X12_undo mv_X12_undo ml_L_153 k238 rfl rfl rfl rfl (w_X12_undo C.G y12 (y4.2.2 + 1) M237) er239 (bl (by omega)) (bl (by omega)) rfl ?_
        obtain ⟨t241, f242⟩ := br_e h
        refine g_icmp_eq C tb_L_law_11_ok (i := 1) 2210 rfl rfl (fun c => ?_) (fun c => ?_)
        · have h := t241 c
          refine g_widen (k2 := (kc + 42)) (s2 := (ks + 252)) (bl (by omega)) (bl (by omega)) ?_
          exact g_less (L' := [some (.ref 1999), some (.ref (y.2.2 + 1)), some (.ref (y4.2.2 + 1)), some (.ref (y9.2.2 + 1)), some (.int v14), none, none]) ⟨rfl, ⟨rfl, ⟨rfl, ⟨rfl, ⟨rfl, trivial⟩⟩⟩⟩⟩ (J2210 M240 h)
        · have h := f242 c
          refine g_iconstv C tb_L_law_11_ok (i := 2) 0 rfl k_iconstv_0 ?_
          cases h
          exact absurd ho (by decide)
      have h := f244 hs1011
      obtain ⟨t263, f264⟩ := br_e h
      by_cases hs1012 : ((xs v14.toNatClampNeg) &&& (63 : Int32)) = (12 : Int32)
      · have h := t263 hs1012
        refine g_tableIn C tb_L_law_0_ok (i := 24) 12 848 808 rfl hs1012 (by decide) rfl ?_
        refine g_aload_n C tb_L_law_11_ok (i := 4) rfl rfl ?_
        refine g_aload_n C tb_L_law_11_ok (i := 5) rfl rfl ?_
        refine g_iload C tb_L_law_11_ok (i := 6) rfl rfl ?_
        refine g_iconstv C tb_L_law_11_ok (i := 7) 1 rfl k_iconstv_1 ?_
        refine g_iadd C tb_L_law_11_ok (i := 8) rfl ?_
        obtain ⟨b245, h⟩ := gd_e h
        refine g_xald C tb_L_law_11_ok (i := 9) hsL hxs rfl b245 ?_
        refine g_aload_n C tb_L_law_11_ok (i := 10) rfl rfl ?_
        refine g_iload C tb_L_law_11_ok (i := 11) rfl rfl ?_
        refine g_iconstv C tb_L_law_11_ok (i := 12) 2 rfl k_iconstv_2 ?_
        refine g_iadd C tb_L_law_11_ok (i := 13) rfl ?_
        obtain ⟨b246, h⟩ := gd_e h
        refine g_xald C tb_L_law_11_ok (i := 14) hsL hxs rfl b246 ?_
        refine g_aload_n C tb_L_law_11_ok (i := 15) rfl rfl ?_
        obtain ⟨r247, M248, er247, h⟩ := c0_e h
        refine g_callSW C tb_L_law_11_ok (i := 16) [.ref (y.2.2 + 1), .int (xs (v14 + (1 : Int32)).toNatClampNeg), .int (xs (v14 + (2 : Int32)).toNatClampNeg), .ref (y9.2.2 + 1)] rfl mwh_L_then ml_L_154 rfl rfl rfl rfl (w_L_then C.G y12 (y.2.2 + 1) (xs (v14 + (1 : Int32)).toNatClampNeg) (xs (v14 + (2 : Int32)).toNatClampNeg) (y9.2.2 + 1) M15) er247 (bl (by omega)) (bl (by omega)) rfl ?_
        refine g_istore C tb_L_law_11_ok (i := 17) rfl rfl rfl ?_
        refine g_aload_n C tb_L_law_11_ok (i := 18) rfl rfl ?_
        refine g_aload_n C tb_L_law_11_ok (i := 19) rfl rfl ?_
        refine g_iload C tb_L_law_11_ok (i := 20) rfl rfl ?_
        refine g_iconstv C tb_L_law_11_ok (i := 21) 1 rfl k_iconstv_1 ?_
        refine g_iadd C tb_L_law_11_ok (i := 22) rfl ?_
        obtain ⟨b249, h⟩ := gd_e h
        refine g_xald C tb_L_law_11_ok (i := 23) hsL hxs rfl b249 ?_
        refine g_aload_n C tb_L_law_11_ok (i := 24) rfl rfl ?_
        refine g_iload C tb_L_law_11_ok (i := 25) rfl rfl ?_
        refine g_iconstv C tb_L_law_11_ok (i := 26) 2 rfl k_iconstv_2 ?_
        refine g_iadd C tb_L_law_11_ok (i := 27) rfl ?_
        obtain ⟨b250, h⟩ := gd_e h
        refine g_xald C tb_L_law_11_ok (i := 28) hsL hxs rfl b250 ?_
        obtain ⟨k251, h⟩ := gK_e h
        obtain ⟨r252, M253, er252, h⟩ := c0_e h
        refine g_callV0 C tb_L_law_11_ok (i := 29) [.int (xs (v14 + (1 : Int32)).toNatClampNeg), .int (xs (v14 + (2 : Int32)).toNatClampNeg)] rfl mw_X12_then mv_X12_then ml_L_156 k251 rfl rfl rfl rfl (w_X12_then C.G y12 (y4.2.2 + 1) (xs (v14 + (1 : Int32)).toNatClampNeg) (xs (v14 + (2 : Int32)).toNatClampNeg) M248) er252 (bl (by omega)) (bl (by omega)) rfl ?_
        refine g_istore C tb_L_law_11_ok (i := 30) rfl rfl rfl ?_
        refine g_aload_n C tb_L_law_11_ok (i := 31) rfl rfl ?_
        obtain ⟨r254, er254, h⟩ := cp_e h
        refine g_callV0 C tb_L_law_11_ok (i := 32) [] rfl mw_X12_thrown mv_X12_thrown ml_L_114 k251 rfl rfl rfl rfl (w_X12_thrown C.G y12 (y4.2.2 + 1) M253) (pm_s er254) (bl (by omega)) (bl (by omega)) rfl ?_
        refine g_iload C tb_L_law_11_ok (i := 33) rfl rfl ?_
        obtain ⟨t255, f256⟩ := br_e h
        refine g_icmp_eq C tb_L_law_11_ok (i := 34) 896 rfl rfl (fun c => ?_) (fun c => ?_)
        · have h := t255 c
          refine g_iload C tb_L_law_11_ok (i := 37) rfl rfl ?_
          obtain ⟨j257, ej257, h⟩ := jn_e h
          have J913 : ∀ (_u : Unit), j257 _u = some out → GG g x 7 Q (kc + 2) (ks + 12) y12 M253 913 [some (.ref 1999), some (.ref (y.2.2 + 1)), some (.ref (y4.2.2 + 1)), some (.ref (y9.2.2 + 1)), some (.int v14), none, none] [] := by
            intro _u h; subst ej257
            refine g_goto C tb_L_law_12_ok (i := 8) 2210 rfl rfl ?_
            refine g_widen (k2 := (kc + 42)) (s2 := (ks + 252)) (bl (by omega)) (bl (by omega)) ?_
            exact g_less (L' := [some (.ref 1999), some (.ref (y.2.2 + 1)), some (.ref (y4.2.2 + 1)), some (.ref (y9.2.2 + 1)), some (.int v14), none, none]) ⟨rfl, ⟨rfl, ⟨rfl, ⟨rfl, ⟨rfl, trivial⟩⟩⟩⟩⟩ (J2210 M253 h)
          obtain ⟨t258, f259⟩ := br_e h
          refine g_if_ne C tb_L_law_11_ok (i := 38) 913 rfl rfl (fun c => ?_) (fun c => ?_)
          · have h := f259 c
            exact g_less (L' := [some (.ref 1999), some (.ref (y.2.2 + 1)), some (.ref (y4.2.2 + 1)), some (.ref (y9.2.2 + 1)), some (.int v14), none, none]) ⟨rfl, ⟨rfl, ⟨rfl, ⟨rfl, ⟨rfl, trivial⟩⟩⟩⟩⟩ (J913 () h)
          · have h := t258 c
            refine g_aload_n C tb_L_law_11_ok (i := 39) rfl rfl ?_
            refine g_iconstv C tb_L_law_12_ok (i := 0) 0 rfl k_iconstv_0 ?_
            obtain ⟨b260, h⟩ := gA_e h
            refine g_lald C tb_L_law_12_ok (i := 1) rfl b260 ?_
            refine g_iload C tb_L_law_12_ok (i := 2) rfl rfl ?_
            refine g_i2l C tb_L_law_12_ok (i := 3) rfl ?_
            refine g_lcmp C tb_L_law_12_ok (i := 4) rfl ?_
            obtain ⟨t261, f262⟩ := br_e h
            refine g_if_eq C tb_L_law_12_ok (i := 5) 913 rfl rfl (fun c => ?_) (fun c => ?_)
            · have h := t261 c
              exact g_less (L' := [some (.ref 1999), some (.ref (y.2.2 + 1)), some (.ref (y4.2.2 + 1)), some (.ref (y9.2.2 + 1)), some (.int v14), none, none]) ⟨rfl, ⟨rfl, ⟨rfl, ⟨rfl, ⟨rfl, trivial⟩⟩⟩⟩⟩ (J913 () h)
            · have h := f262 c
              refine g_iconstv C tb_L_law_12_ok (i := 6) 0 rfl k_iconstv_0 ?_
              cases h
              exact absurd ho (by decide)
        · have h := f256 c
          refine g_iconstv C tb_L_law_11_ok (i := 35) 0 rfl k_iconstv_0 ?_
          cases h
          exact absurd ho (by decide)
      have h := f264 hs1012
      obtain ⟨t283, f284⟩ := br_e h
      by_cases hs1013 : ((xs v14.toNatClampNeg) &&& (63 : Int32)) = (13 : Int32)
      · have h := t283 hs1013
        refine g_tableIn C tb_L_law_0_ok (i := 24) 13 916 876 rfl hs1013 (by decide) rfl ?_
        refine g_aload_n C tb_L_law_12_ok (i := 9) rfl rfl ?_
        refine g_aload_n C tb_L_law_12_ok (i := 10) rfl rfl ?_
        refine g_iload C tb_L_law_12_ok (i := 11) rfl rfl ?_
        refine g_iconstv C tb_L_law_12_ok (i := 12) 1 rfl k_iconstv_1 ?_
        refine g_iadd C tb_L_law_12_ok (i := 13) rfl ?_
        obtain ⟨b265, h⟩ := gd_e h
        refine g_xald C tb_L_law_12_ok (i := 14) hsL hxs rfl b265 ?_
        refine g_aload_n C tb_L_law_12_ok (i := 15) rfl rfl ?_
        refine g_iload C tb_L_law_12_ok (i := 16) rfl rfl ?_
        refine g_iconstv C tb_L_law_12_ok (i := 17) 2 rfl k_iconstv_2 ?_
        refine g_iadd C tb_L_law_12_ok (i := 18) rfl ?_
        obtain ⟨b266, h⟩ := gd_e h
        refine g_xald C tb_L_law_12_ok (i := 19) hsL hxs rfl b266 ?_
        refine g_aload_n C tb_L_law_12_ok (i := 20) rfl rfl ?_
        obtain ⟨r267, M268, er267, h⟩ := c0_e h
        refine g_callSW C tb_L_law_12_ok (i := 21) [.ref (y.2.2 + 1), .int (xs (v14 + (1 : Int32)).toNatClampNeg), .int (xs (v14 + (2 : Int32)).toNatClampNeg), .ref (y9.2.2 + 1)] rfl mwh_L_sky ml_L_157 rfl rfl rfl rfl (w_L_sky C.G y12 (y.2.2 + 1) (xs (v14 + (1 : Int32)).toNatClampNeg) (xs (v14 + (2 : Int32)).toNatClampNeg) (y9.2.2 + 1) M15) er267 (bl (by omega)) (bl (by omega)) rfl ?_
        refine g_istore C tb_L_law_12_ok (i := 22) rfl rfl rfl ?_
        refine g_aload_n C tb_L_law_12_ok (i := 23) rfl rfl ?_
        refine g_aload_n C tb_L_law_12_ok (i := 24) rfl rfl ?_
        refine g_iload C tb_L_law_12_ok (i := 25) rfl rfl ?_
        refine g_iconstv C tb_L_law_12_ok (i := 26) 1 rfl k_iconstv_1 ?_
        refine g_iadd C tb_L_law_12_ok (i := 27) rfl ?_
        obtain ⟨b269, h⟩ := gd_e h
        refine g_xald C tb_L_law_12_ok (i := 28) hsL hxs rfl b269 ?_
        refine g_aload_n C tb_L_law_12_ok (i := 29) rfl rfl ?_
        refine g_iload C tb_L_law_12_ok (i := 30) rfl rfl ?_
        refine g_iconstv C tb_L_law_12_ok (i := 31) 2 rfl k_iconstv_2 ?_
        refine g_iadd C tb_L_law_12_ok (i := 32) rfl ?_
        obtain ⟨b270, h⟩ := gd_e h
        refine g_xald C tb_L_law_12_ok (i := 33) hsL hxs rfl b270 ?_
        obtain ⟨k271, h⟩ := gK_e h
        obtain ⟨r272, M273, er272, h⟩ := c0_e h
        refine g_callV0 C tb_L_law_12_ok (i := 34) [.int (xs (v14 + (1 : Int32)).toNatClampNeg), .int (xs (v14 + (2 : Int32)).toNatClampNeg)] rfl mw_X12_sky mv_X12_sky ml_L_159 k271 rfl rfl rfl rfl (w_X12_sky C.G y12 (y4.2.2 + 1) (xs (v14 + (1 : Int32)).toNatClampNeg) (xs (v14 + (2 : Int32)).toNatClampNeg) M268) er272 (bl (by omega)) (bl (by omega)) rfl ?_
        refine g_istore C tb_L_law_12_ok (i := 35) rfl rfl rfl ?_
        refine g_aload_n C tb_L_law_12_ok (i := 36) rfl rfl ?_
        obtain ⟨r274, er274, h⟩ := cp_e h
        refine g_callV0 C tb_L_law_12_ok (i := 37) [] rfl mw_X12_thrown mv_X12_thrown ml_L_114 k271 rfl rfl rfl rfl (w_X12_thrown C.G y12 (y4.2.2 + 1) M273) (pm_s er274) (bl (by omega)) (bl (by omega)) rfl ?_
        refine g_iload C tb_L_law_12_ok (i := 38) rfl rfl ?_
        obtain ⟨t275, f276⟩ := br_e h
        refine g_icmp_eq C tb_L_law_12_ok (i := 39) 964 rfl rfl (fun c => ?_) (fun c => ?_)
        · have h := t275 c
          refine g_iload C tb_L_law_13_ok (i := 2) rfl rfl ?_
          obtain ⟨j277, ej277, h⟩ := jn_e h
          have J981 : ∀ (_u : Unit), j277 _u = some out → GG g x 7 Q (kc + 2) (ks + 12) y12 M273 981 [some (.ref 1999), some (.ref (y.2.2 + 1)), some (.ref (y4.2.2 + 1)), some (.ref (y9.2.2 + 1)), some (.int v14), none, none] [] := by
            intro _u h; subst ej277
            refine g_goto C tb_L_law_13_ok (i := 13) 2210 rfl rfl ?_
            refine g_widen (k2 := (kc + 42)) (s2 := (ks + 252)) (bl (by omega)) (bl (by omega)) ?_
            exact g_less (L' := [some (.ref 1999), some (.ref (y.2.2 + 1)), some (.ref (y4.2.2 + 1)), some (.ref (y9.2.2 + 1)), some (.int v14), none, none]) ⟨rfl, ⟨rfl, ⟨rfl, ⟨rfl, ⟨rfl, trivial⟩⟩⟩⟩⟩ (J2210 M273 h)
          obtain ⟨t278, f279⟩ := br_e h
          refine g_if_ne C tb_L_law_13_ok (i := 3) 981 rfl rfl (fun c => ?_) (fun c => ?_)
          · have h := f279 c
            exact g_less (L' := [some (.ref 1999), some (.ref (y.2.2 + 1)), some (.ref (y4.2.2 + 1)), some (.ref (y9.2.2 + 1)), some (.int v14), none, none]) ⟨rfl, ⟨rfl, ⟨rfl, ⟨rfl, ⟨rfl, trivial⟩⟩⟩⟩⟩ (J981 () h)
          · have h := t278 c
            refine g_aload_n C tb_L_law_13_ok (i := 4) rfl rfl ?_
            refine g_iconstv C tb_L_law_13_ok (i := 5) 0 rfl k_iconstv_0 ?_
            obtain ⟨b280, h⟩ := gA_e h
            refine g_lald C tb_L_law_13_ok (i := 6) rfl b280 ?_
            refine g_iload C tb_L_law_13_ok (i := 7) rfl rfl ?_
            refine g_i2l C tb_L_law_13_ok (i := 8) rfl ?_
            refine g_lcmp C tb_L_law_13_ok (i := 9) rfl ?_
            obtain ⟨t281, f282⟩ := br_e h
            refine g_if_eq C tb_L_law_13_ok (i := 10) 981 rfl rfl (fun c => ?_) (fun c => ?_)
            · have h := t281 c
              exact g_less (L' := [some (.ref 1999), some (.ref (y.2.2 + 1)), some (.ref (y4.2.2 + 1)), some (.ref (y9.2.2 + 1)), some (.int v14), none, none]) ⟨rfl, ⟨rfl, ⟨rfl, ⟨rfl, ⟨rfl, trivial⟩⟩⟩⟩⟩ (J981 () h)
            · have h := f282 c
              refine g_iconstv C tb_L_law_13_ok (i := 11) 0 rfl k_iconstv_0 ?_
              cases h
              exact absurd ho (by decide)
        · have h := f276 c
          refine g_iconstv C tb_L_law_13_ok (i := 0) 0 rfl k_iconstv_0 ?_
          cases h
          exact absurd ho (by decide)
      have h := f284 hs1013
      obtain ⟨t301, f302⟩ := br_e h
      by_cases hs1014 : ((xs v14.toNatClampNeg) &&& (63 : Int32)) = (14 : Int32)
      · have h := t301 hs1014
        refine g_tableIn C tb_L_law_0_ok (i := 24) 14 984 944 rfl hs1014 (by decide) rfl ?_
        refine g_aload_n C tb_L_law_13_ok (i := 14) rfl rfl ?_
        refine g_aload_n C tb_L_law_13_ok (i := 15) rfl rfl ?_
        refine g_iload C tb_L_law_13_ok (i := 16) rfl rfl ?_
        refine g_iconstv C tb_L_law_13_ok (i := 17) 1 rfl k_iconstv_1 ?_
        refine g_iadd C tb_L_law_13_ok (i := 18) rfl ?_
        obtain ⟨b285, h⟩ := gd_e h
        refine g_xald C tb_L_law_13_ok (i := 19) hsL hxs rfl b285 ?_
        refine g_aload_n C tb_L_law_13_ok (i := 20) rfl rfl ?_
        obtain ⟨r286, M287, er286, h⟩ := c0_e h
        refine g_callSW C tb_L_law_13_ok (i := 21) [.ref (y.2.2 + 1), .int (xs (v14 + (1 : Int32)).toNatClampNeg), .ref (y9.2.2 + 1)] rfl mwh_L_overdone ml_L_160 rfl rfl rfl rfl (w_L_overdone C.G y12 (y.2.2 + 1) (xs (v14 + (1 : Int32)).toNatClampNeg) (y9.2.2 + 1) M15) er286 (bl (by omega)) (bl (by omega)) rfl ?_
        refine g_istore C tb_L_law_13_ok (i := 22) rfl rfl rfl ?_
        refine g_aload_n C tb_L_law_13_ok (i := 23) rfl rfl ?_
        refine g_aload_n C tb_L_law_13_ok (i := 24) rfl rfl ?_
        refine g_iload C tb_L_law_13_ok (i := 25) rfl rfl ?_
        refine g_iconstv C tb_L_law_13_ok (i := 26) 1 rfl k_iconstv_1 ?_
        refine g_iadd C tb_L_law_13_ok (i := 27) rfl ?_
        obtain ⟨b288, h⟩ := gd_e h
        refine g_xald C tb_L_law_13_ok (i := 28) hsL hxs rfl b288 ?_
        obtain ⟨k289, h⟩ := gK_e h
        obtain ⟨r290, M291, er290, h⟩ := c0_e h
        refine g_callV0 C tb_L_law_13_ok (i := 29) [.int (xs (v14 + (1 : Int32)).toNatClampNeg)] rfl mw_X12_overdone mv_X12_overdone ml_L_162 k289 rfl rfl rfl rfl (w_X12_overdone C.G y12 (y4.2.2 + 1) (xs (v14 + (1 : Int32)).toNatClampNeg) M287) er290 (bl (by omega)) (bl (by omega)) rfl ?_
        refine g_istore C tb_L_law_13_ok (i := 30) rfl rfl rfl ?_
        refine g_aload_n C tb_L_law_13_ok (i := 31) rfl rfl ?_
        obtain ⟨r292, er292, h⟩ := cp_e h
        refine g_callV0 C tb_L_law_13_ok (i := 32) [] rfl mw_X12_thrown mv_X12_thrown ml_L_114 k289 rfl rfl rfl rfl (w_X12_thrown C.G y12 (y4.2.2 + 1) M291) (pm_s er292) (bl (by omega)) (bl (by omega)) rfl ?_
        refine g_iload C tb_L_law_13_ok (i := 33) rfl rfl ?_
        obtain ⟨t293, f294⟩ := br_e h
        refine g_icmp_eq C tb_L_law_13_ok (i := 34) 1020 rfl rfl (fun c => ?_) (fun c => ?_)
        · have h := t293 c
          refine g_iload C tb_L_law_13_ok (i := 37) rfl rfl ?_
          obtain ⟨j295, ej295, h⟩ := jn_e h
          have J1037 : ∀ (_u : Unit), j295 _u = some out → GG g x 7 Q (kc + 1) (ks + 6) y12 M291 1037 [some (.ref 1999), some (.ref (y.2.2 + 1)), some (.ref (y4.2.2 + 1)), some (.ref (y9.2.2 + 1)), some (.int v14), none, none] [] := by
            intro _u h; subst ej295
            refine g_goto C tb_L_law_14_ok (i := 8) 2210 rfl rfl ?_
            refine g_widen (k2 := (kc + 42)) (s2 := (ks + 252)) (bl (by omega)) (bl (by omega)) ?_
            exact g_less (L' := [some (.ref 1999), some (.ref (y.2.2 + 1)), some (.ref (y4.2.2 + 1)), some (.ref (y9.2.2 + 1)), some (.int v14), none, none]) ⟨rfl, ⟨rfl, ⟨rfl, ⟨rfl, ⟨rfl, trivial⟩⟩⟩⟩⟩ (J2210 M291 h)
          obtain ⟨t296, f297⟩ := br_e h
          refine g_if_ne C tb_L_law_13_ok (i := 38) 1037 rfl rfl (fun c => ?_) (fun c => ?_)
          · have h := f297 c
            exact g_less (L' := [some (.ref 1999), some (.ref (y.2.2 + 1)), some (.ref (y4.2.2 + 1)), some (.ref (y9.2.2 + 1)), some (.int v14), none, none]) ⟨rfl, ⟨rfl, ⟨rfl, ⟨rfl, ⟨rfl, trivial⟩⟩⟩⟩⟩ (J1037 () h)
          · have h := t296 c
            refine g_aload_n C tb_L_law_13_ok (i := 39) rfl rfl ?_
            refine g_iconstv C tb_L_law_14_ok (i := 0) 0 rfl k_iconstv_0 ?_
            obtain ⟨b298, h⟩ := gA_e h
            refine g_lald C tb_L_law_14_ok (i := 1) rfl b298 ?_
            refine g_iload C tb_L_law_14_ok (i := 2) rfl rfl ?_
            refine g_i2l C tb_L_law_14_ok (i := 3) rfl ?_
            refine g_lcmp C tb_L_law_14_ok (i := 4) rfl ?_
            obtain ⟨t299, f300⟩ := br_e h
            refine g_if_eq C tb_L_law_14_ok (i := 5) 1037 rfl rfl (fun c => ?_) (fun c => ?_)
            · have h := t299 c
              exact g_less (L' := [some (.ref 1999), some (.ref (y.2.2 + 1)), some (.ref (y4.2.2 + 1)), some (.ref (y9.2.2 + 1)), some (.int v14), none, none]) ⟨rfl, ⟨rfl, ⟨rfl, ⟨rfl, ⟨rfl, trivial⟩⟩⟩⟩⟩ (J1037 () h)
            · have h := f300 c
              refine g_iconstv C tb_L_law_14_ok (i := 6) 0 rfl k_iconstv_0 ?_
              cases h
              exact absurd ho (by decide)
        · have h := f294 c
          refine g_iconstv C tb_L_law_13_ok (i := 35) 0 rfl k_iconstv_0 ?_
          cases h
          exact absurd ho (by decide)
      have h := f302 hs1014
      obtain ⟨t319, f320⟩ := br_e h
      by_cases hs1015 : ((xs v14.toNatClampNeg) &&& (63 : Int32)) = (15 : Int32)
      · have h := t319 hs1015
        refine g_tableIn C tb_L_law_0_ok (i := 24) 15 1040 1000 rfl hs1015 (by decide) rfl ?_
        refine g_aload_n C tb_L_law_14_ok (i := 9) rfl rfl ?_
        refine g_aload_n C tb_L_law_14_ok (i := 10) rfl rfl ?_
        refine g_iload C tb_L_law_14_ok (i := 11) rfl rfl ?_
        refine g_iconstv C tb_L_law_14_ok (i := 12) 1 rfl k_iconstv_1 ?_
        refine g_iadd C tb_L_law_14_ok (i := 13) rfl ?_
        obtain ⟨b303, h⟩ := gd_e h
        refine g_xald C tb_L_law_14_ok (i := 14) hsL hxs rfl b303 ?_
        refine g_aload_n C tb_L_law_14_ok (i := 15) rfl rfl ?_
        obtain ⟨r304, M305, er304, h⟩ := c0_e h
        refine g_callSW C tb_L_law_14_ok (i := 16) [.ref (y.2.2 + 1), .int (xs (v14 + (1 : Int32)).toNatClampNeg), .ref (y9.2.2 + 1)] rfl mwh_L_first ml_L_163 rfl rfl rfl rfl (w_L_first C.G y12 (y.2.2 + 1) (xs (v14 + (1 : Int32)).toNatClampNeg) (y9.2.2 + 1) M15) er304 (bl (by omega)) (bl (by omega)) rfl ?_
        refine g_istore C tb_L_law_14_ok (i := 17) rfl rfl rfl ?_
        refine g_aload_n C tb_L_law_14_ok (i := 18) rfl rfl ?_
        refine g_aload_n C tb_L_law_14_ok (i := 19) rfl rfl ?_
        refine g_iload C tb_L_law_14_ok (i := 20) rfl rfl ?_
        refine g_iconstv C tb_L_law_14_ok (i := 21) 1 rfl k_iconstv_1 ?_
        refine g_iadd C tb_L_law_14_ok (i := 22) rfl ?_
        obtain ⟨b306, h⟩ := gd_e h
        refine g_xald C tb_L_law_14_ok (i := 23) hsL hxs rfl b306 ?_
        obtain ⟨k307, h⟩ := gK_e h
        obtain ⟨r308, M309, er308, h⟩ := c0_e h
        refine g_callV0 C tb_L_law_14_ok (i := 24) [.int (xs (v14 + (1 : Int32)).toNatClampNeg)] rfl mw_X12_first mv_X12_first ml_L_165 k307 rfl rfl rfl rfl (w_X12_first C.G y12 (y4.2.2 + 1) (xs (v14 + (1 : Int32)).toNatClampNeg) M305) er308 (bl (by omega)) (bl (by omega)) rfl ?_
        refine g_istore C tb_L_law_14_ok (i := 25) rfl rfl rfl ?_
        refine g_aload_n C tb_L_law_14_ok (i := 26) rfl rfl ?_
        obtain ⟨r310, er310, h⟩ := cp_e h
        refine g_callV0 C tb_L_law_14_ok (i := 27) [] rfl mw_X12_thrown mv_X12_thrown ml_L_114 k307 rfl rfl rfl rfl (w_X12_thrown C.G y12 (y4.2.2 + 1) M309) (pm_s er310) (bl (by omega)) (bl (by omega)) rfl ?_
        refine g_iload C tb_L_law_14_ok (i := 28) rfl rfl ?_
        obtain ⟨t311, f312⟩ := br_e h
        refine g_icmp_eq C tb_L_law_14_ok (i := 29) 1076 rfl rfl (fun c => ?_) (fun c => ?_)
        · have h := t311 c
          refine g_iload C tb_L_law_14_ok (i := 32) rfl rfl ?_
          obtain ⟨j313, ej313, h⟩ := jn_e h
          have J1093 : ∀ (_u : Unit), j313 _u = some out → GG g x 7 Q (kc + 1) (ks + 6) y12 M309 1093 [some (.ref 1999), some (.ref (y.2.2 + 1)), some (.ref (y4.2.2 + 1)), some (.ref (y9.2.2 + 1)), some (.int v14), none, none] [] := by
            intro _u h; subst ej313
            refine g_goto C tb_L_law_15_ok (i := 3) 2210 rfl rfl ?_
            refine g_widen (k2 := (kc + 42)) (s2 := (ks + 252)) (bl (by omega)) (bl (by omega)) ?_
            exact g_less (L' := [some (.ref 1999), some (.ref (y.2.2 + 1)), some (.ref (y4.2.2 + 1)), some (.ref (y9.2.2 + 1)), some (.int v14), none, none]) ⟨rfl, ⟨rfl, ⟨rfl, ⟨rfl, ⟨rfl, trivial⟩⟩⟩⟩⟩ (J2210 M309 h)
          obtain ⟨t314, f315⟩ := br_e h
          refine g_if_ne C tb_L_law_14_ok (i := 33) 1093 rfl rfl (fun c => ?_) (fun c => ?_)
          · have h := f315 c
            exact g_less (L' := [some (.ref 1999), some (.ref (y.2.2 + 1)), some (.ref (y4.2.2 + 1)), some (.ref (y9.2.2 + 1)), some (.int v14), none, none]) ⟨rfl, ⟨rfl, ⟨rfl, ⟨rfl, ⟨rfl, trivial⟩⟩⟩⟩⟩ (J1093 () h)
          · have h := t314 c
            refine g_aload_n C tb_L_law_14_ok (i := 34) rfl rfl ?_
            refine g_iconstv C tb_L_law_14_ok (i := 35) 0 rfl k_iconstv_0 ?_
            obtain ⟨b316, h⟩ := gA_e h
            refine g_lald C tb_L_law_14_ok (i := 36) rfl b316 ?_
            refine g_iload C tb_L_law_14_ok (i := 37) rfl rfl ?_
            refine g_i2l C tb_L_law_14_ok (i := 38) rfl ?_
            refine g_lcmp C tb_L_law_14_ok (i := 39) rfl ?_
            obtain ⟨t317, f318⟩ := br_e h
            refine g_if_eq C tb_L_law_15_ok (i := 0) 1093 rfl rfl (fun c => ?_) (fun c => ?_)
            · have h := t317 c
              exact g_less (L' := [some (.ref 1999), some (.ref (y.2.2 + 1)), some (.ref (y4.2.2 + 1)), some (.ref (y9.2.2 + 1)), some (.int v14), none, none]) ⟨rfl, ⟨rfl, ⟨rfl, ⟨rfl, ⟨rfl, trivial⟩⟩⟩⟩⟩ (J1093 () h)
            · have h := f318 c
              refine g_iconstv C tb_L_law_15_ok (i := 1) 0 rfl k_iconstv_0 ?_
              cases h
              exact absurd ho (by decide)
        · have h := f312 c
          refine g_iconstv C tb_L_law_14_ok (i := 30) 0 rfl k_iconstv_0 ?_
          cases h
          exact absurd ho (by decide)
      have h := f320 hs1015
      obtain ⟨t329, f330⟩ := br_e h
      by_cases hs1016 : ((xs v14.toNatClampNeg) &&& (63 : Int32)) = (16 : Int32)
      · have h := t329 hs1016
        refine g_tableIn C tb_L_law_0_ok (i := 24) 16 1096 1056 rfl hs1016 (by decide) rfl ?_
        refine g_aload_n C tb_L_law_15_ok (i := 4) rfl rfl ?_
        obtain ⟨k321, h⟩ := gK_e h
        obtain ⟨r322, M323, er322, h⟩ := c0_e h
        refine g_callV0 C tb_L_law_15_ok (i := 5) [] rfl mw_X11_spent mv_X11_spent ml_L_166 k321 rfl rfl rfl rfl (w_X11_spent C.G y12 (y.2.2 + 1) M15) er322 (bl (by omega)) (bl (by omega)) rfl ?_
        refine g_aload_n C tb_L_law_15_ok (i := 6) rfl rfl ?_
        obtain ⟨k324, h⟩ := gK_e h
        obtain ⟨r325, M326, er325, h⟩ := c0_e h
        refine g_callV0 C tb_L_law_15_ok (i := 7) [] rfl mw_X12_spent mv_X12_spent ml_L_169 k324 rfl rfl rfl rfl (w_X12_spent C.G y12 (y4.2.2 + 1) M323) er325 (bl (by omega)) (bl (by omega)) rfl ?_
        obtain ⟨t327, f328⟩ := br_e h
        refine g_icmp_eq C tb_L_law_15_ok (i := 8) 2210 rfl rfl (fun c => ?_) (fun c => ?_)
        · have h := t327 c
          refine g_widen (k2 := (kc + 42)) (s2 := (ks + 252)) (bl (by omega)) (bl (by omega)) ?_
          exact g_less (L' := [some (.ref 1999), some (.ref (y.2.2 + 1)), some (.ref (y4.2.2 + 1)), some (.ref (y9.2.2 + 1)), some (.int v14), none, none]) ⟨rfl, ⟨rfl, ⟨rfl, ⟨rfl, ⟨rfl, trivial⟩⟩⟩⟩⟩ (J2210 M326 h)
        · have h := f328 c
          refine g_iconstv C tb_L_law_15_ok (i := 9) 0 rfl k_iconstv_0 ?_
          cases h
          exact absurd ho (by decide)
      have h := f330 hs1016
      obtain ⟨t347, f348⟩ := br_e h
      by_cases hs1017 : ((xs v14.toNatClampNeg) &&& (63 : Int32)) = (17 : Int32)
      · have h := t347 hs1017
        refine g_tableIn C tb_L_law_0_ok (i := 24) 17 1109 1069 rfl hs1017 (by decide) rfl ?_
        refine g_aload_n C tb_L_law_15_ok (i := 11) rfl rfl ?_
        refine g_aload_n C tb_L_law_15_ok (i := 12) rfl rfl ?_
        refine g_iload C tb_L_law_15_ok (i := 13) rfl rfl ?_
        refine g_iconstv C tb_L_law_15_ok (i := 14) 1 rfl k_iconstv_1 ?_
        refine g_iadd C tb_L_law_15_ok (i := 15) rfl ?_
        obtain ⟨b331, h⟩ := gd_e h
        refine g_xald C tb_L_law_15_ok (i := 16) hsL hxs rfl b331 ?_
        refine g_aload_n C tb_L_law_15_ok (i := 17) rfl rfl ?_
        obtain ⟨r332, M333, er332, h⟩ := c0_e h
        refine g_callSW C tb_L_law_15_ok (i := 18) [.ref (y.2.2 + 1), .int (xs (v14 + (1 : Int32)).toNatClampNeg), .ref (y9.2.2 + 1)] rfl mwh_L_streak ml_L_170 rfl rfl rfl rfl (w_L_streak C.G y12 (y.2.2 + 1) (xs (v14 + (1 : Int32)).toNatClampNeg) (y9.2.2 + 1) M15) er332 (bl (by omega)) (bl (by omega)) rfl ?_
        refine g_istore C tb_L_law_15_ok (i := 19) rfl rfl rfl ?_
        refine g_aload_n C tb_L_law_15_ok (i := 20) rfl rfl ?_
        refine g_aload_n C tb_L_law_15_ok (i := 21) rfl rfl ?_
        refine g_iload C tb_L_law_15_ok (i := 22) rfl rfl ?_
        refine g_iconstv C tb_L_law_15_ok (i := 23) 1 rfl k_iconstv_1 ?_
        refine g_iadd C tb_L_law_15_ok (i := 24) rfl ?_
        obtain ⟨b334, h⟩ := gd_e h
        refine g_xald C tb_L_law_15_ok (i := 25) hsL hxs rfl b334 ?_
        obtain ⟨k335, h⟩ := gK_e h
        obtain ⟨r336, M337, er336, h⟩ := c0_e h
        refine g_callV0 C tb_L_law_15_ok (i := 26) [.int (xs (v14 + (1 : Int32)).toNatClampNeg)] rfl mw_X12_streak mv_X12_streak ml_L_172 k335 rfl rfl rfl rfl (w_X12_streak C.G y12 (y4.2.2 + 1) (xs (v14 + (1 : Int32)).toNatClampNeg) M333) er336 (bl (by omega)) (bl (by omega)) rfl ?_
        refine g_istore C tb_L_law_15_ok (i := 27) rfl rfl rfl ?_
        refine g_aload_n C tb_L_law_15_ok (i := 28) rfl rfl ?_
        obtain ⟨r338, er338, h⟩ := cp_e h
        refine g_callV0 C tb_L_law_15_ok (i := 29) [] rfl mw_X12_thrown mv_X12_thrown ml_L_114 k335 rfl rfl rfl rfl (w_X12_thrown C.G y12 (y4.2.2 + 1) M337) (pm_s er338) (bl (by omega)) (bl (by omega)) rfl ?_
        refine g_iload C tb_L_law_15_ok (i := 30) rfl rfl ?_
        obtain ⟨t339, f340⟩ := br_e h
        refine g_icmp_eq C tb_L_law_15_ok (i := 31) 1145 rfl rfl (fun c => ?_) (fun c => ?_)
        · have h := t339 c
          refine g_iload C tb_L_law_15_ok (i := 34) rfl rfl ?_
          obtain ⟨j341, ej341, h⟩ := jn_e h
          have J1162 : ∀ (_u : Unit), j341 _u = some out → GG g x 7 Q (kc + 1) (ks + 6) y12 M337 1162 [some (.ref 1999), some (.ref (y.2.2 + 1)), some (.ref (y4.2.2 + 1)), some (.ref (y9.2.2 + 1)), some (.int v14), none, none] [] := by
            intro _u h; subst ej341
            refine g_goto C tb_L_law_16_ok (i := 5) 2210 rfl rfl ?_
            refine g_widen (k2 := (kc + 42)) (s2 := (ks + 252)) (bl (by omega)) (bl (by omega)) ?_
            exact g_less (L' := [some (.ref 1999), some (.ref (y.2.2 + 1)), some (.ref (y4.2.2 + 1)), some (.ref (y9.2.2 + 1)), some (.int v14), none, none]) ⟨rfl, ⟨rfl, ⟨rfl, ⟨rfl, ⟨rfl, trivial⟩⟩⟩⟩⟩ (J2210 M337 h)
          obtain ⟨t342, f343⟩ := br_e h
          refine g_if_ne C tb_L_law_15_ok (i := 35) 1162 rfl rfl (fun c => ?_) (fun c => ?_)
          · have h := f343 c
            exact g_less (L' := [some (.ref 1999), some (.ref (y.2.2 + 1)), some (.ref (y4.2.2 + 1)), some (.ref (y9.2.2 + 1)), some (.int v14), none, none]) ⟨rfl, ⟨rfl, ⟨rfl, ⟨rfl, ⟨rfl, trivial⟩⟩⟩⟩⟩ (J1162 () h)
          · have h := t342 c
            refine g_aload_n C tb_L_law_15_ok (i := 36) rfl rfl ?_
            refine g_iconstv C tb_L_law_15_ok (i := 37) 0 rfl k_iconstv_0 ?_
            obtain ⟨b344, h⟩ := gA_e h
            refine g_lald C tb_L_law_15_ok (i := 38) rfl b344 ?_
            refine g_iload C tb_L_law_15_ok (i := 39) rfl rfl ?_
            refine g_i2l C tb_L_law_16_ok (i := 0) rfl ?_
            refine g_lcmp C tb_L_law_16_ok (i := 1) rfl ?_
            obtain ⟨t345, f346⟩ := br_e h
            refine g_if_eq C tb_L_law_16_ok (i := 2) 1162 rfl rfl (fun c => ?_) (fun c => ?_)
            · have h := t345 c
              exact g_less (L' := [some (.ref 1999), some (.ref (y.2.2 + 1)), some (.ref (y4.2.2 + 1)), some (.ref (y9.2.2 + 1)), some (.int v14), none, none]) ⟨rfl, ⟨rfl, ⟨rfl, ⟨rfl, ⟨rfl, trivial⟩⟩⟩⟩⟩ (J1162 () h)
            · have h := f346 c
              refine g_iconstv C tb_L_law_16_ok (i := 3) 0 rfl k_iconstv_0 ?_
              cases h
              exact absurd ho (by decide)
        · have h := f340 c
          refine g_iconstv C tb_L_law_15_ok (i := 32) 0 rfl k_iconstv_0 ?_
          cases h
          exact absurd ho (by decide)
      have h := f348 hs1017
      obtain ⟨t367, f368⟩ := br_e h
      by_cases hs1018 : ((xs v14.toNatClampNeg) &&& (63 : Int32)) = (18 : Int32)
      · have h := t367 hs1018
        refine g_tableIn C tb_L_law_0_ok (i := 24) 18 1165 1125 rfl hs1018 (by decide) rfl ?_
        refine g_aload_n C tb_L_law_16_ok (i := 6) rfl rfl ?_
        refine g_aload_n C tb_L_law_16_ok (i := 7) rfl rfl ?_
        refine g_iload C tb_L_law_16_ok (i := 8) rfl rfl ?_
        refine g_iconstv C tb_L_law_16_ok (i := 9) 1 rfl k_iconstv_1 ?_
        refine g_iadd C tb_L_law_16_ok (i := 10) rfl ?_
        obtain ⟨b349, h⟩ := gd_e h
        refine g_xald C tb_L_law_16_ok (i := 11) hsL hxs rfl b349 ?_
        refine g_aload_n C tb_L_law_16_ok (i := 12) rfl rfl ?_
        refine g_iload C tb_L_law_16_ok (i := 13) rfl rfl ?_
        refine g_iconstv C tb_L_law_16_ok (i := 14) 2 rfl k_iconstv_2 ?_
        refine g_iadd C tb_L_law_16_ok (i := 15) rfl ?_
        obtain ⟨b350, h⟩ := gd_e h
        refine g_xald C tb_L_law_16_ok (i := 16) hsL hxs rfl b350 ?_
        refine g_aload_n C tb_L_law_16_ok (i := 17) rfl rfl ?_
        obtain ⟨r351, M352, er351, h⟩ := c0_e h
        refine g_callSW C tb_L_law_16_ok (i := 18) [.ref (y.2.2 + 1), .int (xs (v14 + (1 : Int32)).toNatClampNeg), .int (xs (v14 + (2 : Int32)).toNatClampNeg), .ref (y9.2.2 + 1)] rfl mwh_L_patch ml_L_173 rfl rfl rfl rfl (w_L_patch C.G y12 (y.2.2 + 1) (xs (v14 + (1 : Int32)).toNatClampNeg) (xs (v14 + (2 : Int32)).toNatClampNeg) (y9.2.2 + 1) M15) er351 (bl (by omega)) (bl (by omega)) rfl ?_
        refine g_istore C tb_L_law_16_ok (i := 19) rfl rfl rfl ?_
        refine g_aload_n C tb_L_law_16_ok (i := 20) rfl rfl ?_
        refine g_aload_n C tb_L_law_16_ok (i := 21) rfl rfl ?_
        refine g_iload C tb_L_law_16_ok (i := 22) rfl rfl ?_
        refine g_iconstv C tb_L_law_16_ok (i := 23) 1 rfl k_iconstv_1 ?_
        refine g_iadd C tb_L_law_16_ok (i := 24) rfl ?_
        obtain ⟨b353, h⟩ := gd_e h
        refine g_xald C tb_L_law_16_ok (i := 25) hsL hxs rfl b353 ?_
        refine g_aload_n C tb_L_law_16_ok (i := 26) rfl rfl ?_
        refine g_iload C tb_L_law_16_ok (i := 27) rfl rfl ?_
        refine g_iconstv C tb_L_law_16_ok (i := 28) 2 rfl k_iconstv_2 ?_
        refine g_iadd C tb_L_law_16_ok (i := 29) rfl ?_
        obtain ⟨b354, h⟩ := gd_e h
        refine g_xald C tb_L_law_16_ok (i := 30) hsL hxs rfl b354 ?_
        obtain ⟨k355, h⟩ := gK_e h
        obtain ⟨r356, M357, er356, h⟩ := c0_e h
        refine g_callV0 C tb_L_law_16_ok (i := 31) [.int (xs (v14 + (1 : Int32)).toNatClampNeg), .int (xs (v14 + (2 : Int32)).toNatClampNeg)] rfl mw_X12_patch mv_X12_patch ml_L_175 k355 rfl rfl rfl rfl (w_X12_patch C.G y12 (y4.2.2 + 1) (xs (v14 + (1 : Int32)).toNatClampNeg) (xs (v14 + (2 : Int32)).toNatClampNeg) M352) er356 (bl (by omega)) (bl (by omega)) rfl ?_
        refine g_istore C tb_L_law_16_ok (i := 32) rfl rfl rfl ?_
        refine g_aload_n C tb_L_law_16_ok (i := 33) rfl rfl ?_
        obtain ⟨r358, er358, h⟩ := cp_e h
        refine g_callV0 C tb_L_law_16_ok (i := 34) [] rfl mw_X12_thrown mv_X12_thrown ml_L_114 k355 rfl rfl rfl rfl (w_X12_thrown C.G y12 (y4.2.2 + 1) M357) (pm_s er358) (bl (by omega)) (bl (by omega)) rfl ?_
        refine g_iload C tb_L_law_16_ok (i := 35) rfl rfl ?_
        obtain ⟨t359, f360⟩ := br_e h
        refine g_icmp_eq C tb_L_law_16_ok (i := 36) 1213 rfl rfl (fun c => ?_) (fun c => ?_)
        · have h := t359 c
          refine g_iload C tb_L_law_16_ok (i := 39) rfl rfl ?_
          obtain ⟨j361, ej361, h⟩ := jn_e h
          have J1230 : ∀ (_u : Unit), j361 _u = some out → GG g x 7 Q (kc + 2) (ks + 12) y12 M357 1230 [some (.ref 1999), some (.ref (y.2.2 + 1)), some (.ref (y4.2.2 + 1)), some (.ref (y9.2.2 + 1)), some (.int v14), none, none] [] := by
            intro _u h; subst ej361
            refine g_goto C tb_L_law_17_ok (i := 10) 2210 rfl rfl ?_
            refine g_widen (k2 := (kc + 42)) (s2 := (ks + 252)) (bl (by omega)) (bl (by omega)) ?_
            exact g_less (L' := [some (.ref 1999), some (.ref (y.2.2 + 1)), some (.ref (y4.2.2 + 1)), some (.ref (y9.2.2 + 1)), some (.int v14), none, none]) ⟨rfl, ⟨rfl, ⟨rfl, ⟨rfl, ⟨rfl, trivial⟩⟩⟩⟩⟩ (J2210 M357 h)
          obtain ⟨t362, f363⟩ := br_e h
          refine g_if_ne C tb_L_law_17_ok (i := 0) 1230 rfl rfl (fun c => ?_) (fun c => ?_)
          · have h := f363 c
            exact g_less (L' := [some (.ref 1999), some (.ref (y.2.2 + 1)), some (.ref (y4.2.2 + 1)), some (.ref (y9.2.2 + 1)), some (.int v14), none, none]) ⟨rfl, ⟨rfl, ⟨rfl, ⟨rfl, ⟨rfl, trivial⟩⟩⟩⟩⟩ (J1230 () h)
          · have h := t362 c
            refine g_aload_n C tb_L_law_17_ok (i := 1) rfl rfl ?_
            refine g_iconstv C tb_L_law_17_ok (i := 2) 0 rfl k_iconstv_0 ?_
            obtain ⟨b364, h⟩ := gA_e h
            refine g_lald C tb_L_law_17_ok (i := 3) rfl b364 ?_
            refine g_iload C tb_L_law_17_ok (i := 4) rfl rfl ?_
            refine g_i2l C tb_L_law_17_ok (i := 5) rfl ?_
            refine g_lcmp C tb_L_law_17_ok (i := 6) rfl ?_
            obtain ⟨t365, f366⟩ := br_e h
            refine g_if_eq C tb_L_law_17_ok (i := 7) 1230 rfl rfl (fun c => ?_) (fun c => ?_)
            · have h := t365 c
              exact g_less (L' := [some (.ref 1999), some (.ref (y.2.2 + 1)), some (.ref (y4.2.2 + 1)), some (.ref (y9.2.2 + 1)), some (.int v14), none, none]) ⟨rfl, ⟨rfl, ⟨rfl, ⟨rfl, ⟨rfl, trivial⟩⟩⟩⟩⟩ (J1230 () h)
            · have h := f366 c
              refine g_iconstv C tb_L_law_17_ok (i := 8) 0 rfl k_iconstv_0 ?_
              cases h
              exact absurd ho (by decide)
        · have h := f360 c
          refine g_iconstv C tb_L_law_16_ok (i := 37) 0 rfl k_iconstv_0 ?_
          cases h
          exact absurd ho (by decide)
      have h := f368 hs1018
      obtain ⟨t385, f386⟩ := br_e h
      by_cases hs1019 : ((xs v14.toNatClampNeg) &&& (63 : Int32)) = (19 : Int32)
      · have h := t385 hs1019
        refine g_tableIn C tb_L_law_0_ok (i := 24) 19 1233 1193 rfl hs1019 (by decide) rfl ?_
        refine g_aload_n C tb_L_law_17_ok (i := 11) rfl rfl ?_
        refine g_aload_n C tb_L_law_17_ok (i := 12) rfl rfl ?_
        refine g_iload C tb_L_law_17_ok (i := 13) rfl rfl ?_
        refine g_iconstv C tb_L_law_17_ok (i := 14) 1 rfl k_iconstv_1 ?_
        refine g_iadd C tb_L_law_17_ok (i := 15) rfl ?_
        obtain ⟨b369, h⟩ := gd_e h
        refine g_xald C tb_L_law_17_ok (i := 16) hsL hxs rfl b369 ?_
        refine g_aload_n C tb_L_law_17_ok (i := 17) rfl rfl ?_
        obtain ⟨r370, M371, er370, h⟩ := c0_e h
        refine g_callSW C tb_L_law_17_ok (i := 18) [.ref (y.2.2 + 1), .int (xs (v14 + (1 : Int32)).toNatClampNeg), .ref (y9.2.2 + 1)] rfl mwh_L_patches ml_L_176 rfl rfl rfl rfl (w_L_patches C.G y12 (y.2.2 + 1) (xs (v14 + (1 : Int32)).toNatClampNeg) (y9.2.2 + 1) M15) er370 (bl (by omega)) (bl (by omega)) rfl ?_
        refine g_istore C tb_L_law_17_ok (i := 19) rfl rfl rfl ?_
        refine g_aload_n C tb_L_law_17_ok (i := 20) rfl rfl ?_
        refine g_aload_n C tb_L_law_17_ok (i := 21) rfl rfl ?_
        refine g_iload C tb_L_law_17_ok (i := 22) rfl rfl ?_
        refine g_iconstv C tb_L_law_17_ok (i := 23) 1 rfl k_iconstv_1 ?_
        refine g_iadd C tb_L_law_17_ok (i := 24) rfl ?_
        obtain ⟨b372, h⟩ := gd_e h
        refine g_xald C tb_L_law_17_ok (i := 25) hsL hxs rfl b372 ?_
        obtain ⟨k373, h⟩ := gK_e h
        obtain ⟨r374, M375, er374, h⟩ := c0_e h
        refine g_callV0 C tb_L_law_17_ok (i := 26) [.int (xs (v14 + (1 : Int32)).toNatClampNeg)] rfl mw_X12_patches mv_X12_patches ml_L_178 k373 rfl rfl rfl rfl (w_X12_patches C.G y12 (y4.2.2 + 1) (xs (v14 + (1 : Int32)).toNatClampNeg) M371) er374 (bl (by omega)) (bl (by omega)) rfl ?_
        refine g_istore C tb_L_law_17_ok (i := 27) rfl rfl rfl ?_
        refine g_aload_n C tb_L_law_17_ok (i := 28) rfl rfl ?_
        obtain ⟨r376, er376, h⟩ := cp_e h
        refine g_callV0 C tb_L_law_17_ok (i := 29) [] rfl mw_X12_thrown mv_X12_thrown ml_L_114 k373 rfl rfl rfl rfl (w_X12_thrown C.G y12 (y4.2.2 + 1) M375) (pm_s er376) (bl (by omega)) (bl (by omega)) rfl ?_
        refine g_iload C tb_L_law_17_ok (i := 30) rfl rfl ?_
        obtain ⟨t377, f378⟩ := br_e h
        refine g_icmp_eq C tb_L_law_17_ok (i := 31) 1269 rfl rfl (fun c => ?_) (fun c => ?_)
        · have h := t377 c
          refine g_iload C tb_L_law_17_ok (i := 34) rfl rfl ?_
          obtain ⟨j379, ej379, h⟩ := jn_e h
          have J1286 : ∀ (_u : Unit), j379 _u = some out → GG g x 7 Q (kc + 1) (ks + 6) y12 M375 1286 [some (.ref 1999), some (.ref (y.2.2 + 1)), some (.ref (y4.2.2 + 1)), some (.ref (y9.2.2 + 1)), some (.int v14), none, none] [] := by
            intro _u h; subst ej379
            refine g_goto C tb_L_law_18_ok (i := 5) 2210 rfl rfl ?_
            refine g_widen (k2 := (kc + 42)) (s2 := (ks + 252)) (bl (by omega)) (bl (by omega)) ?_
            exact g_less (L' := [some (.ref 1999), some (.ref (y.2.2 + 1)), some (.ref (y4.2.2 + 1)), some (.ref (y9.2.2 + 1)), some (.int v14), none, none]) ⟨rfl, ⟨rfl, ⟨rfl, ⟨rfl, ⟨rfl, trivial⟩⟩⟩⟩⟩ (J2210 M375 h)
          obtain ⟨t380, f381⟩ := br_e h
          refine g_if_ne C tb_L_law_17_ok (i := 35) 1286 rfl rfl (fun c => ?_) (fun c => ?_)
          · have h := f381 c
            exact g_less (L' := [some (.ref 1999), some (.ref (y.2.2 + 1)), some (.ref (y4.2.2 + 1)), some (.ref (y9.2.2 + 1)), some (.int v14), none, none]) ⟨rfl, ⟨rfl, ⟨rfl, ⟨rfl, ⟨rfl, trivial⟩⟩⟩⟩⟩ (J1286 () h)
          · have h := t380 c
            refine g_aload_n C tb_L_law_17_ok (i := 36) rfl rfl ?_
            refine g_iconstv C tb_L_law_17_ok (i := 37) 0 rfl k_iconstv_0 ?_
            obtain ⟨b382, h⟩ := gA_e h
            refine g_lald C tb_L_law_17_ok (i := 38) rfl b382 ?_
            refine g_iload C tb_L_law_17_ok (i := 39) rfl rfl ?_
            refine g_i2l C tb_L_law_18_ok (i := 0) rfl ?_
            refine g_lcmp C tb_L_law_18_ok (i := 1) rfl ?_
            obtain ⟨t383, f384⟩ := br_e h
            refine g_if_eq C tb_L_law_18_ok (i := 2) 1286 rfl rfl (fun c => ?_) (fun c => ?_)
            · have h := t383 c
              exact g_less (L' := [some (.ref 1999), some (.ref (y.2.2 + 1)), some (.ref (y4.2.2 + 1)), some (.ref (y9.2.2 + 1)), some (.int v14), none, none]) ⟨rfl, ⟨rfl, ⟨rfl, ⟨rfl, ⟨rfl, trivial⟩⟩⟩⟩⟩ (J1286 () h)
            · have h := f384 c
              refine g_iconstv C tb_L_law_18_ok (i := 3) 0 rfl k_iconstv_0 ?_
              cases h
              exact absurd ho (by decide)
        · have h := f378 c
          refine g_iconstv C tb_L_law_17_ok (i := 32) 0 rfl k_iconstv_0 ?_
          cases h
          exact absurd ho (by decide)
      have h := f386 hs1019
      obtain ⟨t405, f406⟩ := br_e h
      by_cases hs1020 : ((xs v14.toNatClampNeg) &&& (63 : Int32)) = (20 : Int32)
      · have h := t405 hs1020
        refine g_tableIn C tb_L_law_0_ok (i := 24) 20 1289 1249 rfl hs1020 (by decide) rfl ?_
        refine g_aload_n C tb_L_law_18_ok (i := 6) rfl rfl ?_
        refine g_aload_n C tb_L_law_18_ok (i := 7) rfl rfl ?_
        refine g_iload C tb_L_law_18_ok (i := 8) rfl rfl ?_
        refine g_iconstv C tb_L_law_18_ok (i := 9) 1 rfl k_iconstv_1 ?_
        refine g_iadd C tb_L_law_18_ok (i := 10) rfl ?_
        obtain ⟨b387, h⟩ := gd_e h
        refine g_xald C tb_L_law_18_ok (i := 11) hsL hxs rfl b387 ?_
        refine g_aload_n C tb_L_law_18_ok (i := 12) rfl rfl ?_
        refine g_iload C tb_L_law_18_ok (i := 13) rfl rfl ?_
        refine g_iconstv C tb_L_law_18_ok (i := 14) 2 rfl k_iconstv_2 ?_
        refine g_iadd C tb_L_law_18_ok (i := 15) rfl ?_
        obtain ⟨b388, h⟩ := gd_e h
        refine g_xald C tb_L_law_18_ok (i := 16) hsL hxs rfl b388 ?_
        refine g_aload_n C tb_L_law_18_ok (i := 17) rfl rfl ?_
        obtain ⟨r389, M390, er389, h⟩ := c0_e h
        refine g_callSW C tb_L_law_18_ok (i := 18) [.ref (y.2.2 + 1), .int (xs (v14 + (1 : Int32)).toNatClampNeg), .int (xs (v14 + (2 : Int32)).toNatClampNeg), .ref (y9.2.2 + 1)] rfl mwh_L_way ml_L_179 rfl rfl rfl rfl (w_L_way C.G y12 (y.2.2 + 1) (xs (v14 + (1 : Int32)).toNatClampNeg) (xs (v14 + (2 : Int32)).toNatClampNeg) (y9.2.2 + 1) M15) er389 (bl (by omega)) (bl (by omega)) rfl ?_
        refine g_istore C tb_L_law_18_ok (i := 19) rfl rfl rfl ?_
        refine g_aload_n C tb_L_law_18_ok (i := 20) rfl rfl ?_
        refine g_aload_n C tb_L_law_18_ok (i := 21) rfl rfl ?_
        refine g_iload C tb_L_law_18_ok (i := 22) rfl rfl ?_
        refine g_iconstv C tb_L_law_18_ok (i := 23) 1 rfl k_iconstv_1 ?_
        refine g_iadd C tb_L_law_18_ok (i := 24) rfl ?_
        obtain ⟨b391, h⟩ := gd_e h
        refine g_xald C tb_L_law_18_ok (i := 25) hsL hxs rfl b391 ?_
        refine g_aload_n C tb_L_law_18_ok (i := 26) rfl rfl ?_
        refine g_iload C tb_L_law_18_ok (i := 27) rfl rfl ?_
        refine g_iconstv C tb_L_law_18_ok (i := 28) 2 rfl k_iconstv_2 ?_
        refine g_iadd C tb_L_law_18_ok (i := 29) rfl ?_
        obtain ⟨b392, h⟩ := gd_e h
        refine g_xald C tb_L_law_18_ok (i := 30) hsL hxs rfl b392 ?_
        obtain ⟨k393, h⟩ := gK_e h
        obtain ⟨r394, M395, er394, h⟩ := c0_e h
        refine g_callV0 C tb_L_law_18_ok (i := 31) [.int (xs (v14 + (1 : Int32)).toNatClampNeg), .int (xs (v14 + (2 : Int32)).toNatClampNeg)] rfl mw_X12_way mv_X12_way ml_L_181 k393 rfl rfl rfl rfl (w_X12_way C.G y12 (y4.2.2 + 1) (xs (v14 + (1 : Int32)).toNatClampNeg) (xs (v14 + (2 : Int32)).toNatClampNeg) M390) er394 (bl (by omega)) (bl (by omega)) rfl ?_
        refine g_istore C tb_L_law_18_ok (i := 32) rfl rfl rfl ?_
        refine g_aload_n C tb_L_law_18_ok (i := 33) rfl rfl ?_
        obtain ⟨r396, er396, h⟩ := cp_e h
        refine g_callV0 C tb_L_law_18_ok (i := 34) [] rfl mw_X12_thrown mv_X12_thrown ml_L_114 k393 rfl rfl rfl rfl (w_X12_thrown C.G y12 (y4.2.2 + 1) M395) (pm_s er396) (bl (by omega)) (bl (by omega)) rfl ?_
        refine g_iload C tb_L_law_18_ok (i := 35) rfl rfl ?_
        obtain ⟨t397, f398⟩ := br_e h
        refine g_icmp_eq C tb_L_law_18_ok (i := 36) 1337 rfl rfl (fun c => ?_) (fun c => ?_)
        · have h := t397 c
          refine g_iload C tb_L_law_18_ok (i := 39) rfl rfl ?_
          obtain ⟨j399, ej399, h⟩ := jn_e h
          have J1354 : ∀ (_u : Unit), j399 _u = some out → GG g x 7 Q (kc + 2) (ks + 12) y12 M395 1354 [some (.ref 1999), some (.ref (y.2.2 + 1)), some (.ref (y4.2.2 + 1)), some (.ref (y9.2.2 + 1)), some (.int v14), none, none] [] := by
            intro _u h; subst ej399
            refine g_goto C tb_L_law_19_ok (i := 10) 2210 rfl rfl ?_
            refine g_widen (k2 := (kc + 42)) (s2 := (ks + 252)) (bl (by omega)) (bl (by omega)) ?_
            exact g_less (L' := [some (.ref 1999), some (.ref (y.2.2 + 1)), some (.ref (y4.2.2 + 1)), some (.ref (y9.2.2 + 1)), some (.int v14), none, none]) ⟨rfl, ⟨rfl, ⟨rfl, ⟨rfl, ⟨rfl, trivial⟩⟩⟩⟩⟩ (J2210 M395 h)
          obtain ⟨t400, f401⟩ := br_e h
          refine g_if_ne C tb_L_law_19_ok (i := 0) 1354 rfl rfl (fun c => ?_) (fun c => ?_)
          · have h := f401 c
            exact g_less (L' := [some (.ref 1999), some (.ref (y.2.2 + 1)), some (.ref (y4.2.2 + 1)), some (.ref (y9.2.2 + 1)), some (.int v14), none, none]) ⟨rfl, ⟨rfl, ⟨rfl, ⟨rfl, ⟨rfl, trivial⟩⟩⟩⟩⟩ (J1354 () h)
          · have h := t400 c
            refine g_aload_n C tb_L_law_19_ok (i := 1) rfl rfl ?_
            refine g_iconstv C tb_L_law_19_ok (i := 2) 0 rfl k_iconstv_0 ?_
            obtain ⟨b402, h⟩ := gA_e h
            refine g_lald C tb_L_law_19_ok (i := 3) rfl b402 ?_
            refine g_iload C tb_L_law_19_ok (i := 4) rfl rfl ?_
            refine g_i2l C tb_L_law_19_ok (i := 5) rfl ?_
            refine g_lcmp C tb_L_law_19_ok (i := 6) rfl ?_
            obtain ⟨t403, f404⟩ := br_e h
            refine g_if_eq C tb_L_law_19_ok (i := 7) 1354 rfl rfl (fun c => ?_) (fun c => ?_)
            · have h := t403 c
              exact g_less (L' := [some (.ref 1999), some (.ref (y.2.2 + 1)), some (.ref (y4.2.2 + 1)), some (.ref (y9.2.2 + 1)), some (.int v14), none, none]) ⟨rfl, ⟨rfl, ⟨rfl, ⟨rfl, ⟨rfl, trivial⟩⟩⟩⟩⟩ (J1354 () h)
            · have h := f404 c
              refine g_iconstv C tb_L_law_19_ok (i := 8) 0 rfl k_iconstv_0 ?_
              cases h
              exact absurd ho (by decide)
        · have h := f398 c
          refine g_iconstv C tb_L_law_18_ok (i := 37) 0 rfl k_iconstv_0 ?_
          cases h
          exact absurd ho (by decide)
      have h := f406 hs1020
      obtain ⟨t415, f416⟩ := br_e h
      by_cases hs1021 : ((xs v14.toNatClampNeg) &&& (63 : Int32)) = (21 : Int32)
      · have h := t415 hs1021
        refine g_tableIn C tb_L_law_0_ok (i := 24) 21 1357 1317 rfl hs1021 (by decide) rfl ?_
        refine g_aload_n C tb_L_law_19_ok (i := 11) rfl rfl ?_
        obtain ⟨k407, h⟩ := gK_e h
        obtain ⟨r408, M409, er408, h⟩ := c0_e h
        refine g_callV0 C tb_L_law_19_ok (i := 12) [] rfl mw_X11_toRest mv_X11_toRest ml_L_182 k407 rfl rfl rfl rfl (w_X11_toRest C.G y12 (y.2.2 + 1) M15) er408 (bl (by omega)) (bl (by omega)) rfl ?_
        refine g_aload_n C tb_L_law_19_ok (i := 13) rfl rfl ?_
        obtain ⟨k410, h⟩ := gK_e h
        obtain ⟨r411, M412, er411, h⟩ := c0_e h
        refine g_callV0 C tb_L_law_19_ok (i := 14) [] rfl mw_X12_toRest mv_X12_toRest ml_L_185 k410 rfl rfl rfl rfl (w_X12_toRest C.G y12 (y4.2.2 + 1) M409) er411 (bl (by omega)) (bl (by omega)) rfl ?_
        obtain ⟨t413, f414⟩ := br_e h
        refine g_icmp_eq C tb_L_law_19_ok (i := 15) 2210 rfl rfl (fun c => ?_) (fun c => ?_)
        · have h := t413 c
          refine g_widen (k2 := (kc + 42)) (s2 := (ks + 252)) (bl (by omega)) (bl (by omega)) ?_
          exact g_less (L' := [some (.ref 1999), some (.ref (y.2.2 + 1)), some (.ref (y4.2.2 + 1)), some (.ref (y9.2.2 + 1)), some (.int v14), none, none]) ⟨rfl, ⟨rfl, ⟨rfl, ⟨rfl, ⟨rfl, trivial⟩⟩⟩⟩⟩ (J2210 M412 h)
        · have h := f414 c
          refine g_iconstv C tb_L_law_19_ok (i := 16) 0 rfl k_iconstv_0 ?_
          cases h
          exact absurd ho (by decide)
      have h := f416 hs1021
      obtain ⟨t435, f436⟩ := br_e h
      by_cases hs1022 : ((xs v14.toNatClampNeg) &&& (63 : Int32)) = (22 : Int32)
      · have h := t435 hs1022
        refine g_tableIn C tb_L_law_0_ok (i := 24) 22 1370 1330 rfl hs1022 (by decide) rfl ?_
        refine g_aload_n C tb_L_law_19_ok (i := 18) rfl rfl ?_
        refine g_aload_n C tb_L_law_19_ok (i := 19) rfl rfl ?_
        refine g_iload C tb_L_law_19_ok (i := 20) rfl rfl ?_
        refine g_iconstv C tb_L_law_19_ok (i := 21) 1 rfl k_iconstv_1 ?_
        refine g_iadd C tb_L_law_19_ok (i := 22) rfl ?_
        obtain ⟨b417, h⟩ := gd_e h
        refine g_xald C tb_L_law_19_ok (i := 23) hsL hxs rfl b417 ?_
        refine g_aload_n C tb_L_law_19_ok (i := 24) rfl rfl ?_
        refine g_iload C tb_L_law_19_ok (i := 25) rfl rfl ?_
        refine g_iconstv C tb_L_law_19_ok (i := 26) 2 rfl k_iconstv_2 ?_
        refine g_iadd C tb_L_law_19_ok (i := 27) rfl ?_
        obtain ⟨b418, h⟩ := gd_e h
        refine g_xald C tb_L_law_19_ok (i := 28) hsL hxs rfl b418 ?_
        refine g_aload_n C tb_L_law_19_ok (i := 29) rfl rfl ?_
        obtain ⟨r419, M420, er419, h⟩ := c0_e h
        refine g_callSW C tb_L_law_19_ok (i := 30) [.ref (y.2.2 + 1), .int (xs (v14 + (1 : Int32)).toNatClampNeg), .int (xs (v14 + (2 : Int32)).toNatClampNeg), .ref (y9.2.2 + 1)] rfl mwh_L_toStand ml_L_186 rfl rfl rfl rfl (w_L_toStand C.G y12 (y.2.2 + 1) (xs (v14 + (1 : Int32)).toNatClampNeg) (xs (v14 + (2 : Int32)).toNatClampNeg) (y9.2.2 + 1) M15) er419 (bl (by omega)) (bl (by omega)) rfl ?_
        refine g_istore C tb_L_law_19_ok (i := 31) rfl rfl rfl ?_
        refine g_aload_n C tb_L_law_19_ok (i := 32) rfl rfl ?_
        refine g_aload_n C tb_L_law_19_ok (i := 33) rfl rfl ?_
        refine g_iload C tb_L_law_19_ok (i := 34) rfl rfl ?_
        refine g_iconstv C tb_L_law_19_ok (i := 35) 1 rfl k_iconstv_1 ?_
        refine g_iadd C tb_L_law_19_ok (i := 36) rfl ?_
        obtain ⟨b421, h⟩ := gd_e h
        refine g_xald C tb_L_law_19_ok (i := 37) hsL hxs rfl b421 ?_
        refine g_aload_n C tb_L_law_19_ok (i := 38) rfl rfl ?_
        refine g_iload C tb_L_law_19_ok (i := 39) rfl rfl ?_
        refine g_iconstv C tb_L_law_20_ok (i := 0) 2 rfl k_iconstv_2 ?_
        refine g_iadd C tb_L_law_20_ok (i := 1) rfl ?_
        obtain ⟨b422, h⟩ := gd_e h
        refine g_xald C tb_L_law_20_ok (i := 2) hsL hxs rfl b422 ?_
        obtain ⟨k423, h⟩ := gK_e h
        obtain ⟨r424, M425, er424, h⟩ := c0_e h
        refine g_callV0 C tb_L_law_20_ok (i := 3) [.int (xs (v14 + (1 : Int32)).toNatClampNeg), .int (xs (v14 + (2 : Int32)).toNatClampNeg)] rfl mw_X12_toStand mv_X12_toStand ml_L_188 k423 rfl rfl rfl rfl (w_X12_toStand C.G y12 (y4.2.2 + 1) (xs (v14 + (1 : Int32)).toNatClampNeg) (xs (v14 + (2 : Int32)).toNatClampNeg) M420) er424 (bl (by omega)) (bl (by omega)) rfl ?_
        refine g_istore C tb_L_law_20_ok (i := 4) rfl rfl rfl ?_
        refine g_aload_n C tb_L_law_20_ok (i := 5) rfl rfl ?_
        obtain ⟨r426, er426, h⟩ := cp_e h
        refine g_callV0 C tb_L_law_20_ok (i := 6) [] rfl mw_X12_thrown mv_X12_thrown ml_L_114 k423 rfl rfl rfl rfl (w_X12_thrown C.G y12 (y4.2.2 + 1) M425) (pm_s er426) (bl (by omega)) (bl (by omega)) rfl ?_
        refine g_iload C tb_L_law_20_ok (i := 7) rfl rfl ?_
        obtain ⟨t427, f428⟩ := br_e h
        refine g_icmp_eq C tb_L_law_20_ok (i := 8) 1418 rfl rfl (fun c => ?_) (fun c => ?_)
        · have h := t427 c
          refine g_iload C tb_L_law_20_ok (i := 11) rfl rfl ?_
          obtain ⟨j429, ej429, h⟩ := jn_e h
          have J1435 : ∀ (_u : Unit), j429 _u = some out → GG g x 7 Q (kc + 2) (ks + 12) y12 M425 1435 [some (.ref 1999), some (.ref (y.2.2 + 1)), some (.ref (y4.2.2 + 1)), some (.ref (y9.2.2 + 1)), some (.int v14), none, none] [] := by
            intro _u h; subst ej429
            refine g_goto C tb_L_law_20_ok (i := 22) 2210 rfl rfl ?_
            refine g_widen (k2 := (kc + 42)) (s2 := (ks + 252)) (bl (by omega)) (bl (by omega)) ?_
            exact g_less (L' := [some (.ref 1999), some (.ref (y.2.2 + 1)), some (.ref (y4.2.2 + 1)), some (.ref (y9.2.2 + 1)), some (.int v14), none, none]) ⟨rfl, ⟨rfl, ⟨rfl, ⟨rfl, ⟨rfl, trivial⟩⟩⟩⟩⟩ (J2210 M425 h)
          obtain ⟨t430, f431⟩ := br_e h
          refine g_if_ne C tb_L_law_20_ok (i := 12) 1435 rfl rfl (fun c => ?_) (fun c => ?_)
          · have h := f431 c
            exact g_less (L' := [some (.ref 1999), some (.ref (y.2.2 + 1)), some (.ref (y4.2.2 + 1)), some (.ref (y9.2.2 + 1)), some (.int v14), none, none]) ⟨rfl, ⟨rfl, ⟨rfl, ⟨rfl, ⟨rfl, trivial⟩⟩⟩⟩⟩ (J1435 () h)
          · have h := t430 c
            refine g_aload_n C tb_L_law_20_ok (i := 13) rfl rfl ?_
            refine g_iconstv C tb_L_law_20_ok (i := 14) 0 rfl k_iconstv_0 ?_
            obtain ⟨b432, h⟩ := gA_e h
            refine g_lald C tb_L_law_20_ok (i := 15) rfl b432 ?_
            refine g_iload C tb_L_law_20_ok (i := 16) rfl rfl ?_
            refine g_i2l C tb_L_law_20_ok (i := 17) rfl ?_
            refine g_lcmp C tb_L_law_20_ok (i := 18) rfl ?_
            obtain ⟨t433, f434⟩ := br_e h
            refine g_if_eq C tb_L_law_20_ok (i := 19) 1435 rfl rfl (fun c => ?_) (fun c => ?_)
            · have h := t433 c
              exact g_less (L' := [some (.ref 1999), some (.ref (y.2.2 + 1)), some (.ref (y4.2.2 + 1)), some (.ref (y9.2.2 + 1)), some (.int v14), none, none]) ⟨rfl, ⟨rfl, ⟨rfl, ⟨rfl, ⟨rfl, trivial⟩⟩⟩⟩⟩ (J1435 () h)
            · have h := f434 c
              refine g_iconstv C tb_L_law_20_ok (i := 20) 0 rfl k_iconstv_0 ?_
              cases h
              exact absurd ho (by decide)
        · have h := f428 c
          refine g_iconstv C tb_L_law_20_ok (i := 9) 0 rfl k_iconstv_0 ?_
          cases h
          exact absurd ho (by decide)
      have h := f436 hs1022
      obtain ⟨t455, f456⟩ := br_e h
      by_cases hs1023 : ((xs v14.toNatClampNeg) &&& (63 : Int32)) = (23 : Int32)
      · have h := t455 hs1023
        refine g_tableIn C tb_L_law_0_ok (i := 24) 23 1438 1398 rfl hs1023 (by decide) rfl ?_
        refine g_aload_n C tb_L_law_20_ok (i := 23) rfl rfl ?_
        refine g_aload_n C tb_L_law_20_ok (i := 24) rfl rfl ?_
        refine g_iload C tb_L_law_20_ok (i := 25) rfl rfl ?_
        refine g_iconstv C tb_L_law_20_ok (i := 26) 1 rfl k_iconstv_1 ?_
        refine g_iadd C tb_L_law_20_ok (i := 27) rfl ?_
        obtain ⟨b437, h⟩ := gd_e h
        refine g_xald C tb_L_law_20_ok (i := 28) hsL hxs rfl b437 ?_
        refine g_aload_n C tb_L_law_20_ok (i := 29) rfl rfl ?_
        refine g_iload C tb_L_law_20_ok (i := 30) rfl rfl ?_
        refine g_iconstv C tb_L_law_20_ok (i := 31) 2 rfl k_iconstv_2 ?_
        refine g_iadd C tb_L_law_20_ok (i := 32) rfl ?_
        obtain ⟨b438, h⟩ := gd_e h
        refine g_xald C tb_L_law_20_ok (i := 33) hsL hxs rfl b438 ?_
        refine g_aload_n C tb_L_law_20_ok (i := 34) rfl rfl ?_
        obtain ⟨r439, M440, er439, h⟩ := c0_e h
        refine g_callSW C tb_L_law_20_ok (i := 35) [.ref (y.2.2 + 1), .int (xs (v14 + (1 : Int32)).toNatClampNeg), .int (xs (v14 + (2 : Int32)).toNatClampNeg), .ref (y9.2.2 + 1)] rfl mwh_L_toSwish ml_L_189 rfl rfl rfl rfl (w_L_toSwish C.G y12 (y.2.2 + 1) (xs (v14 + (1 : Int32)).toNatClampNeg) (xs (v14 + (2 : Int32)).toNatClampNeg) (y9.2.2 + 1) M15) er439 (bl (by omega)) (bl (by omega)) rfl ?_
        refine g_istore C tb_L_law_20_ok (i := 36) rfl rfl rfl ?_
        refine g_aload_n C tb_L_law_20_ok (i := 37) rfl rfl ?_
        refine g_aload_n C tb_L_law_20_ok (i := 38) rfl rfl ?_
        refine g_iload C tb_L_law_20_ok (i := 39) rfl rfl ?_
        refine g_iconstv C tb_L_law_21_ok (i := 0) 1 rfl k_iconstv_1 ?_
        refine g_iadd C tb_L_law_21_ok (i := 1) rfl ?_
        obtain ⟨b441, h⟩ := gd_e h
        refine g_xald C tb_L_law_21_ok (i := 2) hsL hxs rfl b441 ?_
        refine g_aload_n C tb_L_law_21_ok (i := 3) rfl rfl ?_
        refine g_iload C tb_L_law_21_ok (i := 4) rfl rfl ?_
        refine g_iconstv C tb_L_law_21_ok (i := 5) 2 rfl k_iconstv_2 ?_
        refine g_iadd C tb_L_law_21_ok (i := 6) rfl ?_
        obtain ⟨b442, h⟩ := gd_e h
        refine g_xald C tb_L_law_21_ok (i := 7) hsL hxs rfl b442 ?_
        obtain ⟨k443, h⟩ := gK_e h
        obtain ⟨r444, M445, er444, h⟩ := c0_e h
        refine g_callV0 C tb_L_law_21_ok (i := 8) [.int (xs (v14 + (1 : Int32)).toNatClampNeg), .int (xs (v14 + (2 : Int32)).toNatClampNeg)] rfl mw_X12_toSwish mv_X12_toSwish ml_L_191 k443 rfl rfl rfl rfl (w_X12_toSwish C.G y12 (y4.2.2 + 1) (xs (v14 + (1 : Int32)).toNatClampNeg) (xs (v14 + (2 : Int32)).toNatClampNeg) M440) er444 (bl (by omega)) (bl (by omega)) rfl ?_
        refine g_istore C tb_L_law_21_ok (i := 9) rfl rfl rfl ?_
        refine g_aload_n C tb_L_law_21_ok (i := 10) rfl rfl ?_
        obtain ⟨r446, er446, h⟩ := cp_e h
        refine g_callV0 C tb_L_law_21_ok (i := 11) [] rfl mw_X12_thrown mv_X12_thrown ml_L_114 k443 rfl rfl rfl rfl (w_X12_thrown C.G y12 (y4.2.2 + 1) M445) (pm_s er446) (bl (by omega)) (bl (by omega)) rfl ?_
        refine g_iload C tb_L_law_21_ok (i := 12) rfl rfl ?_
        obtain ⟨t447, f448⟩ := br_e h
        refine g_icmp_eq C tb_L_law_21_ok (i := 13) 1486 rfl rfl (fun c => ?_) (fun c => ?_)
        · have h := t447 c
          refine g_iload C tb_L_law_21_ok (i := 16) rfl rfl ?_
          obtain ⟨j449, ej449, h⟩ := jn_e h
          have J1503 : ∀ (_u : Unit), j449 _u = some out → GG g x 7 Q (kc + 2) (ks + 12) y12 M445 1503 [some (.ref 1999), some (.ref (y.2.2 + 1)), some (.ref (y4.2.2 + 1)), some (.ref (y9.2.2 + 1)), some (.int v14), none, none] [] := by
            intro _u h; subst ej449
            refine g_goto C tb_L_law_21_ok (i := 27) 2210 rfl rfl ?_
            refine g_widen (k2 := (kc + 42)) (s2 := (ks + 252)) (bl (by omega)) (bl (by omega)) ?_
            exact g_less (L' := [some (.ref 1999), some (.ref (y.2.2 + 1)), some (.ref (y4.2.2 + 1)), some (.ref (y9.2.2 + 1)), some (.int v14), none, none]) ⟨rfl, ⟨rfl, ⟨rfl, ⟨rfl, ⟨rfl, trivial⟩⟩⟩⟩⟩ (J2210 M445 h)
          obtain ⟨t450, f451⟩ := br_e h
          refine g_if_ne C tb_L_law_21_ok (i := 17) 1503 rfl rfl (fun c => ?_) (fun c => ?_)
          · have h := f451 c
            exact g_less (L' := [some (.ref 1999), some (.ref (y.2.2 + 1)), some (.ref (y4.2.2 + 1)), some (.ref (y9.2.2 + 1)), some (.int v14), none, none]) ⟨rfl, ⟨rfl, ⟨rfl, ⟨rfl, ⟨rfl, trivial⟩⟩⟩⟩⟩ (J1503 () h)
          · have h := t450 c
            refine g_aload_n C tb_L_law_21_ok (i := 18) rfl rfl ?_
            refine g_iconstv C tb_L_law_21_ok (i := 19) 0 rfl k_iconstv_0 ?_
            obtain ⟨b452, h⟩ := gA_e h
            refine g_lald C tb_L_law_21_ok (i := 20) rfl b452 ?_
            refine g_iload C tb_L_law_21_ok (i := 21) rfl rfl ?_
            refine g_i2l C tb_L_law_21_ok (i := 22) rfl ?_
            refine g_lcmp C tb_L_law_21_ok (i := 23) rfl ?_
            obtain ⟨t453, f454⟩ := br_e h
            refine g_if_eq C tb_L_law_21_ok (i := 24) 1503 rfl rfl (fun c => ?_) (fun c => ?_)
            · have h := t453 c
              exact g_less (L' := [some (.ref 1999), some (.ref (y.2.2 + 1)), some (.ref (y4.2.2 + 1)), some (.ref (y9.2.2 + 1)), some (.int v14), none, none]) ⟨rfl, ⟨rfl, ⟨rfl, ⟨rfl, ⟨rfl, trivial⟩⟩⟩⟩⟩ (J1503 () h)
            · have h := f454 c
              refine g_iconstv C tb_L_law_21_ok (i := 25) 0 rfl k_iconstv_0 ?_
              cases h
              exact absurd ho (by decide)
        · have h := f448 c
          refine g_iconstv C tb_L_law_21_ok (i := 14) 0 rfl k_iconstv_0 ?_
          cases h
          exact absurd ho (by decide)
      have h := f456 hs1023
      obtain ⟨t475, f476⟩ := br_e h
      by_cases hs1024 : ((xs v14.toNatClampNeg) &&& (63 : Int32)) = (24 : Int32)
      · have h := t475 hs1024
        refine g_tableIn C tb_L_law_0_ok (i := 24) 24 1506 1466 rfl hs1024 (by decide) rfl ?_
        refine g_aload_n C tb_L_law_21_ok (i := 28) rfl rfl ?_
        refine g_aload_n C tb_L_law_21_ok (i := 29) rfl rfl ?_
        refine g_iload C tb_L_law_21_ok (i := 30) rfl rfl ?_
        refine g_iconstv C tb_L_law_21_ok (i := 31) 1 rfl k_iconstv_1 ?_
        refine g_iadd C tb_L_law_21_ok (i := 32) rfl ?_
        obtain ⟨b457, h⟩ := gd_e h
        refine g_xald C tb_L_law_21_ok (i := 33) hsL hxs rfl b457 ?_
        refine g_aload_n C tb_L_law_21_ok (i := 34) rfl rfl ?_
        refine g_iload C tb_L_law_21_ok (i := 35) rfl rfl ?_
        refine g_iconstv C tb_L_law_21_ok (i := 36) 2 rfl k_iconstv_2 ?_
        refine g_iadd C tb_L_law_21_ok (i := 37) rfl ?_
        obtain ⟨b458, h⟩ := gd_e h
        refine g_xald C tb_L_law_21_ok (i := 38) hsL hxs rfl b458 ?_
        refine g_aload_n C tb_L_law_21_ok (i := 39) rfl rfl ?_
        obtain ⟨r459, M460, er459, h⟩ := c0_e h
        refine g_callSW C tb_L_law_22_ok (i := 0) [.ref (y.2.2 + 1), .int (xs (v14 + (1 : Int32)).toNatClampNeg), .int (xs (v14 + (2 : Int32)).toNatClampNeg), .ref (y9.2.2 + 1)] rfl mwh_L_sent ml_L_192 rfl rfl rfl rfl (w_L_sent C.G y12 (y.2.2 + 1) (xs (v14 + (1 : Int32)).toNatClampNeg) (xs (v14 + (2 : Int32)).toNatClampNeg) (y9.2.2 + 1) M15) er459 (bl (by omega)) (bl (by omega)) rfl ?_
        refine g_istore C tb_L_law_22_ok (i := 1) rfl rfl rfl ?_
        refine g_aload_n C tb_L_law_22_ok (i := 2) rfl rfl ?_
        refine g_aload_n C tb_L_law_22_ok (i := 3) rfl rfl ?_
        refine g_iload C tb_L_law_22_ok (i := 4) rfl rfl ?_
        refine g_iconstv C tb_L_law_22_ok (i := 5) 1 rfl k_iconstv_1 ?_
        refine g_iadd C tb_L_law_22_ok (i := 6) rfl ?_
        obtain ⟨b461, h⟩ := gd_e h
        refine g_xald C tb_L_law_22_ok (i := 7) hsL hxs rfl b461 ?_
        refine g_aload_n C tb_L_law_22_ok (i := 8) rfl rfl ?_
        refine g_iload C tb_L_law_22_ok (i := 9) rfl rfl ?_
        refine g_iconstv C tb_L_law_22_ok (i := 10) 2 rfl k_iconstv_2 ?_
        refine g_iadd C tb_L_law_22_ok (i := 11) rfl ?_
        obtain ⟨b462, h⟩ := gd_e h
        refine g_xald C tb_L_law_22_ok (i := 12) hsL hxs rfl b462 ?_
        obtain ⟨k463, h⟩ := gK_e h
        obtain ⟨r464, M465, er464, h⟩ := c0_e h
        refine g_callV0 C tb_L_law_22_ok (i := 13) [.int (xs (v14 + (1 : Int32)).toNatClampNeg), .int (xs (v14 + (2 : Int32)).toNatClampNeg)] rfl mw_X12_sent mv_X12_sent ml_L_194 k463 rfl rfl rfl rfl (w_X12_sent C.G y12 (y4.2.2 + 1) (xs (v14 + (1 : Int32)).toNatClampNeg) (xs (v14 + (2 : Int32)).toNatClampNeg) M460) er464 (bl (by omega)) (bl (by omega)) rfl ?_
        refine g_istore C tb_L_law_22_ok (i := 14) rfl rfl rfl ?_
        refine g_aload_n C tb_L_law_22_ok (i := 15) rfl rfl ?_
        obtain ⟨r466, er466, h⟩ := cp_e h
        refine g_callV0 C tb_L_law_22_ok (i := 16) [] rfl mw_X12_thrown mv_X12_thrown ml_L_114 k463 rfl rfl rfl rfl (w_X12_thrown C.G y12 (y4.2.2 + 1) M465) (pm_s er466) (bl (by omega)) (bl (by omega)) rfl ?_
        refine g_iload C tb_L_law_22_ok (i := 17) rfl rfl ?_
        obtain ⟨t467, f468⟩ := br_e h
        refine g_icmp_eq C tb_L_law_22_ok (i := 18) 1554 rfl rfl (fun c => ?_) (fun c => ?_)
        · have h := t467 c
          refine g_iload C tb_L_law_22_ok (i := 21) rfl rfl ?_
          obtain ⟨j469, ej469, h⟩ := jn_e h
          have J1571 : ∀ (_u : Unit), j469 _u = some out → GG g x 7 Q (kc + 2) (ks + 12) y12 M465 1571 [some (.ref 1999), some (.ref (y.2.2 + 1)), some (.ref (y4.2.2 + 1)), some (.ref (y9.2.2 + 1)), some (.int v14), none, none] [] := by
            intro _u h; subst ej469
            refine g_goto C tb_L_law_22_ok (i := 32) 2210 rfl rfl ?_
            refine g_widen (k2 := (kc + 42)) (s2 := (ks + 252)) (bl (by omega)) (bl (by omega)) ?_
            exact g_less (L' := [some (.ref 1999), some (.ref (y.2.2 + 1)), some (.ref (y4.2.2 + 1)), some (.ref (y9.2.2 + 1)), some (.int v14), none, none]) ⟨rfl, ⟨rfl, ⟨rfl, ⟨rfl, ⟨rfl, trivial⟩⟩⟩⟩⟩ (J2210 M465 h)
          obtain ⟨t470, f471⟩ := br_e h
          refine g_if_ne C tb_L_law_22_ok (i := 22) 1571 rfl rfl (fun c => ?_) (fun c => ?_)
          · have h := f471 c
            exact g_less (L' := [some (.ref 1999), some (.ref (y.2.2 + 1)), some (.ref (y4.2.2 + 1)), some (.ref (y9.2.2 + 1)), some (.int v14), none, none]) ⟨rfl, ⟨rfl, ⟨rfl, ⟨rfl, ⟨rfl, trivial⟩⟩⟩⟩⟩ (J1571 () h)
          · have h := t470 c
            refine g_aload_n C tb_L_law_22_ok (i := 23) rfl rfl ?_
            refine g_iconstv C tb_L_law_22_ok (i := 24) 0 rfl k_iconstv_0 ?_
            obtain ⟨b472, h⟩ := gA_e h
            refine g_lald C tb_L_law_22_ok (i := 25) rfl b472 ?_
            refine g_iload C tb_L_law_22_ok (i := 26) rfl rfl ?_
            refine g_i2l C tb_L_law_22_ok (i := 27) rfl ?_
            refine g_lcmp C tb_L_law_22_ok (i := 28) rfl ?_
            obtain ⟨t473, f474⟩ := br_e h
            refine g_if_eq C tb_L_law_22_ok (i := 29) 1571 rfl rfl (fun c => ?_) (fun c => ?_)
            · have h := t473 c
              exact g_less (L' := [some (.ref 1999), some (.ref (y.2.2 + 1)), some (.ref (y4.2.2 + 1)), some (.ref (y9.2.2 + 1)), some (.int v14), none, none]) ⟨rfl, ⟨rfl, ⟨rfl, ⟨rfl, ⟨rfl, trivial⟩⟩⟩⟩⟩ (J1571 () h)
            · have h := f474 c
              refine g_iconstv C tb_L_law_22_ok (i := 30) 0 rfl k_iconstv_0 ?_
              cases h
              exact absurd ho (by decide)
        · have h := f468 c
          refine g_iconstv C tb_L_law_22_ok (i := 19) 0 rfl k_iconstv_0 ?_
          cases h
          exact absurd ho (by decide)
      have h := f476 hs1024
      obtain ⟨t493, f494⟩ := br_e h
      by_cases hs1025 : ((xs v14.toNatClampNeg) &&& (63 : Int32)) = (25 : Int32)
      · have h := t493 hs1025
        refine g_tableIn C tb_L_law_0_ok (i := 24) 25 1574 1534 rfl hs1025 (by decide) rfl ?_
        refine g_aload_n C tb_L_law_22_ok (i := 33) rfl rfl ?_
        refine g_aload_n C tb_L_law_22_ok (i := 34) rfl rfl ?_
        refine g_iload C tb_L_law_22_ok (i := 35) rfl rfl ?_
        refine g_iconstv C tb_L_law_22_ok (i := 36) 1 rfl k_iconstv_1 ?_
        refine g_iadd C tb_L_law_22_ok (i := 37) rfl ?_
        obtain ⟨b477, h⟩ := gd_e h
        refine g_xald C tb_L_law_22_ok (i := 38) hsL hxs rfl b477 ?_
        refine g_aload_n C tb_L_law_22_ok (i := 39) rfl rfl ?_
        obtain ⟨r478, M479, er478, h⟩ := c0_e h
        refine g_callSW C tb_L_law_23_ok (i := 0) [.ref (y.2.2 + 1), .int (xs (v14 + (1 : Int32)).toNatClampNeg), .ref (y9.2.2 + 1)] rfl mwh_L_band ml_L_195 rfl rfl rfl rfl (w_L_band C.G y12 (y.2.2 + 1) (xs (v14 + (1 : Int32)).toNatClampNeg) (y9.2.2 + 1) M15) er478 (bl (by omega)) (bl (by omega)) rfl ?_
        refine g_istore C tb_L_law_23_ok (i := 1) rfl rfl rfl ?_
        refine g_aload_n C tb_L_law_23_ok (i := 2) rfl rfl ?_
        refine g_aload_n C tb_L_law_23_ok (i := 3) rfl rfl ?_
        refine g_iload C tb_L_law_23_ok (i := 4) rfl rfl ?_
        refine g_iconstv C tb_L_law_23_ok (i := 5) 1 rfl k_iconstv_1 ?_
        refine g_iadd C tb_L_law_23_ok (i := 6) rfl ?_
        obtain ⟨b480, h⟩ := gd_e h
        refine g_xald C tb_L_law_23_ok (i := 7) hsL hxs rfl b480 ?_
        obtain ⟨k481, h⟩ := gK_e h
        obtain ⟨r482, M483, er482, h⟩ := c0_e h
        refine g_callV0 C tb_L_law_23_ok (i := 8) [.int (xs (v14 + (1 : Int32)).toNatClampNeg)] rfl mw_X12_band mv_X12_band ml_L_197 k481 rfl rfl rfl rfl (w_X12_band C.G y12 (y4.2.2 + 1) (xs (v14 + (1 : Int32)).toNatClampNeg) M479) er482 (bl (by omega)) (bl (by omega)) rfl ?_
        refine g_istore C tb_L_law_23_ok (i := 9) rfl rfl rfl ?_
        refine g_aload_n C tb_L_law_23_ok (i := 10) rfl rfl ?_
        obtain ⟨r484, er484, h⟩ := cp_e h
        refine g_callV0 C tb_L_law_23_ok (i := 11) [] rfl mw_X12_thrown mv_X12_thrown ml_L_114 k481 rfl rfl rfl rfl (w_X12_thrown C.G y12 (y4.2.2 + 1) M483) (pm_s er484) (bl (by omega)) (bl (by omega)) rfl ?_
        refine g_iload C tb_L_law_23_ok (i := 12) rfl rfl ?_
        obtain ⟨t485, f486⟩ := br_e h
        refine g_icmp_eq C tb_L_law_23_ok (i := 13) 1610 rfl rfl (fun c => ?_) (fun c => ?_)
        · have h := t485 c
          refine g_iload C tb_L_law_23_ok (i := 16) rfl rfl ?_
          obtain ⟨j487, ej487, h⟩ := jn_e h
          have J1627 : ∀ (_u : Unit), j487 _u = some out → GG g x 7 Q (kc + 1) (ks + 6) y12 M483 1627 [some (.ref 1999), some (.ref (y.2.2 + 1)), some (.ref (y4.2.2 + 1)), some (.ref (y9.2.2 + 1)), some (.int v14), none, none] [] := by
            intro _u h; subst ej487
            refine g_goto C tb_L_law_23_ok (i := 27) 2210 rfl rfl ?_
            refine g_widen (k2 := (kc + 42)) (s2 := (ks + 252)) (bl (by omega)) (bl (by omega)) ?_
            exact g_less (L' := [some (.ref 1999), some (.ref (y.2.2 + 1)), some (.ref (y4.2.2 + 1)), some (.ref (y9.2.2 + 1)), some (.int v14), none, none]) ⟨rfl, ⟨rfl, ⟨rfl, ⟨rfl, ⟨rfl, trivial⟩⟩⟩⟩⟩ (J2210 M483 h)
          obtain ⟨t488, f489⟩ := br_e h
          refine g_if_ne C tb_L_law_23_ok (i := 17) 1627 rfl rfl (fun c => ?_) (fun c => ?_)
          · have h := f489 c
            exact g_less (L' := [some (.ref 1999), some (.ref (y.2.2 + 1)), some (.ref (y4.2.2 + 1)), some (.ref (y9.2.2 + 1)), some (.int v14), none, none]) ⟨rfl, ⟨rfl, ⟨rfl, ⟨rfl, ⟨rfl, trivial⟩⟩⟩⟩⟩ (J1627 () h)
          · have h := t488 c
            refine g_aload_n C tb_L_law_23_ok (i := 18) rfl rfl ?_
            refine g_iconstv C tb_L_law_23_ok (i := 19) 0 rfl k_iconstv_0 ?_
            obtain ⟨b490, h⟩ := gA_e h
            refine g_lald C tb_L_law_23_ok (i := 20) rfl b490 ?_
            refine g_iload C tb_L_law_23_ok (i := 21) rfl rfl ?_
            refine g_i2l C tb_L_law_23_ok (i := 22) rfl ?_
            refine g_lcmp C tb_L_law_23_ok (i := 23) rfl ?_
            obtain ⟨t491, f492⟩ := br_e h
            refine g_if_eq C tb_L_law_23_ok (i := 24) 1627 rfl rfl (fun c => ?_) (fun c => ?_)
            · have h := t491 c
              exact g_less (L' := [some (.ref 1999), some (.ref (y.2.2 + 1)), some (.ref (y4.2.2 + 1)), some (.ref (y9.2.2 + 1)), some (.int v14), none, none]) ⟨rfl, ⟨rfl, ⟨rfl, ⟨rfl, ⟨rfl, trivial⟩⟩⟩⟩⟩ (J1627 () h)
            · have h := f492 c
              refine g_iconstv C tb_L_law_23_ok (i := 25) 0 rfl k_iconstv_0 ?_
              cases h
              exact absurd ho (by decide)
        · have h := f486 c
          refine g_iconstv C tb_L_law_23_ok (i := 14) 0 rfl k_iconstv_0 ?_
          cases h
          exact absurd ho (by decide)
      have h := f494 hs1025
      obtain ⟨t503, f504⟩ := br_e h
      by_cases hs1026 : ((xs v14.toNatClampNeg) &&& (63 : Int32)) = (26 : Int32)
      · have h := t503 hs1026
        refine g_tableIn C tb_L_law_0_ok (i := 24) 26 1630 1590 rfl hs1026 (by decide) rfl ?_
        refine g_aload_n C tb_L_law_23_ok (i := 28) rfl rfl ?_
        obtain ⟨k495, h⟩ := gK_e h
        obtain ⟨r496, M497, er496, h⟩ := c0_e h
        refine g_callV0 C tb_L_law_23_ok (i := 29) [] rfl mw_X11_steady mv_X11_steady ml_L_198 k495 rfl rfl rfl rfl (w_X11_steady C.G y12 (y.2.2 + 1) M15) er496 (bl (by omega)) (bl (by omega)) rfl ?_
        refine g_aload_n C tb_L_law_23_ok (i := 30) rfl rfl ?_
        obtain ⟨k498, h⟩ := gK_e h
        obtain ⟨r499, M500, er499, h⟩ := c0_e h
        refine g_callV0 C tb_L_law_23_ok (i := 31) [] rfl mw_X12_steady mv_X12_steady ml_L_201 k498 rfl rfl rfl rfl (w_X12_steady C.G y12 (y4.2.2 + 1) M497) er499 (bl (by omega)) (bl (by omega)) rfl ?_
        obtain ⟨t501, f502⟩ := br_e h
        refine g_icmp_eq C tb_L_law_23_ok (i := 32) 2210 rfl rfl (fun c => ?_) (fun c => ?_)
        · have h := t501 c
          refine g_widen (k2 := (kc + 42)) (s2 := (ks + 252)) (bl (by omega)) (bl (by omega)) ?_
          exact g_less (L' := [some (.ref 1999), some (.ref (y.2.2 + 1)), some (.ref (y4.2.2 + 1)), some (.ref (y9.2.2 + 1)), some (.int v14), none, none]) ⟨rfl, ⟨rfl, ⟨rfl, ⟨rfl, ⟨rfl, trivial⟩⟩⟩⟩⟩ (J2210 M500 h)
        · have h := f502 c
          refine g_iconstv C tb_L_law_23_ok (i := 33) 0 rfl k_iconstv_0 ?_
          cases h
          exact absurd ho (by decide)
      have h := f504 hs1026
      obtain ⟨t523, f524⟩ := br_e h
      by_cases hs1027 : ((xs v14.toNatClampNeg) &&& (63 : Int32)) = (27 : Int32)
      · have h := t523 hs1027
        refine g_tableIn C tb_L_law_0_ok (i := 24) 27 1643 1603 rfl hs1027 (by decide) rfl ?_
        refine g_aload_n C tb_L_law_23_ok (i := 35) rfl rfl ?_
        refine g_aload_n C tb_L_law_23_ok (i := 36) rfl rfl ?_
        refine g_iload C tb_L_law_23_ok (i := 37) rfl rfl ?_
        refine g_iconstv C tb_L_law_23_ok (i := 38) 1 rfl k_iconstv_1 ?_
        refine g_iadd C tb_L_law_23_ok (i := 39) rfl ?_
        obtain ⟨b505, h⟩ := gd_e h
        refine g_xald C tb_L_law_24_ok (i := 0) hsL hxs rfl b505 ?_
        refine g_aload_n C tb_L_law_24_ok (i := 1) rfl rfl ?_
        refine g_iload C tb_L_law_24_ok (i := 2) rfl rfl ?_
        refine g_iconstv C tb_L_law_24_ok (i := 3) 2 rfl k_iconstv_2 ?_
        refine g_iadd C tb_L_law_24_ok (i := 4) rfl ?_
        obtain ⟨b506, h⟩ := gd_e h
        refine g_xald C tb_L_law_24_ok (i := 5) hsL hxs rfl b506 ?_
        refine g_aload_n C tb_L_law_24_ok (i := 6) rfl rfl ?_
        obtain ⟨r507, M508, er507, h⟩ := c0_e h
        refine g_callSW C tb_L_law_24_ok (i := 7) [.ref (y.2.2 + 1), .int (xs (v14 + (1 : Int32)).toNatClampNeg), .int (xs (v14 + (2 : Int32)).toNatClampNeg), .ref (y9.2.2 + 1)] rfl mwh_L_steps ml_L_202 rfl rfl rfl rfl (w_L_steps C.G y12 (y.2.2 + 1) (xs (v14 + (1 : Int32)).toNatClampNeg) (xs (v14 + (2 : Int32)).toNatClampNeg) (y9.2.2 + 1) M15) er507 (bl (by omega)) (bl (by omega)) rfl ?_
        refine g_istore C tb_L_law_24_ok (i := 8) rfl rfl rfl ?_
        refine g_aload_n C tb_L_law_24_ok (i := 9) rfl rfl ?_
        refine g_aload_n C tb_L_law_24_ok (i := 10) rfl rfl ?_
        refine g_iload C tb_L_law_24_ok (i := 11) rfl rfl ?_
        refine g_iconstv C tb_L_law_24_ok (i := 12) 1 rfl k_iconstv_1 ?_
        refine g_iadd C tb_L_law_24_ok (i := 13) rfl ?_
        obtain ⟨b509, h⟩ := gd_e h
        refine g_xald C tb_L_law_24_ok (i := 14) hsL hxs rfl b509 ?_
        refine g_aload_n C tb_L_law_24_ok (i := 15) rfl rfl ?_
        refine g_iload C tb_L_law_24_ok (i := 16) rfl rfl ?_
        refine g_iconstv C tb_L_law_24_ok (i := 17) 2 rfl k_iconstv_2 ?_
        refine g_iadd C tb_L_law_24_ok (i := 18) rfl ?_
        obtain ⟨b510, h⟩ := gd_e h
        refine g_xald C tb_L_law_24_ok (i := 19) hsL hxs rfl b510 ?_
        obtain ⟨k511, h⟩ := gK_e h
        obtain ⟨r512, M513, er512, h⟩ := c0_e h
        refine g_callV0 C tb_L_law_24_ok (i := 20) [.int (xs (v14 + (1 : Int32)).toNatClampNeg), .int (xs (v14 + (2 : Int32)).toNatClampNeg)] rfl mw_X12_steps mv_X12_steps ml_L_204 k511 rfl rfl rfl rfl (w_X12_steps C.G y12 (y4.2.2 + 1) (xs (v14 + (1 : Int32)).toNatClampNeg) (xs (v14 + (2 : Int32)).toNatClampNeg) M508) er512 (bl (by omega)) (bl (by omega)) rfl ?_
        refine g_istore C tb_L_law_24_ok (i := 21) rfl rfl rfl ?_
        refine g_aload_n C tb_L_law_24_ok (i := 22) rfl rfl ?_
        obtain ⟨r514, er514, h⟩ := cp_e h
        refine g_callV0 C tb_L_law_24_ok (i := 23) [] rfl mw_X12_thrown mv_X12_thrown ml_L_114 k511 rfl rfl rfl rfl (w_X12_thrown C.G y12 (y4.2.2 + 1) M513) (pm_s er514) (bl (by omega)) (bl (by omega)) rfl ?_
        refine g_iload C tb_L_law_24_ok (i := 24) rfl rfl ?_
        obtain ⟨t515, f516⟩ := br_e h
        refine g_icmp_eq C tb_L_law_24_ok (i := 25) 1691 rfl rfl (fun c => ?_) (fun c => ?_)
        · have h := t515 c
          refine g_iload C tb_L_law_24_ok (i := 28) rfl rfl ?_
          obtain ⟨j517, ej517, h⟩ := jn_e h
          have J1708 : ∀ (_u : Unit), j517 _u = some out → GG g x 7 Q (kc + 2) (ks + 12) y12 M513 1708 [some (.ref 1999), some (.ref (y.2.2 + 1)), some (.ref (y4.2.2 + 1)), some (.ref (y9.2.2 + 1)), some (.int v14), none, none] [] := by
            intro _u h; subst ej517
            refine g_goto C tb_L_law_24_ok (i := 39) 2210 rfl rfl ?_
            refine g_widen (k2 := (kc + 42)) (s2 := (ks + 252)) (bl (by omega)) (bl (by omega)) ?_
            exact g_less (L' := [some (.ref 1999), some (.ref (y.2.2 + 1)), some (.ref (y4.2.2 + 1)), some (.ref (y9.2.2 + 1)), some (.int v14), none, none]) ⟨rfl, ⟨rfl, ⟨rfl, ⟨rfl, ⟨rfl, trivial⟩⟩⟩⟩⟩ (J2210 M513 h)
          obtain ⟨t518, f519⟩ := br_e h
          refine g_if_ne C tb_L_law_24_ok (i := 29) 1708 rfl rfl (fun c => ?_) (fun c => ?_)
          · have h := f519 c
            exact g_less (L' := [some (.ref 1999), some (.ref (y.2.2 + 1)), some (.ref (y4.2.2 + 1)), some (.ref (y9.2.2 + 1)), some (.int v14), none, none]) ⟨rfl, ⟨rfl, ⟨rfl, ⟨rfl, ⟨rfl, trivial⟩⟩⟩⟩⟩ (J1708 () h)
          · have h := t518 c
            refine g_aload_n C tb_L_law_24_ok (i := 30) rfl rfl ?_
            refine g_iconstv C tb_L_law_24_ok (i := 31) 0 rfl k_iconstv_0 ?_
            obtain ⟨b520, h⟩ := gA_e h
            refine g_lald C tb_L_law_24_ok (i := 32) rfl b520 ?_
            refine g_iload C tb_L_law_24_ok (i := 33) rfl rfl ?_
            refine g_i2l C tb_L_law_24_ok (i := 34) rfl ?_
            refine g_lcmp C tb_L_law_24_ok (i := 35) rfl ?_
            obtain ⟨t521, f522⟩ := br_e h
            refine g_if_eq C tb_L_law_24_ok (i := 36) 1708 rfl rfl (fun c => ?_) (fun c => ?_)
            · have h := t521 c
              exact g_less (L' := [some (.ref 1999), some (.ref (y.2.2 + 1)), some (.ref (y4.2.2 + 1)), some (.ref (y9.2.2 + 1)), some (.int v14), none, none]) ⟨rfl, ⟨rfl, ⟨rfl, ⟨rfl, ⟨rfl, trivial⟩⟩⟩⟩⟩ (J1708 () h)
            · have h := f522 c
              refine g_iconstv C tb_L_law_24_ok (i := 37) 0 rfl k_iconstv_0 ?_
              cases h
              exact absurd ho (by decide)
        · have h := f516 c
          refine g_iconstv C tb_L_law_24_ok (i := 26) 0 rfl k_iconstv_0 ?_
          cases h
          exact absurd ho (by decide)
      have h := f524 hs1027
      obtain ⟨t541, f542⟩ := br_e h
      by_cases hs1028 : ((xs v14.toNatClampNeg) &&& (63 : Int32)) = (28 : Int32)
      · have h := t541 hs1028
        refine g_tableIn C tb_L_law_0_ok (i := 24) 28 1711 1671 rfl hs1028 (by decide) rfl ?_
        refine g_aload_n C tb_L_law_25_ok (i := 0) rfl rfl ?_
        refine g_aload_n C tb_L_law_25_ok (i := 1) rfl rfl ?_
        refine g_iload C tb_L_law_25_ok (i := 2) rfl rfl ?_
        refine g_iconstv C tb_L_law_25_ok (i := 3) 1 rfl k_iconstv_1 ?_
        refine g_iadd C tb_L_law_25_ok (i := 4) rfl ?_
        obtain ⟨b525, h⟩ := gd_e h
        refine g_xald C tb_L_law_25_ok (i := 5) hsL hxs rfl b525 ?_
        refine g_aload_n C tb_L_law_25_ok (i := 6) rfl rfl ?_
        obtain ⟨r526, M527, er526, h⟩ := c0_e h
        refine g_callSW C tb_L_law_25_ok (i := 7) [.ref (y.2.2 + 1), .int (xs (v14 + (1 : Int32)).toNatClampNeg), .ref (y9.2.2 + 1)] rfl mwh_L_nearest ml_L_205 rfl rfl rfl rfl (w_L_nearest C.G y12 (y.2.2 + 1) (xs (v14 + (1 : Int32)).toNatClampNeg) (y9.2.2 + 1) M15) er526 (bl (by omega)) (bl (by omega)) rfl ?_
        refine g_istore C tb_L_law_25_ok (i := 8) rfl rfl rfl ?_
        refine g_aload_n C tb_L_law_25_ok (i := 9) rfl rfl ?_
        refine g_aload_n C tb_L_law_25_ok (i := 10) rfl rfl ?_
        refine g_iload C tb_L_law_25_ok (i := 11) rfl rfl ?_
        refine g_iconstv C tb_L_law_25_ok (i := 12) 1 rfl k_iconstv_1 ?_
        refine g_iadd C tb_L_law_25_ok (i := 13) rfl ?_
        obtain ⟨b528, h⟩ := gd_e h
        refine g_xald C tb_L_law_25_ok (i := 14) hsL hxs rfl b528 ?_
        obtain ⟨k529, h⟩ := gK_e h
        obtain ⟨r530, M531, er530, h⟩ := c0_e h
        refine g_callV0 C tb_L_law_25_ok (i := 15) [.int (xs (v14 + (1 : Int32)).toNatClampNeg)] rfl mw_X12_nearest mv_X12_nearest ml_L_207 k529 rfl rfl rfl rfl (w_X12_nearest C.G y12 (y4.2.2 + 1) (xs (v14 + (1 : Int32)).toNatClampNeg) M527) er530 (bl (by omega)) (bl (by omega)) rfl ?_
        refine g_istore C tb_L_law_25_ok (i := 16) rfl rfl rfl ?_
        refine g_aload_n C tb_L_law_25_ok (i := 17) rfl rfl ?_
        obtain ⟨r532, er532, h⟩ := cp_e h
        refine g_callV0 C tb_L_law_25_ok (i := 18) [] rfl mw_X12_thrown mv_X12_thrown ml_L_114 k529 rfl rfl rfl rfl (w_X12_thrown C.G y12 (y4.2.2 + 1) M531) (pm_s er532) (bl (by omega)) (bl (by omega)) rfl ?_
        refine g_iload C tb_L_law_25_ok (i := 19) rfl rfl ?_
        obtain ⟨t533, f534⟩ := br_e h
        refine g_icmp_eq C tb_L_law_25_ok (i := 20) 1747 rfl rfl (fun c => ?_) (fun c => ?_)
        · have h := t533 c
          refine g_iload C tb_L_law_25_ok (i := 23) rfl rfl ?_
          obtain ⟨j535, ej535, h⟩ := jn_e h
          have J1764 : ∀ (_u : Unit), j535 _u = some out → GG g x 7 Q (kc + 1) (ks + 6) y12 M531 1764 [some (.ref 1999), some (.ref (y.2.2 + 1)), some (.ref (y4.2.2 + 1)), some (.ref (y9.2.2 + 1)), some (.int v14), none, none] [] := by
            intro _u h; subst ej535
            refine g_goto C tb_L_law_25_ok (i := 34) 2210 rfl rfl ?_
            refine g_widen (k2 := (kc + 42)) (s2 := (ks + 252)) (bl (by omega)) (bl (by omega)) ?_
            exact g_less (L' := [some (.ref 1999), some (.ref (y.2.2 + 1)), some (.ref (y4.2.2 + 1)), some (.ref (y9.2.2 + 1)), some (.int v14), none, none]) ⟨rfl, ⟨rfl, ⟨rfl, ⟨rfl, ⟨rfl, trivial⟩⟩⟩⟩⟩ (J2210 M531 h)
          obtain ⟨t536, f537⟩ := br_e h
          refine g_if_ne C tb_L_law_25_ok (i := 24) 1764 rfl rfl (fun c => ?_) (fun c => ?_)
          · have h := f537 c
            exact g_less (L' := [some (.ref 1999), some (.ref (y.2.2 + 1)), some (.ref (y4.2.2 + 1)), some (.ref (y9.2.2 + 1)), some (.int v14), none, none]) ⟨rfl, ⟨rfl, ⟨rfl, ⟨rfl, ⟨rfl, trivial⟩⟩⟩⟩⟩ (J1764 () h)
          · have h := t536 c
            refine g_aload_n C tb_L_law_25_ok (i := 25) rfl rfl ?_
            refine g_iconstv C tb_L_law_25_ok (i := 26) 0 rfl k_iconstv_0 ?_
            obtain ⟨b538, h⟩ := gA_e h
            refine g_lald C tb_L_law_25_ok (i := 27) rfl b538 ?_
            refine g_iload C tb_L_law_25_ok (i := 28) rfl rfl ?_
            refine g_i2l C tb_L_law_25_ok (i := 29) rfl ?_
            refine g_lcmp C tb_L_law_25_ok (i := 30) rfl ?_
            obtain ⟨t539, f540⟩ := br_e h
            refine g_if_eq C tb_L_law_25_ok (i := 31) 1764 rfl rfl (fun c => ?_) (fun c => ?_)
            · have h := t539 c
              exact g_less (L' := [some (.ref 1999), some (.ref (y.2.2 + 1)), some (.ref (y4.2.2 + 1)), some (.ref (y9.2.2 + 1)), some (.int v14), none, none]) ⟨rfl, ⟨rfl, ⟨rfl, ⟨rfl, ⟨rfl, trivial⟩⟩⟩⟩⟩ (J1764 () h)
            · have h := f540 c
              refine g_iconstv C tb_L_law_25_ok (i := 32) 0 rfl k_iconstv_0 ?_
              cases h
              exact absurd ho (by decide)
        · have h := f534 c
          refine g_iconstv C tb_L_law_25_ok (i := 21) 0 rfl k_iconstv_0 ?_
          cases h
          exact absurd ho (by decide)
      have h := f542 hs1028
      obtain ⟨t559, f560⟩ := br_e h
      by_cases hs1029 : ((xs v14.toNatClampNeg) &&& (63 : Int32)) = (29 : Int32)
      · have h := t559 hs1029
        refine g_tableIn C tb_L_law_0_ok (i := 24) 29 1767 1727 rfl hs1029 (by decide) rfl ?_
        refine g_aload_n C tb_L_law_25_ok (i := 35) rfl rfl ?_
        refine g_aload_n C tb_L_law_25_ok (i := 36) rfl rfl ?_
        refine g_iload C tb_L_law_25_ok (i := 37) rfl rfl ?_
        refine g_iconstv C tb_L_law_25_ok (i := 38) 1 rfl k_iconstv_1 ?_
        refine g_iadd C tb_L_law_25_ok (i := 39) rfl ?_
        obtain ⟨b543, h⟩ := gd_e h
        refine g_xald C tb_L_law_26_ok (i := 0) hsL hxs rfl b543 ?_
        refine g_aload_n C tb_L_law_26_ok (i := 1) rfl rfl ?_
        obtain ⟨r544, M545, er544, h⟩ := c0_e h
        refine g_callSW C tb_L_law_26_ok (i := 2) [.ref (y.2.2 + 1), .int (xs (v14 + (1 : Int32)).toNatClampNeg), .ref (y9.2.2 + 1)] rfl mwh_L_missed ml_L_208 rfl rfl rfl rfl (w_L_missed C.G y12 (y.2.2 + 1) (xs (v14 + (1 : Int32)).toNatClampNeg) (y9.2.2 + 1) M15) er544 (bl (by omega)) (bl (by omega)) rfl ?_
        refine g_istore C tb_L_law_26_ok (i := 3) rfl rfl rfl ?_
        refine g_aload_n C tb_L_law_26_ok (i := 4) rfl rfl ?_
        refine g_aload_n C tb_L_law_26_ok (i := 5) rfl rfl ?_
        refine g_iload C tb_L_law_26_ok (i := 6) rfl rfl ?_
        refine g_iconstv C tb_L_law_26_ok (i := 7) 1 rfl k_iconstv_1 ?_
        refine g_iadd C tb_L_law_26_ok (i := 8) rfl ?_
        obtain ⟨b546, h⟩ := gd_e h
        refine g_xald C tb_L_law_26_ok (i := 9) hsL hxs rfl b546 ?_
        obtain ⟨k547, h⟩ := gK_e h
        obtain ⟨r548, M549, er548, h⟩ := c0_e h
        refine g_callV0 C tb_L_law_26_ok (i := 10) [.int (xs (v14 + (1 : Int32)).toNatClampNeg)] rfl mw_X12_missed mv_X12_missed ml_L_210 k547 rfl rfl rfl rfl (w_X12_missed C.G y12 (y4.2.2 + 1) (xs (v14 + (1 : Int32)).toNatClampNeg) M545) er548 (bl (by omega)) (bl (by omega)) rfl ?_
        refine g_istore C tb_L_law_26_ok (i := 11) rfl rfl rfl ?_
        refine g_aload_n C tb_L_law_26_ok (i := 12) rfl rfl ?_
        obtain ⟨r550, er550, h⟩ := cp_e h
        refine g_callV0 C tb_L_law_26_ok (i := 13) [] rfl mw_X12_thrown mv_X12_thrown ml_L_114 k547 rfl rfl rfl rfl (w_X12_thrown C.G y12 (y4.2.2 + 1) M549) (pm_s er550) (bl (by omega)) (bl (by omega)) rfl ?_
        refine g_iload C tb_L_law_26_ok (i := 14) rfl rfl ?_
        obtain ⟨t551, f552⟩ := br_e h
        refine g_icmp_eq C tb_L_law_26_ok (i := 15) 1803 rfl rfl (fun c => ?_) (fun c => ?_)
        · have h := t551 c
          refine g_iload C tb_L_law_26_ok (i := 18) rfl rfl ?_
          obtain ⟨j553, ej553, h⟩ := jn_e h
          have J1820 : ∀ (_u : Unit), j553 _u = some out → GG g x 7 Q (kc + 1) (ks + 6) y12 M549 1820 [some (.ref 1999), some (.ref (y.2.2 + 1)), some (.ref (y4.2.2 + 1)), some (.ref (y9.2.2 + 1)), some (.int v14), none, none] [] := by
            intro _u h; subst ej553
            refine g_goto C tb_L_law_26_ok (i := 29) 2210 rfl rfl ?_
            refine g_widen (k2 := (kc + 42)) (s2 := (ks + 252)) (bl (by omega)) (bl (by omega)) ?_
            exact g_less (L' := [some (.ref 1999), some (.ref (y.2.2 + 1)), some (.ref (y4.2.2 + 1)), some (.ref (y9.2.2 + 1)), some (.int v14), none, none]) ⟨rfl, ⟨rfl, ⟨rfl, ⟨rfl, ⟨rfl, trivial⟩⟩⟩⟩⟩ (J2210 M549 h)
          obtain ⟨t554, f555⟩ := br_e h
          refine g_if_ne C tb_L_law_26_ok (i := 19) 1820 rfl rfl (fun c => ?_) (fun c => ?_)
          · have h := f555 c
            exact g_less (L' := [some (.ref 1999), some (.ref (y.2.2 + 1)), some (.ref (y4.2.2 + 1)), some (.ref (y9.2.2 + 1)), some (.int v14), none, none]) ⟨rfl, ⟨rfl, ⟨rfl, ⟨rfl, ⟨rfl, trivial⟩⟩⟩⟩⟩ (J1820 () h)
          · have h := t554 c
            refine g_aload_n C tb_L_law_26_ok (i := 20) rfl rfl ?_
            refine g_iconstv C tb_L_law_26_ok (i := 21) 0 rfl k_iconstv_0 ?_
            obtain ⟨b556, h⟩ := gA_e h
            refine g_lald C tb_L_law_26_ok (i := 22) rfl b556 ?_
            refine g_iload C tb_L_law_26_ok (i := 23) rfl rfl ?_
            refine g_i2l C tb_L_law_26_ok (i := 24) rfl ?_
            refine g_lcmp C tb_L_law_26_ok (i := 25) rfl ?_
            obtain ⟨t557, f558⟩ := br_e h
            refine g_if_eq C tb_L_law_26_ok (i := 26) 1820 rfl rfl (fun c => ?_) (fun c => ?_)
            · have h := t557 c
              exact g_less (L' := [some (.ref 1999), some (.ref (y.2.2 + 1)), some (.ref (y4.2.2 + 1)), some (.ref (y9.2.2 + 1)), some (.int v14), none, none]) ⟨rfl, ⟨rfl, ⟨rfl, ⟨rfl, ⟨rfl, trivial⟩⟩⟩⟩⟩ (J1820 () h)
            · have h := f558 c
              refine g_iconstv C tb_L_law_26_ok (i := 27) 0 rfl k_iconstv_0 ?_
              cases h
              exact absurd ho (by decide)
        · have h := f552 c
          refine g_iconstv C tb_L_law_26_ok (i := 16) 0 rfl k_iconstv_0 ?_
          cases h
          exact absurd ho (by decide)
      have h := f560 hs1029
      obtain ⟨t581, f582⟩ := br_e h
      by_cases hs1030 : ((xs v14.toNatClampNeg) &&& (63 : Int32)) = (30 : Int32)
      · have h := t581 hs1030
        refine g_tableIn C tb_L_law_0_ok (i := 24) 30 1823 1783 rfl hs1030 (by decide) rfl ?_
        refine g_aload_n C tb_L_law_26_ok (i := 30) rfl rfl ?_
        refine g_aload_n C tb_L_law_26_ok (i := 31) rfl rfl ?_
        refine g_iload C tb_L_law_26_ok (i := 32) rfl rfl ?_
        refine g_iconstv C tb_L_law_26_ok (i := 33) 1 rfl k_iconstv_1 ?_
        refine g_iadd C tb_L_law_26_ok (i := 34) rfl ?_
        obtain ⟨b561, h⟩ := gd_e h
        refine g_xald C tb_L_law_26_ok (i := 35) hsL hxs rfl b561 ?_
        refine g_aload_n C tb_L_law_26_ok (i := 36) rfl rfl ?_
        refine g_iload C tb_L_law_26_ok (i := 37) rfl rfl ?_
        refine g_iconstv C tb_L_law_26_ok (i := 38) 2 rfl k_iconstv_2 ?_
        refine g_iadd C tb_L_law_26_ok (i := 39) rfl ?_
        obtain ⟨b562, h⟩ := gd_e h
        refine g_xald C tb_L_law_27_ok (i := 0) hsL hxs rfl b562 ?_
        refine g_aload_n C tb_L_law_27_ok (i := 1) rfl rfl ?_
        refine g_iload C tb_L_law_27_ok (i := 2) rfl rfl ?_
        refine g_iconstv C tb_L_law_27_ok (i := 3) 3 rfl k_iconstv_3 ?_
        refine g_iadd C tb_L_law_27_ok (i := 4) rfl ?_
        obtain ⟨b563, h⟩ := gd_e h
        refine g_xald C tb_L_law_27_ok (i := 5) hsL hxs rfl b563 ?_
        refine g_aload_n C tb_L_law_27_ok (i := 6) rfl rfl ?_
        obtain ⟨r564, M565, er564, h⟩ := c0_e h
        refine g_callSW C tb_L_law_27_ok (i := 7) [.ref (y.2.2 + 1), .int (xs (v14 + (1 : Int32)).toNatClampNeg), .int (xs (v14 + (2 : Int32)).toNatClampNeg), .int (xs (v14 + (3 : Int32)).toNatClampNeg), .ref (y9.2.2 + 1)] rfl mwh_L_see ml_L_211 rfl rfl rfl rfl (w_L_see C.G y12 (y.2.2 + 1) (xs (v14 + (1 : Int32)).toNatClampNeg) (xs (v14 + (2 : Int32)).toNatClampNeg) (xs (v14 + (3 : Int32)).toNatClampNeg) (y9.2.2 + 1) M15) er564 (bl (by omega)) (bl (by omega)) rfl ?_
        refine g_istore C tb_L_law_27_ok (i := 8) rfl rfl rfl ?_
        refine g_aload_n C tb_L_law_27_ok (i := 9) rfl rfl ?_
        refine g_aload_n C tb_L_law_27_ok (i := 10) rfl rfl ?_
        refine g_iload C tb_L_law_27_ok (i := 11) rfl rfl ?_
        refine g_iconstv C tb_L_law_27_ok (i := 12) 1 rfl k_iconstv_1 ?_
        refine g_iadd C tb_L_law_27_ok (i := 13) rfl ?_
        obtain ⟨b566, h⟩ := gd_e h
        refine g_xald C tb_L_law_27_ok (i := 14) hsL hxs rfl b566 ?_
        refine g_aload_n C tb_L_law_27_ok (i := 15) rfl rfl ?_
        refine g_iload C tb_L_law_27_ok (i := 16) rfl rfl ?_
        refine g_iconstv C tb_L_law_27_ok (i := 17) 2 rfl k_iconstv_2 ?_
        refine g_iadd C tb_L_law_27_ok (i := 18) rfl ?_
        obtain ⟨b567, h⟩ := gd_e h
        refine g_xald C tb_L_law_27_ok (i := 19) hsL hxs rfl b567 ?_
        refine g_aload_n C tb_L_law_27_ok (i := 20) rfl rfl ?_
        refine g_iload C tb_L_law_27_ok (i := 21) rfl rfl ?_
        refine g_iconstv C tb_L_law_27_ok (i := 22) 3 rfl k_iconstv_3 ?_
        refine g_iadd C tb_L_law_27_ok (i := 23) rfl ?_
        obtain ⟨b568, h⟩ := gd_e h
        refine g_xald C tb_L_law_27_ok (i := 24) hsL hxs rfl b568 ?_
        obtain ⟨k569, h⟩ := gK_e h
        obtain ⟨r570, M571, er570, h⟩ := c0_e h
        refine g_callV0 C tb_L_law_27_ok (i := 25) [.int (xs (v14 + (1 : Int32)).toNatClampNeg), .int (xs (v14 + (2 : Int32)).toNatClampNeg), .int (xs (v14 + (3 : Int32)).toNatClampNeg)] rfl mw_X12_see mv_X12_see ml_L_214 k569 rfl rfl rfl rfl (w_X12_see C.G y12 (y4.2.2 + 1) (xs (v14 + (1 : Int32)).toNatClampNeg) (xs (v14 + (2 : Int32)).toNatClampNeg) (xs (v14 + (3 : Int32)).toNatClampNeg) M565) er570 (bl (by omega)) (bl (by omega)) rfl ?_
        refine g_istore C tb_L_law_27_ok (i := 26) rfl rfl rfl ?_
        refine g_aload_n C tb_L_law_27_ok (i := 27) rfl rfl ?_
        obtain ⟨r572, er572, h⟩ := cp_e h
        refine g_callV0 C tb_L_law_27_ok (i := 28) [] rfl mw_X12_thrown mv_X12_thrown ml_L_114 k569 rfl rfl rfl rfl (w_X12_thrown C.G y12 (y4.2.2 + 1) M571) (pm_s er572) (bl (by omega)) (bl (by omega)) rfl ?_
        refine g_iload C tb_L_law_27_ok (i := 29) rfl rfl ?_
        obtain ⟨t573, f574⟩ := br_e h
        refine g_icmp_eq C tb_L_law_27_ok (i := 30) 1883 rfl rfl (fun c => ?_) (fun c => ?_)
        · have h := t573 c
          refine g_iload C tb_L_law_27_ok (i := 33) rfl rfl ?_
          obtain ⟨j575, ej575, h⟩ := jn_e h
          have J1900 : ∀ (_u : Unit), j575 _u = some out → GG g x 7 Q (kc + 1) (ks + 6) y12 M571 1900 [some (.ref 1999), some (.ref (y.2.2 + 1)), some (.ref (y4.2.2 + 1)), some (.ref (y9.2.2 + 1)), some (.int v14), none, none] [] := by
            intro _u h; subst ej575
            refine g_goto C tb_L_law_28_ok (i := 4) 2210 rfl rfl ?_
            refine g_widen (k2 := (kc + 42)) (s2 := (ks + 252)) (bl (by omega)) (bl (by omega)) ?_
            exact g_less (L' := [some (.ref 1999), some (.ref (y.2.2 + 1)), some (.ref (y4.2.2 + 1)), some (.ref (y9.2.2 + 1)), some (.int v14), none, none]) ⟨rfl, ⟨rfl, ⟨rfl, ⟨rfl, ⟨rfl, trivial⟩⟩⟩⟩⟩ (J2210 M571 h)
          obtain ⟨t576, f577⟩ := br_e h
          refine g_if_ne C tb_L_law_27_ok (i := 34) 1900 rfl rfl (fun c => ?_) (fun c => ?_)
          · have h := f577 c
            exact g_less (L' := [some (.ref 1999), some (.ref (y.2.2 + 1)), some (.ref (y4.2.2 + 1)), some (.ref (y9.2.2 + 1)), some (.int v14), none, none]) ⟨rfl, ⟨rfl, ⟨rfl, ⟨rfl, ⟨rfl, trivial⟩⟩⟩⟩⟩ (J1900 () h)
          · have h := t576 c
            refine g_aload_n C tb_L_law_27_ok (i := 35) rfl rfl ?_
            refine g_iconstv C tb_L_law_27_ok (i := 36) 0 rfl k_iconstv_0 ?_
            obtain ⟨b578, h⟩ := gA_e h
            refine g_lald C tb_L_law_27_ok (i := 37) rfl b578 ?_
            refine g_iload C tb_L_law_27_ok (i := 38) rfl rfl ?_
            refine g_i2l C tb_L_law_27_ok (i := 39) rfl ?_
            refine g_lcmp C tb_L_law_28_ok (i := 0) rfl ?_
            obtain ⟨t579, f580⟩ := br_e h
            refine g_if_eq C tb_L_law_28_ok (i := 1) 1900 rfl rfl (fun c => ?_) (fun c => ?_)
            · have h := t579 c
              exact g_less (L' := [some (.ref 1999), some (.ref (y.2.2 + 1)), some (.ref (y4.2.2 + 1)), some (.ref (y9.2.2 + 1)), some (.int v14), none, none]) ⟨rfl, ⟨rfl, ⟨rfl, ⟨rfl, ⟨rfl, trivial⟩⟩⟩⟩⟩ (J1900 () h)
            · have h := f580 c
              refine g_iconstv C tb_L_law_28_ok (i := 2) 0 rfl k_iconstv_0 ?_
              cases h
              exact absurd ho (by decide)
        · have h := f574 c
          refine g_iconstv C tb_L_law_27_ok (i := 31) 0 rfl k_iconstv_0 ?_
          cases h
          exact absurd ho (by decide)
      have h := f582 hs1030
      obtain ⟨t599, f600⟩ := br_e h
      by_cases hs1031 : ((xs v14.toNatClampNeg) &&& (63 : Int32)) = (31 : Int32)
      · have h := t599 hs1031
        refine g_tableIn C tb_L_law_0_ok (i := 24) 31 1903 1863 rfl hs1031 (by decide) rfl ?_
        refine g_aload_n C tb_L_law_28_ok (i := 5) rfl rfl ?_
        refine g_aload_n C tb_L_law_28_ok (i := 6) rfl rfl ?_
        refine g_iload C tb_L_law_28_ok (i := 7) rfl rfl ?_
        refine g_iconstv C tb_L_law_28_ok (i := 8) 1 rfl k_iconstv_1 ?_
        refine g_iadd C tb_L_law_28_ok (i := 9) rfl ?_
        obtain ⟨b583, h⟩ := gd_e h
        refine g_xald C tb_L_law_28_ok (i := 10) hsL hxs rfl b583 ?_
        refine g_aload_n C tb_L_law_28_ok (i := 11) rfl rfl ?_
        obtain ⟨r584, M585, er584, h⟩ := c0_e h
        refine g_callSW C tb_L_law_28_ok (i := 12) [.ref (y.2.2 + 1), .int (xs (v14 + (1 : Int32)).toNatClampNeg), .ref (y9.2.2 + 1)] rfl mwh_L_skilled ml_L_215 rfl rfl rfl rfl (w_L_skilled C.G y12 (y.2.2 + 1) (xs (v14 + (1 : Int32)).toNatClampNeg) (y9.2.2 + 1) M15) er584 (bl (by omega)) (bl (by omega)) rfl ?_
        refine g_istore C tb_L_law_28_ok (i := 13) rfl rfl rfl ?_
        refine g_aload_n C tb_L_law_28_ok (i := 14) rfl rfl ?_
        refine g_aload_n C tb_L_law_28_ok (i := 15) rfl rfl ?_
        refine g_iload C tb_L_law_28_ok (i := 16) rfl rfl ?_
        refine g_iconstv C tb_L_law_28_ok (i := 17) 1 rfl k_iconstv_1 ?_
        refine g_iadd C tb_L_law_28_ok (i := 18) rfl ?_
        obtain ⟨b586, h⟩ := gd_e h
        refine g_xald C tb_L_law_28_ok (i := 19) hsL hxs rfl b586 ?_
        obtain ⟨k587, h⟩ := gK_e h
        obtain ⟨r588, M589, er588, h⟩ := c0_e h
        refine g_callV0 C tb_L_law_28_ok (i := 20) [.int (xs (v14 + (1 : Int32)).toNatClampNeg)] rfl mw_X12_skilled mv_X12_skilled ml_L_217 k587 rfl rfl rfl rfl (w_X12_skilled C.G y12 (y4.2.2 + 1) (xs (v14 + (1 : Int32)).toNatClampNeg) M585) er588 (bl (by omega)) (bl (by omega)) rfl ?_
        refine g_istore C tb_L_law_28_ok (i := 21) rfl rfl rfl ?_
        refine g_aload_n C tb_L_law_28_ok (i := 22) rfl rfl ?_
        obtain ⟨r590, er590, h⟩ := cp_e h
        refine g_callV0 C tb_L_law_28_ok (i := 23) [] rfl mw_X12_thrown mv_X12_thrown ml_L_114 k587 rfl rfl rfl rfl (w_X12_thrown C.G y12 (y4.2.2 + 1) M589) (pm_s er590) (bl (by omega)) (bl (by omega)) rfl ?_
        refine g_iload C tb_L_law_28_ok (i := 24) rfl rfl ?_
        obtain ⟨t591, f592⟩ := br_e h
        refine g_icmp_eq C tb_L_law_28_ok (i := 25) 1939 rfl rfl (fun c => ?_) (fun c => ?_)
        · have h := t591 c
          refine g_iload C tb_L_law_28_ok (i := 28) rfl rfl ?_
          obtain ⟨j593, ej593, h⟩ := jn_e h
          have J1956 : ∀ (_u : Unit), j593 _u = some out → GG g x 7 Q (kc + 1) (ks + 6) y12 M589 1956 [some (.ref 1999), some (.ref (y.2.2 + 1)), some (.ref (y4.2.2 + 1)), some (.ref (y9.2.2 + 1)), some (.int v14), none, none] [] := by
            intro _u h; subst ej593
            refine g_goto C tb_L_law_28_ok (i := 39) 2210 rfl rfl ?_
            refine g_widen (k2 := (kc + 42)) (s2 := (ks + 252)) (bl (by omega)) (bl (by omega)) ?_
            exact g_less (L' := [some (.ref 1999), some (.ref (y.2.2 + 1)), some (.ref (y4.2.2 + 1)), some (.ref (y9.2.2 + 1)), some (.int v14), none, none]) ⟨rfl, ⟨rfl, ⟨rfl, ⟨rfl, ⟨rfl, trivial⟩⟩⟩⟩⟩ (J2210 M589 h)
          obtain ⟨t594, f595⟩ := br_e h
          refine g_if_ne C tb_L_law_28_ok (i := 29) 1956 rfl rfl (fun c => ?_) (fun c => ?_)
          · have h := f595 c
            exact g_less (L' := [some (.ref 1999), some (.ref (y.2.2 + 1)), some (.ref (y4.2.2 + 1)), some (.ref (y9.2.2 + 1)), some (.int v14), none, none]) ⟨rfl, ⟨rfl, ⟨rfl, ⟨rfl, ⟨rfl, trivial⟩⟩⟩⟩⟩ (J1956 () h)
          · have h := t594 c
            refine g_aload_n C tb_L_law_28_ok (i := 30) rfl rfl ?_
            refine g_iconstv C tb_L_law_28_ok (i := 31) 0 rfl k_iconstv_0 ?_
            obtain ⟨b596, h⟩ := gA_e h
            refine g_lald C tb_L_law_28_ok (i := 32) rfl b596 ?_
            refine g_iload C tb_L_law_28_ok (i := 33) rfl rfl ?_
            refine g_i2l C tb_L_law_28_ok (i := 34) rfl ?_
            refine g_lcmp C tb_L_law_28_ok (i := 35) rfl ?_
            obtain ⟨t597, f598⟩ := br_e h
            refine g_if_eq C tb_L_law_28_ok (i := 36) 1956 rfl rfl (fun c => ?_) (fun c => ?_)
            · have h := t597 c
              exact g_less (L' := [some (.ref 1999), some (.ref (y.2.2 + 1)), some (.ref (y4.2.2 + 1)), some (.ref (y9.2.2 + 1)), some (.int v14), none, none]) ⟨rfl, ⟨rfl, ⟨rfl, ⟨rfl, ⟨rfl, trivial⟩⟩⟩⟩⟩ (J1956 () h)
            · have h := f598 c
              refine g_iconstv C tb_L_law_28_ok (i := 37) 0 rfl k_iconstv_0 ?_
              cases h
              exact absurd ho (by decide)
        · have h := f592 c
          refine g_iconstv C tb_L_law_28_ok (i := 26) 0 rfl k_iconstv_0 ?_
          cases h
          exact absurd ho (by decide)
      have h := f600 hs1031
      obtain ⟨t617, f618⟩ := br_e h
      by_cases hs1032 : ((xs v14.toNatClampNeg) &&& (63 : Int32)) = (32 : Int32)
      · have h := t617 hs1032
        refine g_tableIn C tb_L_law_0_ok (i := 24) 32 1959 1919 rfl hs1032 (by decide) rfl ?_
        refine g_aload_n C tb_L_law_29_ok (i := 0) rfl rfl ?_
        refine g_aload_n C tb_L_law_29_ok (i := 1) rfl rfl ?_
        refine g_iload C tb_L_law_29_ok (i := 2) rfl rfl ?_
        refine g_iconstv C tb_L_law_29_ok (i := 3) 1 rfl k_iconstv_1 ?_
        refine g_iadd C tb_L_law_29_ok (i := 4) rfl ?_
        obtain ⟨b601, h⟩ := gd_e h
        refine g_xald C tb_L_law_29_ok (i := 5) hsL hxs rfl b601 ?_
        refine g_aload_n C tb_L_law_29_ok (i := 6) rfl rfl ?_
        obtain ⟨r602, M603, er602, h⟩ := c0_e h
        refine g_callSW C tb_L_law_29_ok (i := 7) [.ref (y.2.2 + 1), .int (xs (v14 + (1 : Int32)).toNatClampNeg), .ref (y9.2.2 + 1)] rfl mwh_L_look ml_L_218 rfl rfl rfl rfl (w_L_look C.G y12 (y.2.2 + 1) (xs (v14 + (1 : Int32)).toNatClampNeg) (y9.2.2 + 1) M15) er602 (bl (by omega)) (bl (by omega)) rfl ?_
        refine g_istore C tb_L_law_29_ok (i := 8) rfl rfl rfl ?_
        refine g_aload_n C tb_L_law_29_ok (i := 9) rfl rfl ?_
        refine g_aload_n C tb_L_law_29_ok (i := 10) rfl rfl ?_
        refine g_iload C tb_L_law_29_ok (i := 11) rfl rfl ?_
        refine g_iconstv C tb_L_law_29_ok (i := 12) 1 rfl k_iconstv_1 ?_
        refine g_iadd C tb_L_law_29_ok (i := 13) rfl ?_
        obtain ⟨b604, h⟩ := gd_e h
        refine g_xald C tb_L_law_29_ok (i := 14) hsL hxs rfl b604 ?_
        obtain ⟨k605, h⟩ := gK_e h
        obtain ⟨r606, M607, er606, h⟩ := c0_e h
        refine g_callV0 C tb_L_law_29_ok (i := 15) [.int (xs (v14 + (1 : Int32)).toNatClampNeg)] rfl mw_X12_look mv_X12_look ml_L_220 k605 rfl rfl rfl rfl (w_X12_look C.G y12 (y4.2.2 + 1) (xs (v14 + (1 : Int32)).toNatClampNeg) M603) er606 (bl (by omega)) (bl (by omega)) rfl ?_
        refine g_istore C tb_L_law_29_ok (i := 16) rfl rfl rfl ?_
        refine g_aload_n C tb_L_law_29_ok (i := 17) rfl rfl ?_
        obtain ⟨r608, er608, h⟩ := cp_e h
        refine g_callV0 C tb_L_law_29_ok (i := 18) [] rfl mw_X12_thrown mv_X12_thrown ml_L_114 k605 rfl rfl rfl rfl (w_X12_thrown C.G y12 (y4.2.2 + 1) M607) (pm_s er608) (bl (by omega)) (bl (by omega)) rfl ?_
        refine g_iload C tb_L_law_29_ok (i := 19) rfl rfl ?_
        obtain ⟨t609, f610⟩ := br_e h
        refine g_icmp_eq C tb_L_law_29_ok (i := 20) 1995 rfl rfl (fun c => ?_) (fun c => ?_)
        · have h := t609 c
          refine g_iload C tb_L_law_29_ok (i := 23) rfl rfl ?_
          obtain ⟨j611, ej611, h⟩ := jn_e h
          have J2012 : ∀ (_u : Unit), j611 _u = some out → GG g x 7 Q (kc + 1) (ks + 6) y12 M607 2012 [some (.ref 1999), some (.ref (y.2.2 + 1)), some (.ref (y4.2.2 + 1)), some (.ref (y9.2.2 + 1)), some (.int v14), none, none] [] := by
            intro _u h; subst ej611
            refine g_goto C tb_L_law_29_ok (i := 34) 2210 rfl rfl ?_
            refine g_widen (k2 := (kc + 42)) (s2 := (ks + 252)) (bl (by omega)) (bl (by omega)) ?_
            exact g_less (L' := [some (.ref 1999), some (.ref (y.2.2 + 1)), some (.ref (y4.2.2 + 1)), some (.ref (y9.2.2 + 1)), some (.int v14), none, none]) ⟨rfl, ⟨rfl, ⟨rfl, ⟨rfl, ⟨rfl, trivial⟩⟩⟩⟩⟩ (J2210 M607 h)
          obtain ⟨t612, f613⟩ := br_e h
          refine g_if_ne C tb_L_law_29_ok (i := 24) 2012 rfl rfl (fun c => ?_) (fun c => ?_)
          · have h := f613 c
            exact g_less (L' := [some (.ref 1999), some (.ref (y.2.2 + 1)), some (.ref (y4.2.2 + 1)), some (.ref (y9.2.2 + 1)), some (.int v14), none, none]) ⟨rfl, ⟨rfl, ⟨rfl, ⟨rfl, ⟨rfl, trivial⟩⟩⟩⟩⟩ (J2012 () h)
          · have h := t612 c
            refine g_aload_n C tb_L_law_29_ok (i := 25) rfl rfl ?_
            refine g_iconstv C tb_L_law_29_ok (i := 26) 0 rfl k_iconstv_0 ?_
            obtain ⟨b614, h⟩ := gA_e h
            refine g_lald C tb_L_law_29_ok (i := 27) rfl b614 ?_
            refine g_iload C tb_L_law_29_ok (i := 28) rfl rfl ?_
            refine g_i2l C tb_L_law_29_ok (i := 29) rfl ?_
            refine g_lcmp C tb_L_law_29_ok (i := 30) rfl ?_
            obtain ⟨t615, f616⟩ := br_e h
            refine g_if_eq C tb_L_law_29_ok (i := 31) 2012 rfl rfl (fun c => ?_) (fun c => ?_)
            · have h := t615 c
              exact g_less (L' := [some (.ref 1999), some (.ref (y.2.2 + 1)), some (.ref (y4.2.2 + 1)), some (.ref (y9.2.2 + 1)), some (.int v14), none, none]) ⟨rfl, ⟨rfl, ⟨rfl, ⟨rfl, ⟨rfl, trivial⟩⟩⟩⟩⟩ (J2012 () h)
            · have h := f616 c
              refine g_iconstv C tb_L_law_29_ok (i := 32) 0 rfl k_iconstv_0 ?_
              cases h
              exact absurd ho (by decide)
        · have h := f610 c
          refine g_iconstv C tb_L_law_29_ok (i := 21) 0 rfl k_iconstv_0 ?_
          cases h
          exact absurd ho (by decide)
      have h := f618 hs1032
      obtain ⟨t625, f626⟩ := br_e h
      by_cases hs1033 : ((xs v14.toNatClampNeg) &&& (63 : Int32)) = (33 : Int32)
      · have h := t625 hs1033
        refine g_tableIn C tb_L_law_0_ok (i := 24) 33 2015 1975 rfl hs1033 (by decide) rfl ?_
        refine g_aload_n C tb_L_law_29_ok (i := 35) rfl rfl ?_
        obtain ⟨k619, h⟩ := gK_e h
        obtain ⟨r620, M621, er620, h⟩ := c0_e h
        refine g_callV0 C tb_L_law_29_ok (i := 36) [] rfl mw_X11_forget mv_X11_forget ml_L_221 k619 rfl rfl rfl rfl (w_X11_forget C.G y12 (y.2.2 + 1) M15) er620 (bl (by omega)) (bl (by omega)) rfl ?_
        refine g_aload_n C tb_L_law_29_ok (i := 37) rfl rfl ?_
        obtain ⟨k622, h⟩ := gK_e h
        obtain ⟨r623, M624, er623, h⟩ := c0_e h
        refine g_callV0 C tb_L_law_29_ok (i := 38) [] rfl mw_X12_forget mv_X12_forget ml_L_224 k622 rfl rfl rfl rfl (w_X12_forget C.G y12 (y4.2.2 + 1) M621) er623 (bl (by omega)) (bl (by omega)) rfl ?_
        refine g_goto C tb_L_law_29_ok (i := 39) 2210 rfl rfl ?_
        refine g_widen (k2 := (kc + 42)) (s2 := (ks + 252)) (bl (by omega)) (bl (by omega)) ?_
        exact g_less (L' := [some (.ref 1999), some (.ref (y.2.2 + 1)), some (.ref (y4.2.2 + 1)), some (.ref (y9.2.2 + 1)), some (.int v14), none, none]) ⟨rfl, ⟨rfl, ⟨rfl, ⟨rfl, ⟨rfl, trivial⟩⟩⟩⟩⟩ (J2210 M624 h)
      have h := f626 hs1033
      obtain ⟨t647, f648⟩ := br_e h
      by_cases hs1034 : ((xs v14.toNatClampNeg) &&& (63 : Int32)) = (34 : Int32)
      · have h := t647 hs1034
        refine g_tableIn C tb_L_law_0_ok (i := 24) 34 2026 1986 rfl hs1034 (by decide) rfl ?_
        refine g_aload_n C tb_L_law_30_ok (i := 0) rfl rfl ?_
        refine g_aload_n C tb_L_law_30_ok (i := 1) rfl rfl ?_
        refine g_iload C tb_L_law_30_ok (i := 2) rfl rfl ?_
        refine g_iconstv C tb_L_law_30_ok (i := 3) 1 rfl k_iconstv_1 ?_
        refine g_iadd C tb_L_law_30_ok (i := 4) rfl ?_
        obtain ⟨b627, h⟩ := gd_e h
        refine g_xald C tb_L_law_30_ok (i := 5) hsL hxs rfl b627 ?_
        refine g_aload_n C tb_L_law_30_ok (i := 6) rfl rfl ?_
        refine g_iload C tb_L_law_30_ok (i := 7) rfl rfl ?_
        refine g_iconstv C tb_L_law_30_ok (i := 8) 2 rfl k_iconstv_2 ?_
        refine g_iadd C tb_L_law_30_ok (i := 9) rfl ?_
        obtain ⟨b628, h⟩ := gd_e h
        refine g_xald C tb_L_law_30_ok (i := 10) hsL hxs rfl b628 ?_
        refine g_aload_n C tb_L_law_30_ok (i := 11) rfl rfl ?_
        refine g_iload C tb_L_law_30_ok (i := 12) rfl rfl ?_
        refine g_iconstv C tb_L_law_30_ok (i := 13) 3 rfl k_iconstv_3 ?_
        refine g_iadd C tb_L_law_30_ok (i := 14) rfl ?_
        obtain ⟨b629, h⟩ := gd_e h
        refine g_xald C tb_L_law_30_ok (i := 15) hsL hxs rfl b629 ?_
        refine g_aload_n C tb_L_law_30_ok (i := 16) rfl rfl ?_
        obtain ⟨r630, M631, er630, h⟩ := c0_e h
        refine g_callSW C tb_L_law_30_ok (i := 17) [.ref (y.2.2 + 1), .int (xs (v14 + (1 : Int32)).toNatClampNeg), .int (xs (v14 + (2 : Int32)).toNatClampNeg), .int (xs (v14 + (3 : Int32)).toNatClampNeg), .ref (y9.2.2 + 1)] rfl mwh_L_game ml_L_225 rfl rfl rfl rfl (w_L_game C.G y12 (y.2.2 + 1) (xs (v14 + (1 : Int32)).toNatClampNeg) (xs (v14 + (2 : Int32)).toNatClampNeg) (xs (v14 + (3 : Int32)).toNatClampNeg) (y9.2.2 + 1) M15) er630 (bl (by omega)) (bl (by omega)) rfl ?_
        refine g_istore C tb_L_law_30_ok (i := 18) rfl rfl rfl ?_
        refine g_aload_n C tb_L_law_30_ok (i := 19) rfl rfl ?_
        refine g_aload_n C tb_L_law_30_ok (i := 20) rfl rfl ?_
        refine g_iload C tb_L_law_30_ok (i := 21) rfl rfl ?_
        refine g_iconstv C tb_L_law_30_ok (i := 22) 1 rfl k_iconstv_1 ?_
        refine g_iadd C tb_L_law_30_ok (i := 23) rfl ?_
        obtain ⟨b632, h⟩ := gd_e h
        refine g_xald C tb_L_law_30_ok (i := 24) hsL hxs rfl b632 ?_
        refine g_aload_n C tb_L_law_30_ok (i := 25) rfl rfl ?_
        refine g_iload C tb_L_law_30_ok (i := 26) rfl rfl ?_
        refine g_iconstv C tb_L_law_30_ok (i := 27) 2 rfl k_iconstv_2 ?_
        refine g_iadd C tb_L_law_30_ok (i := 28) rfl ?_
        obtain ⟨b633, h⟩ := gd_e h
        refine g_xald C tb_L_law_30_ok (i := 29) hsL hxs rfl b633 ?_
        refine g_aload_n C tb_L_law_30_ok (i := 30) rfl rfl ?_
        refine g_iload C tb_L_law_30_ok (i := 31) rfl rfl ?_
        refine g_iconstv C tb_L_law_30_ok (i := 32) 3 rfl k_iconstv_3 ?_
        refine g_iadd C tb_L_law_30_ok (i := 33) rfl ?_
        obtain ⟨b634, h⟩ := gd_e h
        refine g_xald C tb_L_law_30_ok (i := 34) hsL hxs rfl b634 ?_
        obtain ⟨k635, h⟩ := gK_e h
        obtain ⟨r636, M637, er636, h⟩ := c0_e h
        refine g_callV0 C tb_L_law_30_ok (i := 35) [.int (xs (v14 + (1 : Int32)).toNatClampNeg), .int (xs (v14 + (2 : Int32)).toNatClampNeg), .int (xs (v14 + (3 : Int32)).toNatClampNeg)] rfl mw_X12_game mv_X12_game ml_L_227 k635 rfl rfl rfl rfl (w_X12_game C.G y12 (y4.2.2 + 1) (xs (v14 + (1 : Int32)).toNatClampNeg) (xs (v14 + (2 : Int32)).toNatClampNeg) (xs (v14 + (3 : Int32)).toNatClampNeg) M631) er636 (bl (by omega)) (bl (by omega)) rfl ?_
        refine g_istore C tb_L_law_30_ok (i := 36) rfl rfl rfl ?_
        refine g_aload_n C tb_L_law_30_ok (i := 37) rfl rfl ?_
        obtain ⟨r638, er638, h⟩ := cp_e h
        refine g_callV0 C tb_L_law_30_ok (i := 38) [] rfl mw_X12_thrown mv_X12_thrown ml_L_114 k635 rfl rfl rfl rfl (w_X12_thrown C.G y12 (y4.2.2 + 1) M637) (pm_s er638) (bl (by omega)) (bl (by omega)) rfl ?_
        refine g_iload C tb_L_law_30_ok (i := 39) rfl rfl ?_
        obtain ⟨t639, f640⟩ := br_e h
        refine g_icmp_eq C tb_L_law_31_ok (i := 0) 2086 rfl rfl (fun c => ?_) (fun c => ?_)
        · have h := t639 c
          refine g_iload C tb_L_law_31_ok (i := 3) rfl rfl ?_
          obtain ⟨j641, ej641, h⟩ := jn_e h
          have J2103 : ∀ (_u : Unit), j641 _u = some out → GG g x 7 Q (kc + 4) (ks + 24) y12 M637 2103 [some (.ref 1999), some (.ref (y.2.2 + 1)), some (.ref (y4.2.2 + 1)), some (.ref (y9.2.2 + 1)), some (.int v14), none, none] [] := by
            intro _u h; subst ej641
            refine g_goto C tb_L_law_31_ok (i := 14) 2210 rfl rfl ?_
            refine g_widen (k2 := (kc + 42)) (s2 := (ks + 252)) (bl (by omega)) (bl (by omega)) ?_
            exact g_less (L' := [some (.ref 1999), some (.ref (y.2.2 + 1)), some (.ref (y4.2.2 + 1)), some (.ref (y9.2.2 + 1)), some (.int v14), none, none]) ⟨rfl, ⟨rfl, ⟨rfl, ⟨rfl, ⟨rfl, trivial⟩⟩⟩⟩⟩ (J2210 M637 h)
          obtain ⟨t642, f643⟩ := br_e h
          refine g_if_ne C tb_L_law_31_ok (i := 4) 2103 rfl rfl (fun c => ?_) (fun c => ?_)
          · have h := f643 c
            exact g_less (L' := [some (.ref 1999), some (.ref (y.2.2 + 1)), some (.ref (y4.2.2 + 1)), some (.ref (y9.2.2 + 1)), some (.int v14), none, none]) ⟨rfl, ⟨rfl, ⟨rfl, ⟨rfl, ⟨rfl, trivial⟩⟩⟩⟩⟩ (J2103 () h)
          · have h := t642 c
            refine g_aload_n C tb_L_law_31_ok (i := 5) rfl rfl ?_
            refine g_iconstv C tb_L_law_31_ok (i := 6) 0 rfl k_iconstv_0 ?_
            obtain ⟨b644, h⟩ := gA_e h
            refine g_lald C tb_L_law_31_ok (i := 7) rfl b644 ?_
            refine g_iload C tb_L_law_31_ok (i := 8) rfl rfl ?_
            refine g_i2l C tb_L_law_31_ok (i := 9) rfl ?_
            refine g_lcmp C tb_L_law_31_ok (i := 10) rfl ?_
            obtain ⟨t645, f646⟩ := br_e h
            refine g_if_eq C tb_L_law_31_ok (i := 11) 2103 rfl rfl (fun c => ?_) (fun c => ?_)
            · have h := t645 c
              exact g_less (L' := [some (.ref 1999), some (.ref (y.2.2 + 1)), some (.ref (y4.2.2 + 1)), some (.ref (y9.2.2 + 1)), some (.int v14), none, none]) ⟨rfl, ⟨rfl, ⟨rfl, ⟨rfl, ⟨rfl, trivial⟩⟩⟩⟩⟩ (J2103 () h)
            · have h := f646 c
              refine g_iconstv C tb_L_law_31_ok (i := 12) 0 rfl k_iconstv_0 ?_
              cases h
              exact absurd ho (by decide)
        · have h := f640 c
          refine g_iconstv C tb_L_law_31_ok (i := 1) 0 rfl k_iconstv_0 ?_
          cases h
          exact absurd ho (by decide)
      have h := f648 hs1034
      obtain ⟨t669, f670⟩ := br_e h
      by_cases hs1035 : ((xs v14.toNatClampNeg) &&& (63 : Int32)) = (35 : Int32)
      · have h := t669 hs1035
        refine g_tableIn C tb_L_law_0_ok (i := 24) 35 2106 2066 rfl hs1035 (by decide) rfl ?_
        refine g_aload_n C tb_L_law_31_ok (i := 15) rfl rfl ?_
        refine g_aload_n C tb_L_law_31_ok (i := 16) rfl rfl ?_
        refine g_iload C tb_L_law_31_ok (i := 17) rfl rfl ?_
        refine g_iconstv C tb_L_law_31_ok (i := 18) 1 rfl k_iconstv_1 ?_
        refine g_iadd C tb_L_law_31_ok (i := 19) rfl ?_
        obtain ⟨b649, h⟩ := gd_e h
        refine g_xald C tb_L_law_31_ok (i := 20) hsL hxs rfl b649 ?_
        refine g_aload_n C tb_L_law_31_ok (i := 21) rfl rfl ?_
        refine g_iload C tb_L_law_31_ok (i := 22) rfl rfl ?_
        refine g_iconstv C tb_L_law_31_ok (i := 23) 2 rfl k_iconstv_2 ?_
        refine g_iadd C tb_L_law_31_ok (i := 24) rfl ?_
        obtain ⟨b650, h⟩ := gd_e h
        refine g_xald C tb_L_law_31_ok (i := 25) hsL hxs rfl b650 ?_
        refine g_aload_n C tb_L_law_31_ok (i := 26) rfl rfl ?_
        refine g_iload C tb_L_law_31_ok (i := 27) rfl rfl ?_
        refine g_iconstv C tb_L_law_31_ok (i := 28) 3 rfl k_iconstv_3 ?_
        refine g_iadd C tb_L_law_31_ok (i := 29) rfl ?_
        obtain ⟨b651, h⟩ := gd_e h
        refine g_xald C tb_L_law_31_ok (i := 30) hsL hxs rfl b651 ?_
        refine g_aload_n C tb_L_law_31_ok (i := 31) rfl rfl ?_
        obtain ⟨r652, M653, er652, h⟩ := c0_e h
        refine g_callSW C tb_L_law_31_ok (i := 32) [.ref (y.2.2 + 1), .int (xs (v14 + (1 : Int32)).toNatClampNeg), .int (xs (v14 + (2 : Int32)).toNatClampNeg), .int (xs (v14 + (3 : Int32)).toNatClampNeg), .ref (y9.2.2 + 1)] rfl mwh_L_skies ml_L_228 rfl rfl rfl rfl (w_L_skies C.G y12 (y.2.2 + 1) (xs (v14 + (1 : Int32)).toNatClampNeg) (xs (v14 + (2 : Int32)).toNatClampNeg) (xs (v14 + (3 : Int32)).toNatClampNeg) (y9.2.2 + 1) M15) er652 (bl (by omega)) (bl (by omega)) rfl ?_
        refine g_istore C tb_L_law_31_ok (i := 33) rfl rfl rfl ?_
        refine g_aload_n C tb_L_law_31_ok (i := 34) rfl rfl ?_
        refine g_aload_n C tb_L_law_31_ok (i := 35) rfl rfl ?_
        refine g_iload C tb_L_law_31_ok (i := 36) rfl rfl ?_
        refine g_iconstv C tb_L_law_31_ok (i := 37) 1 rfl k_iconstv_1 ?_
        refine g_iadd C tb_L_law_31_ok (i := 38) rfl ?_
        obtain ⟨b654, h⟩ := gd_e h
        refine g_xald C tb_L_law_31_ok (i := 39) hsL hxs rfl b654 ?_
        refine g_aload_n C tb_L_law_32_ok (i := 0) rfl rfl ?_
        refine g_iload C tb_L_law_32_ok (i := 1) rfl rfl ?_
        refine g_iconstv C tb_L_law_32_ok (i := 2) 2 rfl k_iconstv_2 ?_
        refine g_iadd C tb_L_law_32_ok (i := 3) rfl ?_
        obtain ⟨b655, h⟩ := gd_e h
        refine g_xald C tb_L_law_32_ok (i := 4) hsL hxs rfl b655 ?_
        refine g_aload_n C tb_L_law_32_ok (i := 5) rfl rfl ?_
        refine g_iload C tb_L_law_32_ok (i := 6) rfl rfl ?_
        refine g_iconstv C tb_L_law_32_ok (i := 7) 3 rfl k_iconstv_3 ?_
        refine g_iadd C tb_L_law_32_ok (i := 8) rfl ?_
        obtain ⟨b656, h⟩ := gd_e h
        refine g_xald C tb_L_law_32_ok (i := 9) hsL hxs rfl b656 ?_
        obtain ⟨k657, h⟩ := gK_e h
        obtain ⟨r658, M659, er658, h⟩ := c0_e h
        refine g_callV0 C tb_L_law_32_ok (i := 10) [.int (xs (v14 + (1 : Int32)).toNatClampNeg), .int (xs (v14 + (2 : Int32)).toNatClampNeg), .int (xs (v14 + (3 : Int32)).toNatClampNeg)] rfl mw_X12_skies mv_X12_skies ml_L_230 k657 rfl rfl rfl rfl (w_X12_skies C.G y12 (y4.2.2 + 1) (xs (v14 + (1 : Int32)).toNatClampNeg) (xs (v14 + (2 : Int32)).toNatClampNeg) (xs (v14 + (3 : Int32)).toNatClampNeg) M653) er658 (bl (by omega)) (bl (by omega)) rfl ?_
        refine g_istore C tb_L_law_32_ok (i := 11) rfl rfl rfl ?_
        refine g_aload_n C tb_L_law_32_ok (i := 12) rfl rfl ?_
        obtain ⟨r660, er660, h⟩ := cp_e h
        refine g_callV0 C tb_L_law_32_ok (i := 13) [] rfl mw_X12_thrown mv_X12_thrown ml_L_114 k657 rfl rfl rfl rfl (w_X12_thrown C.G y12 (y4.2.2 + 1) M659) (pm_s er660) (bl (by omega)) (bl (by omega)) rfl ?_
        refine g_iload C tb_L_law_32_ok (i := 14) rfl rfl ?_
        obtain ⟨t661, f662⟩ := br_e h
        refine g_icmp_eq C tb_L_law_32_ok (i := 15) 2166 rfl rfl (fun c => ?_) (fun c => ?_)
        · have h := t661 c
          refine g_iload C tb_L_law_32_ok (i := 18) rfl rfl ?_
          obtain ⟨j663, ej663, h⟩ := jn_e h
          have J2183 : ∀ (_u : Unit), j663 _u = some out → GG g x 7 Q (kc + 2) (ks + 12) y12 M659 2183 [some (.ref 1999), some (.ref (y.2.2 + 1)), some (.ref (y4.2.2 + 1)), some (.ref (y9.2.2 + 1)), some (.int v14), none, none] [] := by
            intro _u h; subst ej663
            refine g_goto C tb_L_law_32_ok (i := 29) 2210 rfl rfl ?_
            refine g_widen (k2 := (kc + 42)) (s2 := (ks + 252)) (bl (by omega)) (bl (by omega)) ?_
            exact g_less (L' := [some (.ref 1999), some (.ref (y.2.2 + 1)), some (.ref (y4.2.2 + 1)), some (.ref (y9.2.2 + 1)), some (.int v14), none, none]) ⟨rfl, ⟨rfl, ⟨rfl, ⟨rfl, ⟨rfl, trivial⟩⟩⟩⟩⟩ (J2210 M659 h)
          obtain ⟨t664, f665⟩ := br_e h
          refine g_if_ne C tb_L_law_32_ok (i := 19) 2183 rfl rfl (fun c => ?_) (fun c => ?_)
          · have h := f665 c
            exact g_less (L' := [some (.ref 1999), some (.ref (y.2.2 + 1)), some (.ref (y4.2.2 + 1)), some (.ref (y9.2.2 + 1)), some (.int v14), none, none]) ⟨rfl, ⟨rfl, ⟨rfl, ⟨rfl, ⟨rfl, trivial⟩⟩⟩⟩⟩ (J2183 () h)
          · have h := t664 c
            refine g_aload_n C tb_L_law_32_ok (i := 20) rfl rfl ?_
            refine g_iconstv C tb_L_law_32_ok (i := 21) 0 rfl k_iconstv_0 ?_
            obtain ⟨b666, h⟩ := gA_e h
            refine g_lald C tb_L_law_32_ok (i := 22) rfl b666 ?_
            refine g_iload C tb_L_law_32_ok (i := 23) rfl rfl ?_
            refine g_i2l C tb_L_law_32_ok (i := 24) rfl ?_
            refine g_lcmp C tb_L_law_32_ok (i := 25) rfl ?_
            obtain ⟨t667, f668⟩ := br_e h
            refine g_if_eq C tb_L_law_32_ok (i := 26) 2183 rfl rfl (fun c => ?_) (fun c => ?_)
            · have h := t667 c
              exact g_less (L' := [some (.ref 1999), some (.ref (y.2.2 + 1)), some (.ref (y4.2.2 + 1)), some (.ref (y9.2.2 + 1)), some (.int v14), none, none]) ⟨rfl, ⟨rfl, ⟨rfl, ⟨rfl, ⟨rfl, trivial⟩⟩⟩⟩⟩ (J2183 () h)
            · have h := f668 c
              refine g_iconstv C tb_L_law_32_ok (i := 27) 0 rfl k_iconstv_0 ?_
              cases h
              exact absurd ho (by decide)
        · have h := f662 c
          refine g_iconstv C tb_L_law_32_ok (i := 16) 0 rfl k_iconstv_0 ?_
          cases h
          exact absurd ho (by decide)
      have h := f670 hs1035
      obtain ⟨t677, f678⟩ := br_e h
      by_cases hs1036 : ((xs v14.toNatClampNeg) &&& (63 : Int32)) = (36 : Int32)
      · have h := t677 hs1036
        refine g_tableIn C tb_L_law_0_ok (i := 24) 36 2186 2146 rfl hs1036 (by decide) rfl ?_
        refine g_aload_n C tb_L_law_32_ok (i := 30) rfl rfl ?_
        obtain ⟨k671, h⟩ := gK_e h
        obtain ⟨r672, M673, er672, h⟩ := c0_e h
        refine g_callV0 C tb_L_law_32_ok (i := 31) [] rfl mw_X11_image mv_X11_image ml_L_231 k671 rfl rfl rfl rfl (w_X11_image C.G y12 (y.2.2 + 1) M15) er672 (bl (by omega)) (bl (by omega)) rfl ?_
        refine g_aload_n C tb_L_law_32_ok (i := 32) rfl rfl ?_
        obtain ⟨k674, h⟩ := gK_e h
        obtain ⟨r675, M676, er675, h⟩ := c0_e h
        refine g_callV0 C tb_L_law_32_ok (i := 33) [] rfl mw_X12_image mv_X12_image ml_L_234 k674 rfl rfl rfl rfl (w_X12_image C.G y12 (y4.2.2 + 1) M673) er675 (bl (by omega)) (bl (by omega)) rfl ?_
        refine g_goto C tb_L_law_32_ok (i := 34) 2210 rfl rfl ?_
        refine g_widen (k2 := (kc + 42)) (s2 := (ks + 252)) (bl (by omega)) (bl (by omega)) ?_
        exact g_less (L' := [some (.ref 1999), some (.ref (y.2.2 + 1)), some (.ref (y4.2.2 + 1)), some (.ref (y9.2.2 + 1)), some (.int v14), none, none]) ⟨rfl, ⟨rfl, ⟨rfl, ⟨rfl, ⟨rfl, trivial⟩⟩⟩⟩⟩ (J2210 M676 h)
      have h := f678 hs1036
      have hlast : ((xs v14.toNatClampNeg) &&& (63 : Int32)) = (37 : Int32) := i32_sw (l := [(0 : Int32), (1 : Int32), (2 : Int32), (3 : Int32), (4 : Int32), (5 : Int32), (6 : Int32), (7 : Int32), (8 : Int32), (9 : Int32), (10 : Int32), (11 : Int32), (12 : Int32), (13 : Int32), (14 : Int32), (15 : Int32), (16 : Int32), (17 : Int32), (18 : Int32), (19 : Int32), (20 : Int32), (21 : Int32), (22 : Int32), (23 : Int32), (24 : Int32), (25 : Int32), (26 : Int32), (27 : Int32), (28 : Int32), (29 : Int32), (30 : Int32), (31 : Int32), (32 : Int32), (33 : Int32), (34 : Int32), (35 : Int32), (36 : Int32)]) (n := 37) hsw (by decide +kernel) (i32_ne [(0 : Int32), (1 : Int32), (2 : Int32), (3 : Int32), (4 : Int32), (5 : Int32), (6 : Int32), (7 : Int32), (8 : Int32), (9 : Int32), (10 : Int32), (11 : Int32), (12 : Int32), (13 : Int32), (14 : Int32), (15 : Int32), (16 : Int32), (17 : Int32), (18 : Int32), (19 : Int32), (20 : Int32), (21 : Int32), (22 : Int32), (23 : Int32), (24 : Int32), (25 : Int32), (26 : Int32), (27 : Int32), (28 : Int32), (29 : Int32), (30 : Int32), (31 : Int32), (32 : Int32), (33 : Int32), (34 : Int32), (35 : Int32), (36 : Int32)] rfl (by intro c hc; simp only [List.mem_cons, List.not_mem_nil, or_false] at hc; rcases hc with rfl | rfl | rfl | rfl | rfl | rfl | rfl | rfl | rfl | rfl | rfl | rfl | rfl | rfl | rfl | rfl | rfl | rfl | rfl | rfl | rfl | rfl | rfl | rfl | rfl | rfl | rfl | rfl | rfl | rfl | rfl | rfl | rfl | rfl | rfl | rfl | rfl <;> assumption))
      refine g_tableIn C tb_L_law_0_ok (i := 24) 37 2197 2157 rfl hlast (by decide) rfl ?_
      refine g_aload_n C tb_L_law_32_ok (i := 35) rfl rfl ?_
      obtain ⟨k679, h⟩ := gK_e h
      obtain ⟨r680, M681, er680, h⟩ := c0_e h
      refine g_callV0 C tb_L_law_32_ok (i := 36) [] rfl mw_X11_restore mv_X11_restore ml_L_235 k679 rfl rfl rfl rfl (w_X11_restore C.G y12 (y.2.2 + 1) M15) er680 (bl (by omega)) (bl (by omega)) rfl ?_
      refine g_aload_n C tb_L_law_32_ok (i := 37) rfl rfl ?_
      obtain ⟨k682, h⟩ := gK_e h
      obtain ⟨r683, M684, er683, h⟩ := c0_e h
      refine g_callV0 C tb_L_law_32_ok (i := 38) [] rfl mw_X12_restore mv_X12_restore ml_L_239 k682 rfl rfl rfl rfl (w_X12_restore C.G y12 (y4.2.2 + 1) M681) er683 (bl (by omega)) (bl (by omega)) rfl ?_
      obtain ⟨t685, f686⟩ := br_e h
      refine g_icmp_eq C tb_L_law_32_ok (i := 39) 2210 rfl rfl (fun c => ?_) (fun c => ?_)
      · have h := t685 c
        refine g_widen (k2 := (kc + 42)) (s2 := (ks + 252)) (bl (by omega)) (bl (by omega)) ?_
        exact g_less (L' := [some (.ref 1999), some (.ref (y.2.2 + 1)), some (.ref (y4.2.2 + 1)), some (.ref (y9.2.2 + 1)), some (.int v14), none, none]) ⟨rfl, ⟨rfl, ⟨rfl, ⟨rfl, ⟨rfl, trivial⟩⟩⟩⟩⟩ (J2210 M684 h)
      · have h := f686 c
        refine g_iconstv C tb_L_law_33_ok (i := 0) 0 rfl k_iconstv_0 ?_
        cases h
        exact absurd ho (by decide)
