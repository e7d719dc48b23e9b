
theorem ws_coder {g : GX} {l : Launch} (hG : GF g l) (y : Lay) (M : Mem) (k : Nat) (hk : k < nStr) : C0 g l yJ0_coder_7d493 cJ0_coder_7d493 1 (some .byte) 0 y [.ref (1000 + k)] M (some (0, M)) := by
  refine C0_of hG (by decide) [some (.ref (1000 + k))] rfl rfl (fun out h x Q C R => ?_)
  cases h
  refine g_stat C tbs_cod_ok (i := 0) (v := .int 1) rfl fls_cmp C.G.2.2.2.1.2.1 ?_
  refine g_if_eq C tbs_cod_ok (i := 1) 13 rfl rfl (fun c => ?_) (fun c => ?_)
  · exact absurd c (by decide)
  · refine g_aload_n C tbs_cod_ok (i := 2) rfl rfl ?_
    refine g_strF C tbs_cod_ok (i := 3) (v := .int 0) hk rfl fls_cod (C.G.2.2.2.1.1 k hk).2.1 ?_
    refine g_goto C tbs_cod_ok (i := 4) 14 rfl rfl ?_
    exact g_nret0 C R rfl tbs_cod_ok (i := 6) rfl
theorem ws_latin {g : GX} {l : Launch} (hG : GF g l) (y : Lay) (M : Mem) (k : Nat) (hk : k < nStr) : C0 g l yJ0_isLatin1_aae02 cJ0_isLatin1_aae02 1 (some .boolean) 0 y [.ref (1000 + k)] M (some (1, M)) := by
  refine C0_of hG (by decide) [some (.ref (1000 + k))] rfl rfl (fun out h x Q C R => ?_)
  cases h
  refine g_stat C tbs_lat_ok (i := 0) (v := .int 1) rfl fls_cmp C.G.2.2.2.1.2.1 ?_
  refine g_if_eq C tbs_lat_ok (i := 1) 17 rfl rfl (fun c => ?_) (fun c => ?_)
  · exact absurd c (by decide)
  · refine g_aload_n C tbs_lat_ok (i := 2) rfl rfl ?_
    refine g_strF C tbs_lat_ok (i := 3) (v := .int 0) hk rfl fls_cod (C.G.2.2.2.1.1 k hk).2.1 ?_
    refine g_if_ne C tbs_lat_ok (i := 4) 17 rfl rfl (fun c => ?_) (fun c => ?_)
    · exact absurd rfl c
    · refine g_iconstv C tbs_lat_ok (i := 5) 1 rfl (by decide) ?_
      refine g_goto C tbs_lat_ok (i := 6) 18 rfl rfl ?_
      exact g_nret0 C R rfl tbs_lat_ok (i := 8) rfl
theorem ws_pre {g : GX} {l : Launch} (hG : GF g l) (y : Lay) (M : Mem) (a b : Int32) (v : Value) (hv : v = .null ∨ v = .ref 1998) (h1 : ¬ a < 0) (h2 : a < b) : C0 g l yJ3_checkIndex_8e157 cJ3_checkIndex_8e157 3 (some .int) 0 y [.int a, .int b, v] M (some (a, M)) := by
  refine C0_of hG (by decide) [some (.int a), some (.int b), some v] (by rcases hv with rfl | rfl <;> rfl) (by rcases hv with rfl | rfl <;> rfl) (fun out h x Q C R => ?_)
  cases h
  refine g_iload_n C tbs_pre_ok (i := 0) rfl rfl ?_
  refine g_if_lt C tbs_pre_ok (i := 1) 9 rfl rfl (fun c => absurd c h1) (fun c => ?_)
  refine g_iload_n C tbs_pre_ok (i := 2) rfl rfl ?_
  refine g_iload_n C tbs_pre_ok (i := 3) rfl rfl ?_
  refine g_icmp_lt C tbs_pre_ok (i := 4) 16 rfl rfl (fun c => ?_) (fun c => absurd h2 c)
  refine g_iload_n C tbs_pre_ok (i := 10) rfl rfl ?_
  exact g_iret0 C R tbs_pre_ok (i := 11) rfl
theorem ws_chk {g : GX} {l : Launch} (hG : GF g l) (y : Lay) (M : Mem) (a b : Int32) (h1 : ¬ a < 0) (h2 : a < b) : C0 g l yJ0_checkIndex_df160 cJ0_checkIndex_df160 2 none 1 y [.int a, .int b] M (some (0, M)) := by
  refine C0_of hG (by decide) [some (.int a), some (.int b)] rfl rfl (fun out h x Q C R => ?_)
  cases h
  refine g_iload_n C tbs_chk_ok (i := 0) rfl rfl ?_
  refine g_iload_n C tbs_chk_ok (i := 1) rfl rfl ?_
  have key : ∀ v : Value, v = .null ∨ v = .ref 1998 → GG g x 2 Q 0 0 y M 5 [some (.int a), some (.int b)] [v, .int b, .int a] := by
    intro v hv
    refine g_callS0 C tbs_chk_ok (i := 3) [.int a, .int b, v] rfl mws_pre msts_pre mls_p rfl rfl rfl rfl (ws_pre C.G y M a b v hv h1 h2) rfl rfl rfl rfl ?_
    refine g_pop C tbs_chk_ok (i := 4) rfl rfl ?_
    exact g_vret0 C R tbs_chk_ok (i := 5) rfl
  rcases C.G.2.2.2.1.2.2 with hE | hE
  · exact g_stat C tbs_chk_ok (i := 2) (v := .null) rfl fls_fmt hE (key _ (Or.inl rfl))
  · exact g_stat C tbs_chk_ok (i := 2) (v := .ref 1998) rfl fls_fmt (by rw [show va g (.ref 1998) = .ref (g.2.2.2.1 998) from rfl]; exact hE) (key _ (Or.inr rfl))
theorem ws_lch {g : GX} {l : Launch} (hG : GF g l) (y : Lay) (M : Mem) (k : Nat) (j : Int32) (hk : k < nStr) (hj : ¬ (j < 0 ∨ (strB k).length ≤ j.toNatClampNeg)) : C0 g l yJ1_charAt_3b067 cJ1_charAt_3b067 2 (some .char) 2 y [.ref (2000 + k), .int j] M (some ((strB k).getD j.toNatClampNeg 0, M)) := by
  refine C0_of hG (by decide) [some (.ref (2000 + k)), some (.int j)] rfl rfl (fun out h x Q C R => ?_)
  cases h
  have hl := sl_ok k hk
  have h0 : ¬ j < 0 := fun h => hj (Or.inl h)
  have h1 : j.toNatClampNeg < (strB k).length := Nat.not_le.mp fun h => hj (Or.inr h)
  have h2 : j < Int32.ofNat (strB k).length := by
    obtain ⟨n, hn, rfl⟩ := nI_of h0
    rw [nI_clamp hn] at h1
    exact nI_lt h1 (by omega)
  refine g_iload_n C tbs_lch_ok (i := 0) rfl rfl ?_
  refine g_aload_n C tbs_lch_ok (i := 1) rfl rfl ?_
  refine g_sbl C tbs_lch_ok (i := 2) hk rfl ?_
  refine g_callS0 C tbs_lch_ok (i := 3) [.int j, .int (Int32.ofNat (strB k).length)] rfl mws_chk msts_chk mls_x rfl rfl rfl rfl (ws_chk C.G y M j _ h0 h2) rfl rfl rfl rfl ?_
  refine g_aload_n C tbs_lch_ok (i := 4) rfl rfl ?_
  refine g_iload_n C tbs_lch_ok (i := 5) rfl rfl ?_
  refine g_sbb C tbs_lch_ok (i := 6) hk rfl hj ?_
  refine g_sipushv C tbs_lch_ok (i := 7) 255 rfl (by decide) ?_
  refine g_iand C tbs_lch_ok (i := 8) rfl ?_
  refine g_i2c C tbs_lch_ok (i := 9) _ (ch_ok k hk _ h1).1 rfl ?_
  exact g_nret0 C R (ch_ok k hk _ h1).2 tbs_lch_ok (i := 10) rfl
theorem ws_len {g : GX} {l : Launch} (hG : GF g l) (y : Lay) (M : Mem) (k : Nat) (hk : k < nStr) : C0 g l yJ0_length_8abf5 cJ0_length_8abf5 1 (some .int) 1 y [.ref (1000 + k)] M (some (Int32.ofNat (strB k).length, M)) := by
  refine C0_of hG (by decide) [some (.ref (1000 + k))] rfl rfl (fun out h x Q C R => ?_)
  cases h
  refine g_aload_n C tbs_len_ok (i := 0) rfl rfl ?_
  refine g_strF C tbs_len_ok (i := 1) (v := .ref (2000 + k)) hk rfl fls_val (by show va_OF _ _ _ (.ref (ad g (2000 + k))) _ _ _ _; rw [adV hk]; exact (C.G.2.2.2.1.1 k hk).2.2.1) ?_
  refine g_sbl C tbs_len_ok (i := 2) hk rfl ?_
  refine g_aload_n C tbs_len_ok (i := 3) rfl rfl ?_
  refine g_callVs C tbs_len_ok (i := 4) [] rfl mws_cod mvs_cod mls_c hk rfl rfl rfl rfl (ws_coder C.G y M k hk) rfl rfl rfl rfl ?_
  refine g_ishr C tbs_len_ok (i := 5) rfl ?_
  rw [shr_0]
  exact g_iret0 C R tbs_len_ok (i := 6) rfl
theorem ws_char {g : GX} {l : Launch} (hG : GF g l) (y : Lay) (M : Mem) (k : Nat) (j : Int32) (hk : k < nStr) (hj : ¬ (j < 0 ∨ (strB k).length ≤ j.toNatClampNeg)) : C0 g l yJ0_charAt_5068e cJ0_charAt_5068e 2 (some .char) 3 y [.ref (1000 + k), .int j] M (some ((strB k).getD j.toNatClampNeg 0, M)) := by
  refine C0_of hG (by decide) [some (.ref (1000 + k)), some (.int j)] rfl rfl (fun out h x Q C R => ?_)
  cases h
  have h1 : j.toNatClampNeg < (strB k).length := Nat.not_le.mp fun h => hj (Or.inr h)
  refine g_aload_n C tbs_cha_ok (i := 0) rfl rfl ?_
  refine g_callVs C tbs_cha_ok (i := 1) [] rfl mws_lat mvs_lat mls_l hk rfl rfl rfl rfl (ws_latin C.G y M k hk) rfl rfl rfl rfl ?_
  refine g_if_eq C tbs_cha_ok (i := 2) 16 rfl rfl (fun c => absurd c (by decide)) (fun c => ?_)
  refine g_aload_n C tbs_cha_ok (i := 3) rfl rfl ?_
  refine g_strF C tbs_cha_ok (i := 4) (v := .ref (2000 + k)) hk rfl fls_val (by show va_OF _ _ _ (.ref (ad g (2000 + k))) _ _ _ _; rw [adV hk]; exact (C.G.2.2.2.1.1 k hk).2.2.1) ?_
  refine g_iload_n C tbs_cha_ok (i := 5) rfl rfl ?_
  refine g_callS0 C tbs_cha_ok (i := 6) [.ref (2000 + k), .int j] rfl mws_lch msts_lch mls_h rfl rfl rfl rfl (ws_lch C.G y M k j hk hj) rfl rfl rfl rfl ?_
  exact g_nret0 C R (ch_ok k hk _ h1).2 tbs_cha_ok (i := 7) rfl
section GR8
variable {g : GX} {x : KX} {own : String} {cc : ByteArray} {nL d mc ms : Nat} {Q : State → Prop} {kc ks : Nat} {y : Lay} {M : Mem} {pc i : Nat} {L : List (Option Value)} {S : List Value} {tb : Tb}
theorem g_strLen (C : CX g x own cc nL d mc ms) (T : dck cc tb = true) {idx r : Nat} (hi : tb[i]? = some (pc, .invokevirtual idx, 3)) (hl : Cond.methodLink own idx yJ0_length_8abf5 ∈ lw_tbl) (hd : Nat.ble 2 d = true) (hS8 : Nat.ble ((S.map fun v => v.category).sum) 8 = true) (hkc : Nat.ble kc mc = true) (hks : Nat.ble ks ms = true) (hr : 1000 ≤ r ∧ r < 1037) (kk : GG g x nL Q kc ks y M (pc + 3) L (.int (Int32.ofNat (strB (r - 1000)).length) :: S)) : GG g x nL Q kc ks y M pc L (.ref r :: S) := by
  obtain ⟨k, rfl⟩ : ∃ k, r = 1000 + k := ⟨r - 1000, by omega⟩
  have hk : k < nStr := show k < 37 by omega
  rw [show 1000 + k - 1000 = k by omega] at kk
  exact g_callVs C T [] hi mws_len mvs_len hl hk hd rfl rfl hS8 (ws_len C.G y M k hk) rfl hkc hks rfl kk
theorem g_strCh (C : CX g x own cc nL d mc ms) (T : dck cc tb = true) {idx r : Nat} {j : Int32} (hi : tb[i]? = some (pc, .invokevirtual idx, 3)) (hl : Cond.methodLink own idx yJ0_charAt_5068e ∈ lw_tbl) (hd : Nat.ble 4 d = true) (hS8 : Nat.ble ((S.map fun v => v.category).sum) 8 = true) (hkc : Nat.ble kc mc = true) (hks : Nat.ble ks ms = true) (hr : 1000 ≤ r ∧ r < 1037) (hj : ¬ (j < 0 ∨ (strB (r - 1000)).length ≤ j.toNatClampNeg)) (kk : GG g x nL Q kc ks y M (pc + 3) L (.int ((strB (r - 1000)).getD j.toNatClampNeg 0) :: S)) : GG g x nL Q kc ks y M pc L (.int j :: .ref r :: S) := by
  obtain ⟨k, rfl⟩ : ∃ k, r = 1000 + k := ⟨r - 1000, by omega⟩
  have hk : k < nStr := show k < 37 by omega
  rw [show 1000 + k - 1000 = k by omega] at kk hj
  exact g_callVs C T [.int j] hi mws_cha mvs_cha hl hk hd rfl rfl hS8 (ws_char C.G y M k j hk hj) rfl hkc hks rfl kk
end GR8
