/-! ===== the pure day: girls, rules, night ===== -/
/-- wide, high, rinse, bound; girls, olds; dyes; fades -/
abbrev KG : Type := (Nat × Nat × Nat × Nat) × (Nat × Int32) × (Row × Nat) × (Row × Nat)
abbrev kw (K : KG) : Nat := K.1.1
abbrev kh (K : KG) : Nat := K.1.2.1
abbrev kr (K : KG) : Nat := K.1.2.2.1
abbrev kb (K : KG) : Nat := K.1.2.2.2
abbrev kg (K : KG) : Nat := K.2.1.1
abbrev ko (K : KG) : Int32 := K.2.1.2
abbrev dc (K : KG) : Row := K.2.2.1.1
abbrev dl (K : KG) : Nat := K.2.2.1.2
abbrev fc (K : KG) : Row := K.2.2.2.1
abbrev fl (K : KG) : Nat := K.2.2.2.2
abbrev kn (K : KG) : Nat := kw K * kh K
def bes (K : KG) (c : Nat) : Int32 := besP (kw K) (kn K) c
/-- what a text can tell -/
def KOK (K : KG) : Prop := ((1 ≤ kw K ∧ kw K ≤ 6) ∧ (1 ≤ kh K ∧ kh K ≤ 5)) ∧ (kr K ≤ 20 ∧ kb K < 100 ∧ kg K ≤ 6) ∧ (dl K ≤ 700 ∧ (0 < dl K → WFR 6 (dc K) (dl K))) ∧ (fl K ≤ 700 ∧ (0 < fl K → WFR 4 (fc K) (fl K)))
theorem KOK.n30 {K : KG} (h : KOK K) : kn K ≤ 30 := Nat.mul_le_mul h.1.1.2 h.1.2.2
theorem KOK.n1 {K : KG} (h : KOK K) : 1 ≤ kn K := Nat.mul_le_mul h.1.1.1 h.1.2.1
/-- blue, spots, skills, pegs, resting, knobs, martins, day, overdone -/
abbrev Sk : Type := Row × Row × Row × Int32 × Int32 × Int32 × Int32 × Int32 × Int32
def bsum (be : Int32) (B : Row) : Int32 := it (fun k a => if bt be k = 0 then a else a + B k) 0 30
def vals (K : KG) (B : Row) (dy : Int32) (c : Nat) : Row := fun k => if k = 0 then B c else if k = 1 then bsum (bes K c) B else if k = 2 then n2 (c / kw K) else if k = 3 then dy else 0
def dyeP (K : KG) (B sp sk : Row) (dy : Int32) (g : Nat) (left : Int32) : Int32 :=
  if dl K = 0 then 2 * sk g + 3 else jmax 0 (jmin 30 ((evR (up (up (vals K B dy (sp g).toNatClampNeg) 4 (sk g)) 5 left) (dc K) (dl K)).1 0))
def dripF (w : Nat) (pg : Int32) (c : Nat) : Nat → Int32 × Row → Int32 × Row := fun j q => (q.1 / 2, addB pg (c + w * (j + 1)) q.1 q.2)
def dripP (K : KG) (pg : Int32) (c : Nat) (d : Int32) (B : Row) : Row := (it (dripF (kw K) pg c) (d, B) ((kn K - 1 - c) / kw K)).2
def besG (K : KG) (pg : Int32) (c : Nat) (d : Int32) : Nat → Row → Row := fun k B => if bt (bes K c) k = 0 then B else addB pg k d B
def besB (K : KG) (pg : Int32) (c : Nat) (d : Int32) (B : Row) : Row := it (besG K pg c d) B (kn K)
def swT (K : KG) (pg : Int32) (g c : Nat) (d : Int32) (B : Row) : Row := if bt (ko K) g = 0 then besB K pg c (d / 2) (addB pg c d B) else dripP K pg c (d / 2) (addB pg c d B)
def swB (K : KG) (B sp sk : Row) (pg dy : Int32) (g : Nat) (left : Int32) : Row := swT K pg g (sp g).toNatClampNeg (dyeP K B sp sk dy g left) B
def dawnF (K : KG) (sp sk : Row) (pg rs dy : Int32) : Nat → Row × Int32 → Row × Int32 := fun g q => if bt rs g = 0 then (if q.2 ≤ 0 then q else (swB K q.1 sp sk pg dy g (q.2 - 1), q.2 - 1)) else q
def fdP (K : KG) (B : Row) (dy : Int32) (c : Nat) : Int32 := if fl K = 0 then B c / 5 else if B c = 0 then 0 else jmax 0 (jmin (B c) ((evR (vals K B dy c) (fc K) (fl K)).1 0))
def nF (K : KG) (B : Row) (dy : Int32) : Row := rowTo 30 (fun k => B k - fdP K B dy k) B
def dawn (K : KG) (S : Sk) : Row × Int32 := it (dawnF K S.2.1 S.2.2.1 S.2.2.2.1 S.2.2.2.2.1 S.2.2.2.2.2.2.2.1) (S.1, S.2.2.2.2.2.1) (kg K)
def dusk (K : KG) (S : Sk) (q : Row × Int32) : Sk := (nF K (nB1 (n2 (kr K)) q.1) S.2.2.2.2.2.2.2.1, S.2.1, S.2.2.1, S.2.2.2.1, S.2.2.2.2.1, q.2, jmin 9999 (S.2.2.2.2.2.2.1 + bcJ (ovB (n2 (kb K)) q.1)), S.2.2.2.2.2.2.2.1 + 1, ovB (n2 (kb K)) q.1)
def pDay (K : KG) (S : Sk) : Sk := dusk K S (dawn K S)
/-! what can be -/
def SPK (n : Nat) (sp : Row) : Prop := (∀ k, ∃ v, v < n ∧ sp k = n2 v) ∧ ∀ k, 6 ≤ k → sp k = 0
def SKK (sk : Row) : Prop := (∀ k, ∃ v, v ≤ 9 ∧ sk k = n2 v) ∧ ∀ k, 6 ≤ k → sk k = 0
def PG0 (pg : Int32) (B : Row) : Prop := ∀ k, k < 30 → bt pg k = 1 → B k = 0
def KNB (k : Int32) : Prop := ∃ v, v ≤ 99 ∧ k = n2 v
def SOK (K : KG) (S : Sk) : Prop := (BOK (kn K) S.1 ∧ PG0 S.2.2.2.1 S.1) ∧ SPK (kn K) S.2.1 ∧ SKK S.2.2.1 ∧ KNB S.2.2.2.2.2.1
theorem cl_n (x : Int32) {v : Nat} (hv : v < 2147483648) : ∃ u, u ≤ v ∧ jmax 0 (jmin (n2 v) x) = n2 u := by
  unfold jmax jmin
  have z : (0 : Int32).toInt = 0 := rfl
  by_cases h1 : x < n2 v
  · rw [if_pos h1]
    rw [i_lt, n2_int hv] at h1
    by_cases h2 : (0 : Int32) < x
    · rw [if_pos h2]
      rw [i_lt, z] at h2
      exact ⟨x.toInt.toNat, by omega, n2_of (by omega)⟩
    · rw [if_neg h2]
      exact ⟨0, by omega, rfl⟩
  · rw [if_neg h1]
    by_cases h2 : (0 : Int32) < n2 v
    · rw [if_pos h2]; exact ⟨v, Nat.le_refl _, rfl⟩
    · rw [if_neg h2]; exact ⟨0, by omega, rfl⟩
theorem sk_dye : ∀ v : Fin 10, 2 * n2 v.val + 3 = n2 (2 * v.val + 3) ∧ jmax 0 (jmin 30 (2 * n2 v.val + 3)) = n2 (2 * v.val + 3) := by decide +kernel
theorem dyeP_ok {K : KG} {B sp sk : Row} {dy : Int32} {g : Nat} {left : Int32} (hs : SKK sk) : ∃ v, v ≤ 30 ∧ dyeP K B sp sk dy g left = n2 v := by
  unfold dyeP
  by_cases h : dl K = 0
  · rw [if_pos h]
    obtain ⟨v, h1, h2⟩ := hs.1 g
    have h3 := sk_dye ⟨v, by omega⟩
    dsimp only at h3
    exact ⟨2 * v + 3, by omega, by rw [h2]; exact h3.1⟩
  · rw [if_neg h]
    exact cl_n (v := 30) _ (by decide)
theorem ad_99 : ∀ v : Fin 100, ∀ m : Fin 31, ∃ u : Fin 100, jmin 99 (n2 v.val + n2 m.val) = n2 u.val := fun v m => by
  have e : n2 v.val + n2 m.val = n2 (v.val + m.val) := n2_add _ _
  rw [e]
  unfold jmin
  by_cases h : n2 (v.val + m.val) < 99
  · rw [if_pos h]
    rw [show (99 : Int32) = n2 99 from rfl, n2_lt (by omega) (by decide)] at h
    exact ⟨⟨v.val + m.val, by omega⟩, rfl⟩
  · rw [if_neg h]
    exact ⟨⟨99, by decide⟩, rfl⟩
theorem addB_ok {n : Nat} {pg : Int32} {c m : Nat} {B : Row} (h : BOK n B) (hc : c < n) (hm : m ≤ 30) : BOK n (addB pg c (n2 m) B) := by
  unfold addB
  split
  · refine ⟨fun k => ?_, fun k hk => ?_⟩
    · by_cases e : k = c
      · subst e
        obtain ⟨v, h1, h2⟩ := h.1 k
        obtain ⟨u, hu⟩ := ad_99 ⟨v, h1⟩ ⟨m, by omega⟩
        dsimp only at hu
        exact ⟨u.val, u.isLt, by rw [up_k, if_pos rfl, h2, hu]⟩
      · rw [up_k, if_neg e]; exact h.1 k
    · rw [up_k, if_neg (by omega)]; exact h.2 k hk
  · exact h
theorem addB_pg {pg : Int32} {c : Nat} {m : Int32} {B : Row} (h : PG0 pg B) : PG0 pg (addB pg c m B) := by
  unfold addB
  split
  · rename_i q
    intro k hk hb
    by_cases e : k = c
    · subst e; rw [hb] at q; cases q
    · rw [up_k, if_neg e]; exact h k hk hb
  · exact h
/-- blue as it can be -/
def BP (n : Nat) (pg : Int32) (B : Row) : Prop := BOK n B ∧ PG0 pg B
theorem BP.add {n : Nat} {pg : Int32} {c m : Nat} {B : Row} (h : BP n pg B) (hc : c < n) (hm : m ≤ 30) : BP n pg (addB pg c (n2 m) B) := ⟨addB_ok h.1 hc hm, addB_pg h.2⟩
theorem half : ∀ v : Fin 31, n2 v.val / 2 = n2 (v.val / 2) := by decide +kernel
theorem half' {v : Nat} (h : v ≤ 30) : n2 v / 2 = n2 (v / 2) := half ⟨v, by omega⟩
theorem it_inv {S : Type} {f : Nat → S → S} {s : S} (I : Nat → S → Prop) (h0 : I 0 s) (n : Nat) (hs : ∀ i q, i < n → I i q → I (i + 1) (f i q)) : I n (it f s n) := by
  induction n with
  | zero => exact h0
  | succ n ih =>
    rw [it_s]
    exact hs n _ (Nat.lt_succ_self n) (ih (fun i q hi => hs i q (Nat.lt_succ_of_lt hi)))
theorem besB_ok {K : KG} {pg : Int32} {c m : Nat} {B : Row} (h : BP (kn K) pg B) (hm : m ≤ 30) : BP (kn K) pg (besB K pg c (n2 m) B) :=
  it_inv (fun _ B => BP (kn K) pg B) h _ (fun i q hi hq => by
    unfold besG
    split
    · exact hq
    · exact hq.add hi hm)
theorem drip_in {w n c j : Nat} (hw : 0 < w) (hc : c < n) (hj : j < (n - 1 - c) / w) : c + w * (j + 1) < n := by
  have h := (Nat.le_div_iff_mul_le (k := w) (x := j + 1) (y := n - 1 - c) hw).mp hj
  rw [Nat.mul_comm] at h
  generalize w * (j + 1) = z at h
  omega
theorem dripP_ok {K : KG} (hK : KOK K) {pg : Int32} {c m : Nat} {B : Row} (h : BP (kn K) pg B) (hc : c < kn K) (hm : m ≤ 30) : BP (kn K) pg (dripP K pg c (n2 m) B) := by
  have h30 := hK.n30
  have h1 := hK.1.1.1
  have h2 := hK.1.1.2
  refine (it_inv (fun _ (q : Int32 × Row) => (∃ v, v ≤ 30 ∧ q.1 = n2 v) ∧ BP (kn K) pg q.2) ⟨⟨m, hm, rfl⟩, h⟩ _ (fun i q hi hq => ?_)).2
  obtain ⟨⟨v, a1, a2⟩, hq⟩ := hq
  have hj : (kn K - 1 - c) / kw K ≤ kn K - 1 - c := Nat.div_le_self _ _
  have hin := drip_in h1 hc hi
  unfold dripF
  refine ⟨⟨v / 2, by omega, by rw [a2]; exact half' a1⟩, ?_⟩
  dsimp only
  rw [a2]
  exact hq.add hin a1
theorem swT_ok {K : KG} (hK : KOK K) {pg : Int32} {g c m : Nat} {B : Row} (h : BP (kn K) pg B) (hc : c < kn K) (hm : m ≤ 30) : BP (kn K) pg (swT K pg g c (n2 m) B) := by
  unfold swT
  rw [half' hm]
  split
  · exact besB_ok (h.add hc hm) (by omega)
  · exact dripP_ok hK (h.add hc hm) hc (by omega)
theorem SPK.n {n : Nat} {sp : Row} (h : SPK n sp) (g : Nat) (hn : n ≤ 30) : (sp g).toNatClampNeg < n ∧ sp g = n2 (sp g).toNatClampNeg := by
  obtain ⟨v, h1, h2⟩ := h.1 g
  rw [h2, n2_nat (by omega)]
  exact ⟨h1, rfl⟩
theorem swB_ok {K : KG} (hK : KOK K) {B sp sk : Row} {pg dy : Int32} {g : Nat} {left : Int32} (h : BP (kn K) pg B) (hp : SPK (kn K) sp) (hs : SKK sk) : BP (kn K) pg (swB K B sp sk pg dy g left) := by
  unfold swB
  obtain ⟨v, h1, h2⟩ := dyeP_ok (K := K) (B := B) (sp := sp) (sk := sk) (dy := dy) (g := g) (left := left) hs
  rw [h2]
  exact swT_ok hK h (hp.n g hK.n30).1 h1
theorem kn_sub : ∀ v : Fin 100, ¬ n2 v.val ≤ 0 → ∃ u : Fin 100, n2 v.val - 1 = n2 u.val := by decide +kernel
theorem dawn_ok {K : KG} (hK : KOK K) {S : Sk} (h : SOK K S) (n : Nat) : BP (kn K) S.2.2.2.1 (it (dawnF K S.2.1 S.2.2.1 S.2.2.2.1 S.2.2.2.2.1 S.2.2.2.2.2.2.2.1) (S.1, S.2.2.2.2.2.1) n).1 ∧ KNB (it (dawnF K S.2.1 S.2.2.1 S.2.2.2.1 S.2.2.2.2.1 S.2.2.2.2.2.2.2.1) (S.1, S.2.2.2.2.2.1) n).2 := by
  refine it_inv (s := (S.1, S.2.2.2.2.2.1)) (fun _ (q : Row × Int32) => BP (kn K) S.2.2.2.1 q.1 ∧ KNB q.2) ⟨h.1, h.2.2.2⟩ n (fun i q hi hq => ?_)
  unfold dawnF
  split
  · split
    · exact hq
    · rename_i z
      refine ⟨swB_ok hK hq.1 h.2.1 h.2.2.1, ?_⟩
      obtain ⟨v, a1, a2⟩ := hq.2
      rw [a2] at z
      obtain ⟨u, hu⟩ := kn_sub ⟨v, by omega⟩ z
      dsimp only at hu
      exact ⟨u.val, by omega, by rw [a2]; exact hu⟩
  · exact hq
theorem d5 : ∀ v : Fin 100, n2 v.val / 5 = n2 (v.val / 5) := by decide +kernel
theorem fdP_ok {K : KG} {B : Row} {dy : Int32} {c v : Nat} (hv : v < 100) (hB : B c = n2 v) : ∃ u, u ≤ v ∧ fdP K B dy c = n2 u := by
  unfold fdP
  by_cases h : fl K = 0
  · rw [if_pos h, hB]
    exact ⟨v / 5, by omega, d5 ⟨v, hv⟩⟩
  · rw [if_neg h]
    by_cases h2 : B c = 0
    · rw [if_pos h2]; exact ⟨0, by omega, rfl⟩
    · rw [if_neg h2, hB]
      exact cl_n _ (by omega)
theorem nF_ok {K : KG} {pg : Int32} {B : Row} {dy : Int32} (h : BP (kn K) pg B) : BP (kn K) pg (nF K B dy) := by
  have key : ∀ k, ∃ v u, (v < 100 ∧ B k = n2 v) ∧ u ≤ v ∧ fdP K B dy k = n2 u := fun k => by
    obtain ⟨v, h1, h2⟩ := h.1.1 k
    obtain ⟨u, h3, h4⟩ := fdP_ok (K := K) (dy := dy) h1 h2
    exact ⟨v, u, ⟨h1, h2⟩, h3, h4⟩
  have z : ∀ k, B k = 0 → B k - fdP K B dy k = 0 := fun k hk => by
    obtain ⟨v, u, ⟨h1, h2⟩, h3, h4⟩ := key k
    have hv : v = 0 := (n2_inj (j := 0) (by omega) (by decide)).mp (by rw [← h2, hk]; rfl)
    subst hv
    have hu : u = 0 := by omega
    subst hu
    rw [h2, h4]; rfl
  unfold nF
  refine ⟨⟨fun k => ?_, fun k hk => ?_⟩, fun k hk hb => ?_⟩
  · by_cases q : k < 30
    · obtain ⟨v, u, ⟨h1, h2⟩, h3, h4⟩ := key k
      rw [rowTo_lt q, h2, h4, n2_sub h3]
      exact ⟨v - u, by omega, rfl⟩
    · rw [rowTo_ge q]; exact h.1.1 k
  · by_cases q : k < 30
    · rw [rowTo_lt q]; exact z k (h.1.2 k hk)
    · rw [rowTo_ge q]; exact h.1.2 k hk
  · rw [rowTo_lt hk]; exact z k (h.2 k hk hb)
theorem nB1_ok {n w : Nat} {pg : Int32} {B : Row} (h : BP n pg B) (hw : w ≤ 20) (hn : n ≤ 30) : BP n pg (nB1 (n2 w) B) := by
  refine ⟨(n1_ok h.1 hw hn).2, fun k hk hb => ?_⟩
  unfold nB1
  rw [rowTo_lt hk, h.2 k hk hb]
  have h3 := nu_1 ⟨0, by omega⟩ ⟨w, by omega⟩
  dsimp only at h3
  exact h3.trans (congrArg n2 (Nat.zero_sub w))
theorem pDay_ok {K : KG} (hK : KOK K) {S : Sk} (h : SOK K S) : SOK K (pDay K S) := by
  have hd := dawn_ok hK h (kg K)
  exact ⟨nF_ok (nB1_ok hd.1 hK.2.1.1 hK.n30), h.2.1, h.2.2.1, hd.2⟩
theorem pDays_ok {K : KG} (hK : KOK K) {S : Sk} (h : SOK K S) (d : Nat) : SOK K (it (fun _ => pDay K) S d) :=
  it_inv (fun _ S => SOK K S) h d (fun _ _ _ hq => pDay_ok hK hq)
/-! rules don't look at other values -/
theorem stp_v {V W : Row} {m : Nat} (hVW : ∀ k, k < m → V k = W k) (hm : m ≤ 6) {c : Int32} (hc : okC m c) (q : Row × Nat) : stp V c q = stp W c q := by
  unfold stp
  by_cases h1 : c = -13
  · rw [if_pos h1, if_pos h1]
  · rw [if_neg h1, if_neg h1]
    by_cases h2 : isB c = true
    · rw [if_pos h2, if_pos h2]
    · rw [if_neg h2, if_neg h2]
      by_cases h3 : c < 0
      · rw [if_pos h3, if_pos h3]
        have hp := okC_push hm hc h1 h2
        rw [i_lt, show (0 : Int32).toInt = 0 from rfl] at h3
        have hs : ((-1 : Int32) - c).toInt = -1 - c.toInt := i_sub (a := -1) (b := c) (by show -2147483648 ≤ -1 - c.toInt; omega) (by show -1 - c.toInt < 2147483648; omega)
        rw [hVW _ (by rw [i_nat, hs]; omega)]
      · rw [if_neg h3, if_neg h3]
theorem evR_v {V W : Row} {m : Nat} (hVW : ∀ k, k < m → V k = W k) (hm : m ≤ 6) {code : Row} {n : Nat} (hc : ∀ i, i < n → okC m (code i)) : evR V code n = evR W code n := by
  induction n with
  | zero => rfl
  | succ n ih =>
    show stp V (code n) (evR V code n) = stp W (code n) (evR W code n)
    rw [ih (fun i hi => hc i (by omega)), stp_v hVW hm (hc n (by omega))]
