/-! ===== rules: class and model reckon alike ===== -/
/-- signs of two -/
def isBin (c : Int32) : Prop := c = -11 ∨ c = -12 ∨ c = -14 ∨ c = -15 ∨ c = -16 ∨ c = -17 ∨ c = -18 ∨ c = -19
def jP (c a b : Int32) : Int32 :=
  if c = -18 then a * b else if c = -17 then a - b else if c = -16 then a + b
  else if c = -15 then (if a = b then 1 else 0) else if c = -14 then (if b ≤ a then 0 else 1)
  else if c = -12 then (if a = 0 then 0 else if b = 0 then 0 else 1)
  else if c = -11 then (if a = 0 then (if b = 0 then 0 else 1) else 1) else (if b = 0 then 0 else a / b)
/-- the model's sign for the class's -/
def mc (c : Int32) : Int32 :=
  if c = -11 then -27 else if c = -12 then -26 else if c = -13 then -28 else if c = -14 then -24 else if c = -15 then -25
  else if c = -16 then -20 else if c = -17 then -21 else if c = -18 then -22 else if c = -19 then -23 else c
theorem joined_s {y : Lay} {M : Mem} {c : Int32} (h : isBin c) (a b : Int32) : f_X5_joined y c a b M = some (jP c a b) := by
  unfold f_X5_joined
  rcases h with rfl | rfl | rfl | rfl | rfl | rfl | rfl | rfl
  · rw [bR_f (by decide), bR_f (by decide), bR_f (by decide), bR_f (by decide), bR_f (by decide), bR_f (by decide), bR_f (by decide), bR_f (by decide)]
    show _ = some (if a = 0 then (if b = 0 then 0 else 1) else 1)
    simp only [jn_s]
    by_cases h1 : a = 0
    · rw [bR_t h1, if_pos h1]
      by_cases h2 : b = 0
      · rw [bR_t h2, if_pos h2]
      · rw [bR_f h2, if_neg h2]
    · rw [bR_f h1, if_neg h1]
  · rw [bR_f (by decide), bR_f (by decide), bR_f (by decide), bR_f (by decide), bR_f (by decide), bR_f (by decide), bR_f (by decide), bR_t (by decide)]
    show _ = some (if a = 0 then 0 else if b = 0 then 0 else 1)
    simp only [jn_s]
    by_cases h1 : a = 0
    · rw [bR_t h1, if_pos h1]
    · rw [bR_f h1, if_neg h1]
      by_cases h2 : b = 0
      · rw [bR_t h2, if_pos h2]
      · rw [bR_f h2, if_neg h2]
  · rw [bR_f (by decide), bR_f (by decide), bR_f (by decide), bR_f (by decide), bR_f (by decide), bR_t (by decide)]
    show _ = some (if b ≤ a then 0 else 1)
    simp only [jn_s]
    by_cases h1 : b ≤ a
    · rw [bR_t h1, if_pos h1]
    · rw [bR_f h1, if_neg h1]
  · rw [bR_f (by decide), bR_f (by decide), bR_f (by decide), bR_f (by decide), bR_t (by decide)]
    show _ = some (if a = b then 1 else 0)
    simp only [jn_s]
    by_cases h1 : a = b
    · rw [bR_t h1, if_pos h1]
    · rw [bR_f h1, if_neg h1]
  · rw [bR_f (by decide), bR_f (by decide), bR_f (by decide), bR_t (by decide)]
    rfl
  · rw [bR_f (by decide), bR_f (by decide), bR_t (by decide)]
    rfl
  · rw [bR_f (by decide), bR_t (by decide)]
    rfl
  · rw [bR_t (by decide)]
    show _ = some (if b = 0 then 0 else a / b)
    simp only [jn_s]
    by_cases h1 : b = 0
    · rw [bR_t h1, if_pos h1]
    · rw [bR_f h1, if_neg h1, gd_t h1]
theorem reckon_s {y : Lay} {M : Mem} {c : Int32} (h : isBin c) (a b : Int32) : f_X12_reckon y (mc c) a b M = some (jP c a b) := by
  unfold f_X12_reckon
  rcases h with rfl | rfl | rfl | rfl | rfl | rfl | rfl | rfl
  · rw [show mc (-11) = -27 by decide, bR_t (by decide)]
    show _ = some (if a = 0 then (if b = 0 then 0 else 1) else 1)
    simp only [jn_s]
    by_cases h1 : a = 0
    · rw [bR_t h1, if_pos h1]
      by_cases h2 : b = 0
      · rw [bR_t h2, if_pos h2]
      · rw [bR_f h2, if_neg h2]
    · rw [bR_f h1, if_neg h1]
  · rw [show mc (-12) = -26 by decide, bR_f (by decide), bR_t (by decide)]
    show _ = some (if a = 0 then 0 else if b = 0 then 0 else 1)
    simp only [jn_s]
    by_cases h1 : a = 0
    · rw [bR_t h1, if_pos h1]
    · rw [bR_f h1, if_neg h1]
      by_cases h2 : b = 0
      · rw [bR_t h2, if_pos h2]
      · rw [bR_f h2, if_neg h2]
  · rw [show mc (-14) = -24 by decide, bR_f (by decide), bR_f (by decide), bR_f (by decide), bR_t (by decide)]
    show _ = some (if b ≤ a then 0 else 1)
    simp only [jn_s]
    by_cases h1 : b ≤ a
    · rw [bR_t h1, if_pos h1]
    · rw [bR_f h1, if_neg h1]
  · rw [show mc (-15) = -25 by decide, bR_f (by decide), bR_f (by decide), bR_t (by decide)]
    show _ = some (if a = b then 1 else 0)
    simp only [jn_s]
    by_cases h1 : a = b
    · rw [bR_t h1, if_pos h1]
    · rw [bR_f h1, if_neg h1]
  · rw [show mc (-16) = -20 by decide, bR_f (by decide), bR_f (by decide), bR_f (by decide), bR_f (by decide), bR_f (by decide), bR_f (by decide), bR_f (by decide)]
    rfl
  · rw [show mc (-17) = -21 by decide, bR_f (by decide), bR_f (by decide), bR_f (by decide), bR_f (by decide), bR_f (by decide), bR_f (by decide), bR_t (by decide)]
    rfl
  · rw [show mc (-18) = -22 by decide, bR_f (by decide), bR_f (by decide), bR_f (by decide), bR_f (by decide), bR_f (by decide), bR_t (by decide)]
    rfl
  · rw [show mc (-19) = -23 by decide, bR_f (by decide), bR_f (by decide), bR_f (by decide), bR_f (by decide), bR_t (by decide)]
    show _ = some (if b = 0 then 0 else a / b)
    simp only [jn_s]
    by_cases h1 : b = 0
    · rw [bR_t h1, if_pos h1]
    · rw [bR_f h1, if_neg h1, gd_t h1]
