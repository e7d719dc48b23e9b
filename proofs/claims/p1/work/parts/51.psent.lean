theorem ev_sent0 : ∀ a : Fin 256, ∀ b : Fin 11, chkL (f_L_sent yS 1 (n2 a.val) (n2 b.val - 1) 110 MS) (f_X12_sent yS 73 (n2 a.val) (n2 b.val - 1)) = true := by decide +kernel
theorem ev_sent1 : ∀ a : Fin 256, ∀ b : Fin 11, chkL (f_L_sent yS 1 (n2 (a.val + 256)) (n2 b.val - 1) 110 MS) (f_X12_sent yS 73 (n2 (a.val + 256)) (n2 b.val - 1)) = true := by decide +kernel
