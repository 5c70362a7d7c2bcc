/-! the words that the class's constructor lays are the words of the language -/
theorem lx_tp : ∀ w, w < 34 → (tpL 179).2.getD w 0 = Int64.ofInt (w5E (lx w) 0 (lxK w) : Nat) := by decide +kernel
theorem g_lx.tp {M M' : q_M} (h : ∀ w, w < 34 → M'.2 5 w = (tpM M 179).2 5 w) : g_lx M' := fun w hw => (h w hw).trans ((tpM_at hw).trans (lx_tp w hw))
