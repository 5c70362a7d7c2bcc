/-! what the calls owe: entrant -/
section WY
variable {L : Nat} {xs : Nat → Int32} {E : q_E} {M : q_M} {t : q_T} {n : sN}
theorem cnt_gv {e : Nat} (g : g_R M t n) (he : e < t 8 0) : ∀ {k : Nat}, k ≤ t 0 0 → g_cnt M e k = fb_ct (gvE n e) k
  | 0, _ => rfl
  | k + 1, hk => by
    have h6 := g.e6
    have r6 := g.r6
    have ih := cnt_gv g he (k := k) (by omega)
    have sl := (g.2.2.2.1 e he k (by omega)).2.2.2.2.2.2.1
    have ea : M.1 284 (576 + (6 * e + k)) = Int32.ofInt (n (576 + (6 * e + k))) := g.at (by omega)
    show g_cnt M e k + g_fl M e k = _
    unfold g_fl
    rw [ea]
    rcases sl with y | y
    · rw [y, if_neg (by decide), ct_f (p := gvE n e) (decide_eq_false (by rw [y]; decide)), ih]
      rfl
    · rw [y, if_pos (by decide), ct_t (p := gvE n e) (decide_eq_true y), ih]
theorem w_entrant : ∀ a b : Int32, q_opOK (L, xs, q_shp) E iW iW nX11_entrant nX12_entrant 1299 [.int a, .int b] := fun a b M ⟨t, n, p, s, H, kp, h⟩ => o_entrant (d := 1296) h.1.1.1.2.1 h.1.1.1.1.1 h.1.1.1.1.2.1.1 (fun e he => by
  have h6 := h.1.1.1.R.e6
  have y := h.1.1.1.2.2.2.2.1 e (by omega)
  refine ⟨y.1.trans (h.1.1.1.1.at (by omega)).symm, ?_⟩
  rw [cnt_gv h.1.1.1.1 he (Nat.le_refl _)]
  have z := y.2.2.1
  unfold gS at z
  rw [if_pos he] at z
  exact z) ⟨t, n, p, s, H, kp, h⟩
end WY
