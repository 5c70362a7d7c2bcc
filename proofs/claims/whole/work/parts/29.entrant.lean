/-! entrant -/
section TE
variable {L : Nat} {xs : Nat → Int32} {E : q_E} {d : Nat} {M : q_M} {t : q_T} {Q : Option Value → q_M → Prop} {P : q_M → Prop}
/-- who is in, and how many DIVES each was given, as both sides hold it -/
def i_ent (t : q_T) (M : q_M) : Prop := ∀ e, e < t 8 0 → M.1 46 e = M.1 284 (612 + e) ∧ M.1 49 e = nI (g_cnt M e (t 0 0))
/-- the answer of entrant -/
def a_ent (t : q_T) (M : q_M) (a b : Int32) (r : Int32) : Prop := (∀ e, e < t 8 0 → a = nI e → (b = nI 0 → r = nI (t 9 e)) ∧ (b = nI 1 → r = nI (t 10 e)) ∧ (b = nI 2 → r = M.1 284 (612 + e)) ∧ (b = nI 3 → r = nI (g_cnt M e (t 0 0))) ∧ ((¬ ∃ g, g < 4 ∧ b = nI g) → r = -1)) ∧ ((¬ ∃ e, e < t 8 0 ∧ a = nI e) → r = -1)
theorem a_ent.un {a b r r' : Int32} (h : a_ent t M a b r) (h' : a_ent t M a b r') : r = r' := by
  by_cases e : ∃ e, e < t 8 0 ∧ a = nI e
  · obtain ⟨e, he, e1⟩ := e
    obtain ⟨h0, h1, h2, h3, h4⟩ := h.1 e he e1
    obtain ⟨k0, k1, k2, k3, k4⟩ := h'.1 e he e1
    by_cases g : ∃ g, g < 4 ∧ b = nI g
    · obtain ⟨g, hg, eg⟩ := g
      have hg' : g = 0 ∨ g = 1 ∨ g = 2 ∨ g = 3 := by omega
      rcases hg' with rfl | rfl | rfl | rfl
      · rw [h0 eg, k0 eg]
      · rw [h1 eg, k1 eg]
      · rw [h2 eg, k2 eg]
      · rw [h3 eg, k3 eg]
    · rw [h4 g, k4 g]
  · rw [h.2 e, h'.2 e]
theorem a_ent.at (hb : b_T t) {e : Nat} (he : e < t 8 0) {b r : Int32} (h : (b = nI 0 → r = nI (t 9 e)) ∧ (b = nI 1 → r = nI (t 10 e)) ∧ (b = nI 2 → r = M.1 284 (612 + e)) ∧ (b = nI 3 → r = nI (g_cnt M e (t 0 0))) ∧ ((¬ ∃ g, g < 4 ∧ b = nI g) → r = -1)) : a_ent t M (nI e) b r := by
  have h6 := hb.2.2.2.2.1
  refine ⟨fun j hj e1 => ?_, fun z => absurd ⟨e, he, rfl⟩ z⟩
  rw [nI_eq (by omega) (by omega)] at e1
  subst e1
  exact h
theorem a_ent.no {a b : Int32} (h : ¬ ∃ e, e < t 8 0 ∧ a = nI e) : a_ent t M a b (Int32.ofInt (-1)) := ⟨fun e he e1 => absurd ⟨e, he, e1⟩ h, fun _ => rfl⟩
/-- one of the four -/
theorem a_ent.k (hb : b_T t) {e g : Nat} (he : e < t 8 0) (hg : g < 4) {r : Int32} (h0 : g = 0 → r = nI (t 9 e)) (h1 : g = 1 → r = nI (t 10 e)) (h2 : g = 2 → r = M.1 284 (612 + e)) (h3 : g = 3 → r = nI (g_cnt M e (t 0 0))) : a_ent t M (nI e) (nI g) r := by
  refine a_ent.at hb he ⟨fun z => h0 ?_, fun z => h1 ?_, fun z => h2 ?_, fun z => h3 ?_, fun z => absurd ⟨g, hg, rfl⟩ z⟩ <;> exact (nI_eq (by omega) (by omega)).mp z
theorem a_ent.out (hb : b_T t) {e : Nat} (he : e < t 8 0) {b : Int32} (h : ¬ ∃ g, g < 4 ∧ b = nI g) : a_ent t M (nI e) b (Int32.ofInt (-1)) :=
  a_ent.at hb he ⟨fun z => absurd ⟨0, by omega, z⟩ h, fun z => absurd ⟨1, by omega, z⟩ h, fun z => absurd ⟨2, by omega, z⟩ h, fun z => absurd ⟨3, by omega, z⟩ h, fun _ => rfl⟩
set_option maxRecDepth 100000 in
set_option maxHeartbeats 4000000 in
theorem c_X11_entrant (hC : r_C 6 M t) (hb : b_T t) (hs : i_ent t M) {a b : Int32} (hQ : ∀ r, a_ent t M a b r → Q (some (.int r)) M) : q_C q_mt (L, xs, q_shp) E nX11_entrant (d + 1) 0 0 [.ref 2, .int a, .int b] M Q := by
  have h6 := hb.2.2.2.2.1
  refine q_inl rfl rfl 60 [] ?_
  refine d_hasEntrant hC hb (fun e he e1 => bn_t (by decide) ?_) (fun h => bn_f (by decide) (hQ _ (a_ent.no h)))
  subst e1
  have hin : q_in0 (nI e) 6 := q_n1 (by omega) (by omega)
  have hcl : (nI e).toNatClampNeg = e := nI_clamp (by omega)
  obtain ⟨r1, r2⟩ := hC.2.2.2.2.2.2.2.2.2.1 e he
  obtain ⟨s1, s2⟩ := hs e he
  have eqb : ∀ g : Nat, g < 4 → b.toInt = (g : Int) → b = nI g := fun g hg z => Int32.toInt_inj.mp (by rw [z, nI_toInt (by omega)])
  refine And.intro (fun w => hQ _ (a_ent.out hb he (fun z => ?_))) (And.intro (fun w => And.intro hin (hQ _ ?_)) (And.intro (fun w => And.intro hin (hQ _ ?_)) (And.intro (fun w => And.intro hin (hQ _ ?_)) (And.intro (fun w => And.intro hin (hQ _ ?_)) trivial))))
  · obtain ⟨g, hg, rfl⟩ := z
    rw [nI_toInt (by omega)] at w
    omega
  · rw [eqb 0 (by omega) w, hcl]; exact a_ent.k hb he (by omega) (fun _ => r1) (fun z => by omega) (fun z => by omega) (fun z => by omega)
  · rw [eqb 1 (by omega) w, hcl]; exact a_ent.k hb he (by omega) (fun z => by omega) (fun _ => r2) (fun z => by omega) (fun z => by omega)
  · rw [eqb 2 (by omega) w, hcl]; exact a_ent.k hb he (by omega) (fun z => by omega) (fun z => by omega) (fun _ => s1) (fun z => by omega)
  · rw [eqb 3 (by omega) w, hcl]; exact a_ent.k hb he (by omega) (fun z => by omega) (fun z => by omega) (fun z => by omega) (fun _ => s2)
set_option maxRecDepth 100000 in
set_option maxHeartbeats 4000000 in
theorem c_X12_entrant (hR : r_R 280 M t) (hb : b_T t) {a b : Int32} (hQ : ∀ r, a_ent t M a b r → Q (some (.int r)) M) : q_C q_mt (L, xs, q_shp) E nX12_entrant (d + 3) 0 0 [.ref 271, .int a, .int b] M Q := by
  have h6 := hb.2.2.2.2.1
  refine q_inl rfl rfl 60 [] ?_
  refine c_X12_isEntrant hR hb (fun e he e1 => br_f (by decide) ?_) (fun h => br_t (by decide) (hQ _ (a_ent.no h)))
  subst e1
  refine c_X12_isIn (fun q3 q4 => bn_t (by decide) ?_) (fun q => bn_f (by decide) (hQ _ (a_ent.out hb he (fun z => q ?_))))
  · obtain ⟨g, -, g2, rfl⟩ := (q_rngL (lo := 0) (hi := 3) (by omega) (by omega)).mp ⟨q3, q4⟩
    obtain ⟨r1, r2⟩ := hR.2.2.2.2.2.2.2.2.2.1 e he
    refine br_2 (fun q => bn_2 (fun q2 => ?_) (fun q2 => ?_)) (fun q => ?_)
    · have q : nI 2 ≤ nI g := q
      have q2 : ¬ nI g = nI 2 := q2
      rw [nI_leI (by omega) (by omega)] at q
      rw [nI_eq (by omega) (by omega)] at q2
      exact c_X12_givenOf hR hb (by omega) (hQ _ (a_ent.k hb he (by omega) (fun z => by omega) (fun z => by omega) (fun z => by omega) (fun _ => rfl)))
    · have q2 : nI g = nI 2 := q2
      rw [nI_eq (by omega) (by omega)] at q2
      have e0 : Int32.ofInt 612 + nI e = nI (612 + e) := nI_add 612 e
      refine And.intro (show q_in0 (Int32.ofInt 612 + nI e) 634 by rw [e0]; exact q_n1 (by omega) (by omega)) (hQ _ ?_)
      rw [e0, nI_clamp (by omega)]
      exact a_ent.k hb he (by omega) (fun z => by omega) (fun z => by omega) (fun _ => rfl) (fun z => by omega)
    · have q : ¬ nI 2 ≤ nI g := q
      rw [nI_leI (by omega) (by omega)] at q
      have e0 : Int32.ofInt 50 + Int32.ofInt 2 * nI e + nI g = nI (50 + 2 * e + g) := by
        have z1 : Int32.ofInt 2 * nI e = nI (2 * e) := (Int32.ofNat_mul 2 e).symm
        have z2 : Int32.ofInt 50 = nI 50 := rfl
        rw [z1, z2, nI_add, nI_add]
      refine And.intro (show q_in0 (Int32.ofInt 50 + Int32.ofInt 2 * nI e + nI g) 1685 by rw [e0]; exact q_n1 (by omega) (by omega)) (hQ _ ?_)
      rw [e0, nI_clamp (by omega)]
      have hg : g = 0 ∨ g = 1 := by omega
      rcases hg with rfl | rfl
      · exact a_ent.k hb he (by omega) (fun _ => r1) (fun z => by omega) (fun z => by omega) (fun z => by omega)
      · exact a_ent.k hb he (by omega) (fun z => by omega) (fun _ => by rw [show 50 + 2 * e + 1 = 51 + 2 * e by omega]; exact r2) (fun z => by omega) (fun z => by omega)
  · obtain ⟨g, hg, rfl⟩ := z
    exact ⟨nI_pos' (by omega), nI_le (b := 3) (by omega) (by omega)⟩
theorem o_entrant {a b : Int32} (hC : r_C 6 M t) (hR : r_R 280 M t) (hb : b_T t) (hs : i_ent t M) (h1 : P M) : q_op2 (L, xs, q_shp) E nX11_entrant nX12_entrant (d + 3) [.int a, .int b] M P :=
  c_X11_entrant hC hb hs (fun r hr => ⟨r, rfl, c_X12_entrant hR hb (fun r' hr' => ⟨by rw [hr.un hr'], h1⟩)⟩)
end TE
