/-! judge, form, cut, fault, stopped -/
section TJ
variable {L : Nat} {xs : Nat → Int32} {E : q_E} {d : Nat} {M : q_M} {t : q_T} {Q : Option Value → q_M → Prop} {P : q_M → Prop}
/-- the answer of judge -/
def a_judge (t : q_T) (a b : Int32) (r : Int32) : Prop := (∀ i, i < t 2 0 → a = nI i → (b = 0 → r = nI (t 3 i)) ∧ (b = 1 → r = nI (t 4 i)) ∧ (¬ b = 0 → ¬ b = 1 → r = -1)) ∧ ((¬ ∃ i, i < t 2 0 ∧ a = nI i) → r = -1)
set_option maxRecDepth 100000 in
set_option maxHeartbeats 4000000 in
theorem c_X11_judge (hC : r_C 6 M t) (hb : b_T t) {a b : Int32} (hQ : ∀ r, a_judge t a b r → Q (some (.int r)) M) : q_C q_mt (L, xs, q_shp) E nX11_judge (d + 1) 0 0 [.ref 2, .int a, .int b] M Q := by
  refine q_inl rfl rfl 60 [] ?_
  refine d_hasJudge hC hb (fun i hi e => bn_t (by decide) ?_) (fun h => bn_f (by decide) (hQ _ ⟨fun i hi e => absurd ⟨i, hi, e⟩ h, fun _ => rfl⟩))
  subst e
  have hr := hC.2.2.2.2.2.2.2.1 i hi
  have hin : q_in0 (nI i) 11 := q_n1 (by omega) (by have := hb.2.2.1; omega)
  have hcl : (nI i).toNatClampNeg = i := nI_clamp (by have := hb.2.2.1; omega)
  have one : ∀ r, ((b = 0 → r = nI (t 3 i)) ∧ (b = 1 → r = nI (t 4 i)) ∧ (¬ b = 0 → ¬ b = 1 → r = -1)) → a_judge t (nI i) b r := fun r h => ⟨fun j hj e => by rw [nI_eq (by have := hb.2.2.1; omega) (by have := hb.2.2.1; omega)] at e; subst e; exact h, fun z => absurd ⟨i, hi, rfl⟩ z⟩
  refine bn_2 (fun h0 => bn_2 (fun h1 => hQ _ (one _ ⟨fun z => absurd z h0, fun z => absurd z h1, fun _ _ => rfl⟩)) (fun h1 => And.intro hin (hQ _ (one _ ⟨fun z => absurd z h0, fun _ => ?_, fun _ z => absurd h1 z⟩)))) (fun h0 => And.intro hin (hQ _ (one _ ⟨fun _ => ?_, fun z => ?_, fun z => absurd h0 z⟩)))
  · rw [hcl]; exact hr.2
  · rw [hcl]; exact hr.1
  · rw [h0] at z; exact absurd z (by decide)
set_option maxRecDepth 100000 in
set_option maxHeartbeats 4000000 in
theorem c_X12_judge (hR : r_R 280 M t) (hb : b_T t) {a b : Int32} (hQ : ∀ r, a_judge t a b r → Q (some (.int r)) M) : q_C q_mt (L, xs, q_shp) E nX12_judge (d + 2) 0 0 [.ref 271, .int a, .int b] M Q := by
  refine q_inl rfl rfl 60 [] ?_
  refine c_X12_isJudge hR hb (fun i hi e => br_f (by decide) ?_) (fun h => br_t (by decide) (hQ _ ⟨fun i hi e => absurd ⟨i, hi, e⟩ h, fun _ => rfl⟩))
  subst e
  have hr := hR.2.2.2.2.2.2.2.1 i hi
  have h10 := hb.2.2.1
  have one : ∀ r, ((b = 0 → r = nI (t 3 i)) ∧ (b = 1 → r = nI (t 4 i)) ∧ (¬ b = 0 → ¬ b = 1 → r = -1)) → a_judge t (nI i) b r := fun r h => ⟨fun j hj e => by rw [nI_eq (by omega) (by omega)] at e; subst e; exact h, fun z => absurd ⟨i, hi, rfl⟩ z⟩
  refine c_X12_isIn (fun q1 q2 => br_f (by decide) ?_) (fun q => br_t (by decide) (hQ _ (one _ ⟨fun z => absurd ?_ q, fun z => absurd ?_ q, fun _ _ => rfl⟩)))
  · obtain ⟨j, -, hj, rfl⟩ := (q_rngL (lo := 0) (hi := 1) (by omega) (by omega)).mp ⟨q1, q2⟩
    have e1 : (8 : Int32) + 2 * nI i + nI j = nI (8 + 2 * i + j) := by
      show nI 8 + nI 2 * nI i + nI j = _
      rw [show nI 2 * nI i = nI (2 * i) from (Int32.ofNat_mul 2 i).symm, nI_add, nI_add]
    have hin : q_in0 ((8 : Int32) + 2 * nI i + nI j) 1685 := by rw [e1]; exact q_n1 (by omega) (by omega)
    refine And.intro hin (hQ _ (one _ ?_))
    have e2 : ((8 : Int32) + 2 * nI i + nI j).toNatClampNeg = 8 + 2 * i + j := by rw [e1]; exact nI_clamp (by omega)
    have hj' : j = 0 ∨ j = 1 := by omega
    rcases hj' with rfl | rfl
    · refine ⟨fun _ => ?_, fun z => absurd z (by decide), fun z => absurd rfl z⟩
      show M.1 280 ((8 : Int32) + 2 * nI i + nI 0).toNatClampNeg = _
      rw [e2]; exact hr.1
    · refine ⟨fun z => absurd z (by decide), fun _ => ?_, fun _ z => absurd rfl z⟩
      show M.1 280 ((8 : Int32) + 2 * nI i + nI 1).toNatClampNeg = _
      rw [e2, show 8 + 2 * i + 1 = 9 + 2 * i by omega]; exact hr.2
  · subst z; decide
  · subst z; decide
theorem a_judge.un {a b r r' : Int32} (h : a_judge t a b r) (h' : a_judge t a b r') : r = r' := by
  by_cases e : ∃ i, i < t 2 0 ∧ a = nI i
  · obtain ⟨i, hi, e⟩ := e
    obtain ⟨h1, h2, h3⟩ := h.1 i hi e
    obtain ⟨g1, g2, g3⟩ := h'.1 i hi e
    by_cases b0 : b = 0
    · rw [h1 b0, g1 b0]
    · by_cases b1 : b = 1
      · rw [h2 b1, g2 b1]
      · rw [h3 b0 b1, g3 b0 b1]
  · rw [h.2 e, h'.2 e]
theorem o_judge {a b : Int32} (hI : i_told M) (h1 : P M) : q_op2 (L, xs, q_shp) E nX11_judge nX12_judge (d + 2) [.int a, .int b] M P := by
  obtain ⟨t, hC, hR, hb⟩ := hI
  exact c_X11_judge hC hb (fun r hr => ⟨r, rfl, c_X12_judge hR hb (fun r' hr' => ⟨by rw [hr.un hr'], h1⟩)⟩)
/-- the answer of form -/
def a_form (t : q_T) (a b : Int32) (r : Int32) : Prop := (∀ i, i < t 8 0 → a = nI i → ∀ g, 1 ≤ g → g ≤ 6 → b = nI g → r = nI (t 12 (6 * i + (g - 1)))) ∧ ((¬ ((∃ i, i < t 8 0 ∧ a = nI i) ∧ ∃ g, 1 ≤ g ∧ g ≤ 6 ∧ b = nI g)) → r = -1)
theorem a_form.un {a b r r' : Int32} (h : a_form t a b r) (h' : a_form t a b r') : r = r' := by
  by_cases e : (∃ i, i < t 8 0 ∧ a = nI i) ∧ ∃ g, 1 ≤ g ∧ g ≤ 6 ∧ b = nI g
  · obtain ⟨⟨i, hi, e1⟩, g, g1, g2, e2⟩ := e
    rw [h.1 i hi e1 g g1 g2 e2, h'.1 i hi e1 g g1 g2 e2]
  · rw [h.2 e, h'.2 e]
theorem a_form.at (hb : b_T t) {i g : Nat} (hi : i < t 8 0) (g1 : 1 ≤ g) (g2 : g ≤ 6) : a_form t (nI i) (nI g) (nI (t 12 (6 * i + (g - 1)))) := by
  have h6 := hb.2.2.2.2.1
  refine ⟨fun j hj e k k1 k2 e2 => ?_, fun z => absurd ⟨⟨i, hi, rfl⟩, g, g1, g2, rfl⟩ z⟩
  rw [nI_eq (by omega) (by omega)] at e e2
  subst e
  subst e2
  rfl
theorem f_ix {i g : Nat} (g1 : 1 ≤ g) : nI i * Int32.ofInt 6 + nI g - Int32.ofInt 1 = nI (6 * i + (g - 1)) := by
  have e1 : nI i * Int32.ofInt 6 = nI (i * 6) := (Int32.ofNat_mul i 6).symm
  rw [e1, nI_add, show i * 6 + g = (6 * i + (g - 1)) + 1 by omega]
  exact nI_pred _
theorem f_ix2 {i g : Nat} (g1 : 1 ≤ g) : Int32.ofInt 98 + Int32.ofInt 6 * nI i + nI g - Int32.ofInt 1 = nI (98 + (6 * i + (g - 1))) := by
  have e1 : Int32.ofInt 6 * nI i = nI (6 * i) := (Int32.ofNat_mul 6 i).symm
  have e2 : Int32.ofInt 98 = nI 98 := rfl
  rw [e1, e2, nI_add, nI_add, show 98 + 6 * i + g = (98 + (6 * i + (g - 1))) + 1 by omega]
  exact nI_pred _
set_option maxRecDepth 100000 in
set_option maxHeartbeats 4000000 in
theorem c_X11_form (hC : r_C 6 M t) (hb : b_T t) {a b : Int32} (hQ : ∀ r, a_form t a b r → Q (some (.int r)) M) : q_C q_mt (L, xs, q_shp) E nX11_form (d + 1) 0 0 [.ref 2, .int a, .int b] M Q := by
  have h6 := hb.2.2.2.2.1
  refine q_inl rfl rfl 60 [] ?_
  refine d_hasEntrant hC hb (fun i hi e => br_f (by decide) ?_) (fun h => br_t (by decide) (hQ _ ⟨fun i hi e => absurd ⟨i, hi, e⟩ h, fun _ => rfl⟩))
  subst e
  have no : (¬ ∃ g, 1 ≤ g ∧ g ≤ 6 ∧ b = nI g) → a_form t (nI i) b (Int32.ofInt (-1)) := fun z => ⟨fun _ _ _ g g1 g2 e => absurd ⟨g, g1, g2, e⟩ z, fun _ => rfl⟩
  refine br_2 (fun q => hQ _ (no (fun z => ?_))) (fun q => br_2 (fun q2 => ?_) (fun q2 => hQ _ (no (fun z => ?_))))
  · obtain ⟨g, g1, g2, rfl⟩ := z
    exact absurd q (Int32.not_lt.mpr (nI_le (a := 1) g1 (by omega)))
  · obtain ⟨g, g1, g2, rfl⟩ := (q_rngL (lo := 1) (hi := 6) (by omega) (by omega)).mp ⟨Int32.not_lt.mp q, q2⟩
    have e := f_ix (i := i) g1
    have hin : q_in0 (nI i * Int32.ofInt 6 + nI g - Int32.ofInt 1) 36 := by rw [e]; exact q_n1 (by omega) (by omega)
    refine And.intro hin (hQ _ ?_)
    rw [e, nI_clamp (by omega)]
    have hr := hC.2.2.2.2.2.2.2.2.2.2.1 i hi (g - 1) (by omega)
    show a_form t (nI i) (nI g) (M.1 16 (6 * i + (g - 1)))
    rw [show M.1 16 (6 * i + (g - 1)) = nI (t 12 (6 * i + (g - 1))) from hr]
    exact a_form.at hb hi g1 g2
  · obtain ⟨g, g1, g2, rfl⟩ := z
    exact absurd (show nI g ≤ nI 6 from nI_le g2 (by omega)) q2
set_option maxRecDepth 100000 in
set_option maxHeartbeats 4000000 in
theorem c_X12_form (hR : r_R 280 M t) (hb : b_T t) {a b : Int32} (hQ : ∀ r, a_form t a b r → Q (some (.int r)) M) : q_C q_mt (L, xs, q_shp) E nX12_form (d + 2) 0 0 [.ref 271, .int a, .int b] M Q := by
  have h6 := hb.2.2.2.2.1
  refine q_inl rfl rfl 60 [] ?_
  refine c_X12_isEntrant hR hb (fun i hi e => br_f (by decide) ?_) (fun h => br_t (by decide) (hQ _ ⟨fun i hi e => absurd ⟨i, hi, e⟩ h, fun _ => rfl⟩))
  subst e
  refine c_X12_isIn (fun q1 q2 => br_f (by decide) ?_) (fun q => br_t (by decide) (hQ _ ⟨fun _ _ _ g g1 g2 e => absurd ?_ q, fun _ => rfl⟩))
  · obtain ⟨g, g1, g2, rfl⟩ := (q_rngL (lo := 1) (hi := 6) (by omega) (by omega)).mp ⟨q1, q2⟩
    have e := f_ix2 (i := i) g1
    have hin : q_in0 (Int32.ofInt 98 + Int32.ofInt 6 * nI i + nI g - Int32.ofInt 1) 1685 := by rw [e]; exact q_n1 (by omega) (by omega)
    refine And.intro hin (hQ _ ?_)
    rw [e, nI_clamp (by omega)]
    have hr := hR.2.2.2.2.2.2.2.2.2.2.1 i hi (g - 1) (by omega)
    rw [hr]
    exact a_form.at hb hi g1 g2
  · subst e
    exact ⟨nI_le (a := 1) g1 (by omega), nI_le (b := 6) g2 (by omega)⟩
theorem o_form {a b : Int32} (hI : i_told M) (h1 : P M) : q_op2 (L, xs, q_shp) E nX11_form nX12_form (d + 2) [.int a, .int b] M P := by
  obtain ⟨t, hC, hR, hb⟩ := hI
  exact c_X11_form hC hb (fun r hr => ⟨r, rfl, c_X12_form hR hb (fun r' hr' => ⟨by rw [hr.un hr'], h1⟩)⟩)
/-- the faults are alike -/
def i_fault (M : q_M) : Prop := M.1 2 14 = M.1 271 11 ∧ M.1 2 15 = M.1 271 12 ∧ M.1 2 16 = M.1 271 29
set_option maxRecDepth 100000 in
theorem o_fault {a : Int32} (hI : i_fault M) (h1 : P M) : q_op2 (L, xs, q_shp) E nX11_fault nX12_fault d [.int a] M P := by
  refine q_inl rfl rfl 60 [] ?_
  refine bn_2 (fun q => bn_2 (fun q2 => ?_) (fun q2 => ?_)) (fun q => ?_)
  · refine ⟨_, rfl, q_inl rfl rfl 60 [] ?_⟩
    exact bn_t q (bn_t q2 ⟨rfl, h1⟩)
  · refine ⟨_, rfl, q_inl rfl rfl 60 [] ?_⟩
    exact bn_t q (bn_f q2 ⟨by rw [hI.2.1], h1⟩)
  · refine ⟨_, rfl, q_inl rfl rfl 60 [] ?_⟩
    exact bn_f q ⟨by rw [hI.1], h1⟩
set_option maxRecDepth 100000 in
theorem o_stopped (hI : i_fault M) (h1 : P M) : q_op2 (L, xs, q_shp) E nX11_stopped nX12_stopped d [] M P := by
  refine q_inl rfl rfl 60 [] ?_
  refine ⟨_, rfl, q_inl rfl rfl 60 [] ?_⟩
  exact ⟨by rw [hI.2.2], h1⟩
end TJ
