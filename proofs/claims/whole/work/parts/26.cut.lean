/-! cut -/
section TC
variable {L : Nat} {xs : Nat → Int32} {E : q_E} {d : Nat} {M : q_M} {t : q_T} {Q : Option Value → q_M → Prop} {P : q_M → Prop}
/-- the answer of cut -/
def a_cut (t : q_T) (a b : Int32) (r : Int32) : Prop := (∀ i, i < t 13 0 → a = nI i → ∀ g, g < 3 → b = nI g → r = nI (t (14 + g) i)) ∧ ((¬ ((∃ i, i < t 13 0 ∧ a = nI i) ∧ ∃ g, g < 3 ∧ b = nI g)) → r = -1)
theorem a_cut.un {a b r r' : Int32} (h : a_cut t a b r) (h' : a_cut t a b r') : r = r' := by
  by_cases e : (∃ i, i < t 13 0 ∧ a = nI i) ∧ ∃ g, g < 3 ∧ b = nI g
  · obtain ⟨⟨i, hi, e1⟩, g, g1, e2⟩ := e
    rw [h.1 i hi e1 g g1 e2, h'.1 i hi e1 g g1 e2]
  · rw [h.2 e, h'.2 e]
theorem a_cut.at (hb : b_T t) {i g : Nat} (hi : i < t 13 0) (g1 : g < 3) {r : Int32} (hr : r = nI (t (14 + g) i)) : a_cut t (nI i) (nI g) r := by
  have h6 := hb.2.2.2.2.2.1
  refine ⟨fun j hj e k k1 e2 => ?_, fun z => absurd ⟨⟨i, hi, rfl⟩, g, g1, rfl⟩ z⟩
  rw [nI_eq (by omega) (by omega)] at e e2
  subst e
  subst e2
  exact hr
set_option maxRecDepth 100000 in
set_option maxHeartbeats 4000000 in
theorem c_X11_cut (hC : r_C 6 M t) (hb : b_T t) {a b : Int32} (hQ : ∀ r, a_cut t a b r → Q (some (.int r)) M) : q_C q_mt (L, xs, q_shp) E nX11_cut d 0 0 [.ref 2, .int a, .int b] M Q := by
  have h3 := hb.2.2.2.2.2.1
  have hcn : M.1 6 16 = nI (t 13 0) := hC.2.2.2.2.2.1
  refine q_inl rfl rfl 60 [] ?_
  have no : (¬ ∃ i, i < t 13 0 ∧ a = nI i) → a_cut t a b (Int32.ofInt (-1)) := fun z => ⟨fun i hi e => absurd ⟨i, hi, e⟩ z, fun _ => rfl⟩
  refine br_2 (fun q => hQ _ (no (fun z => ?_))) (fun q => br_2 (fun q2 => ?_) (fun q2 => hQ _ (no (fun z => ?_))))
  · obtain ⟨i, hi, rfl⟩ := z
    exact absurd q (nI_pos (by omega))
  · have q2 : a < M.1 6 16 := q2
    rw [hcn] at q2
    obtain ⟨i, hi, rfl⟩ := (q_rng (by omega)).mp ⟨Int32.not_lt.mp q, q2⟩
    have hin : q_in0 (nI i) 3 := q_n1 (by omega) (by omega)
    have hcl : (nI i).toNatClampNeg = i := nI_clamp (by omega)
    obtain ⟨r1, r2, r3⟩ := hC.2.2.2.2.2.2.2.2.2.2.2 i hi
    have eqb : ∀ g : Nat, g < 3 → b.toInt = (g : Int) → b = nI g := fun g hg e => Int32.toInt_inj.mp (by rw [e, nI_toInt (by omega)])
    refine And.intro (fun w => hQ _ ⟨fun _ _ _ g g1 e => ?_, fun _ => rfl⟩) (And.intro (fun w => And.intro hin (hQ _ ?_)) (And.intro (fun w => And.intro hin (hQ _ ?_)) (And.intro (fun w => And.intro hin (hQ _ ?_)) trivial)))
    · subst e
      rw [nI_toInt (by omega)] at w
      omega
    · rw [eqb 0 (by omega) w, hcl]; exact a_cut.at hb hi (by omega) r1
    · rw [eqb 1 (by omega) w, hcl]; exact a_cut.at hb hi (by omega) r2
    · rw [eqb 2 (by omega) w, hcl]; exact a_cut.at hb hi (by omega) r3
  · have q2 : ¬ a < M.1 6 16 := q2
    rw [hcn] at q2
    obtain ⟨i, hi, rfl⟩ := z
    exact absurd (nI_lt hi (by omega)) q2
set_option maxRecDepth 100000 in
set_option maxHeartbeats 4000000 in
theorem c_X12_cut (hR : r_R 280 M t) (hb : b_T t) {a b : Int32} (hQ : ∀ r, a_cut t a b r → Q (some (.int r)) M) : q_C q_mt (L, xs, q_shp) E nX12_cut (d + 1) 0 0 [.ref 271, .int a, .int b] M Q := by
  have h3 := hb.2.2.2.2.2.1
  have hcn : M.1 280 6 = nI (t 13 0) := hR.2.2.2.2.2.1
  refine q_inl rfl rfl 60 [] ?_
  refine And.intro (q_inD rfl) (c_X12_isIn (fun q1 q2 => br_f (by decide) ?_) (fun q => br_t (by decide) (hQ _ ⟨fun i hi e => absurd ?_ q, fun _ => rfl⟩)))
  · have q2 : a ≤ M.1 280 6 - 1 := q2
    rw [hcn] at q2
    obtain ⟨i, hi, rfl⟩ := (q_rng1 (by omega)).mp ⟨q1, q2⟩
    refine c_X12_isIn (fun q3 q4 => br_f (by decide) ?_) (fun q => br_t (by decide) (hQ _ ⟨fun _ _ _ g g1 e => absurd ?_ q, fun _ => rfl⟩))
    · obtain ⟨g, -, g2, rfl⟩ := (q_rngL (lo := 0) (hi := 2) (by omega) (by omega)).mp ⟨q3, q4⟩
      have e : Int32.ofInt 134 + Int32.ofInt 3 * nI i + nI g = nI (134 + 3 * i + g) := by
        have e1 : Int32.ofInt 3 * nI i = nI (3 * i) := (Int32.ofNat_mul 3 i).symm
        have e2 : Int32.ofInt 134 = nI 134 := rfl
        rw [e1, e2, nI_add, nI_add]
      have hin : q_in0 (Int32.ofInt 134 + Int32.ofInt 3 * nI i + nI g) 1685 := by rw [e]; exact q_n1 (by omega) (by omega)
      refine And.intro hin (hQ _ ?_)
      rw [e, nI_clamp (by omega)]
      obtain ⟨r1, r2, r3⟩ := hR.2.2.2.2.2.2.2.2.2.2.2 i hi
      have hg : g = 0 ∨ g = 1 ∨ g = 2 := by omega
      rcases hg with rfl | rfl | rfl
      · exact a_cut.at hb hi (by omega) r1
      · exact a_cut.at hb hi (by omega) (by rw [show 134 + 3 * i + 1 = 135 + 3 * i by omega]; exact r2)
      · exact a_cut.at hb hi (by omega) (by rw [show 134 + 3 * i + 2 = 136 + 3 * i by omega]; exact r3)
    · subst e
      exact ⟨nI_pos' (by omega), nI_le (b := 2) (by omega) (by omega)⟩
  · have z := (q_rng1 (n := t 13 0) (by omega)).mpr ⟨i, hi, e⟩
    refine ⟨z.1, ?_⟩
    show a ≤ M.1 280 6 - 1
    rw [hcn]
    exact z.2
theorem o_cut {a b : Int32} (hI : i_told M) (h1 : P M) : q_op2 (L, xs, q_shp) E nX11_cut nX12_cut (d + 1) [.int a, .int b] M P := by
  obtain ⟨t, hC, hR, hb⟩ := hI
  exact c_X11_cut hC hb (fun r hr => ⟨r, rfl, c_X12_cut hR hb (fun r' hr' => ⟨by rw [hr.un hr'], h1⟩)⟩)
end TC
