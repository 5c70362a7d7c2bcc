/-! what was told: t k i, the k-th row's i-th number: 0 rounds, 1 drop, 2 judges, 3 their lands, 4 their sorts, 5 dives, 6 groups, 7 degrees, 8 entrants, 9 pairs, 10 homes, 12 forms, 13 cuts, 14 their rounds, 15 how many, 16 anew, 17 laws -/
abbrev q_T : Type := Nat → Nat → Nat
/-- the class's Meet at cell o -/
def r_C (o : Nat) (M : q_M) (t : q_T) : Prop := M.1 o 0 = nI (t 0 0) ∧ M.1 o 1 = nI (t 1 0) ∧ M.1 o 2 = nI (t 2 0) ∧ M.1 o 5 = nI (t 5 0) ∧ M.1 o 9 = nI (t 8 0) ∧ M.1 o 16 = nI (t 13 0) ∧ M.1 (o + 11) 5 = nI (t 17 0) ∧
  (∀ j, j < t 2 0 → M.1 (o + 1) j = nI (t 3 j) ∧ M.1 (o + 2) j = nI (t 4 j)) ∧ (∀ i, i < t 5 0 → M.1 (o + 4) i = nI (t 6 i) ∧ M.1 (o + 5) i = nI (t 7 i)) ∧ (∀ e, e < t 8 0 → M.1 (o + 7) e = nI (t 9 e) ∧ M.1 (o + 8) e = nI (t 10 e)) ∧ (∀ e, e < t 8 0 → ∀ g, g < 6 → M.1 (o + 10) (6 * e + g) = nI (t 12 (6 * e + g))) ∧
  (∀ c, c < t 13 0 → M.1 (o + 15) c = nI (t 14 c) ∧ M.1 (o + 16) c = nI (t 15 c) ∧ M.1 (o + 17) c = nI (t 16 c))
/-- the reference's row a -/
def r_R (a : Nat) (M : q_M) (t : q_T) : Prop := M.1 a 0 = nI (t 0 0) ∧ M.1 a 1 = nI (t 1 0) ∧ M.1 a 2 = nI (t 2 0) ∧ M.1 a 3 = nI (t 5 0) ∧ M.1 a 4 = nI (t 8 0) ∧ M.1 a 6 = nI (t 13 0) ∧ M.1 a 5 = nI (t 17 0) ∧
  (∀ j, j < t 2 0 → M.1 a (8 + 2 * j) = nI (t 3 j) ∧ M.1 a (9 + 2 * j) = nI (t 4 j)) ∧ (∀ i, i < t 5 0 → M.1 a (30 + 2 * i) = nI (t 6 i) ∧ M.1 a (31 + 2 * i) = nI (t 7 i)) ∧ (∀ e, e < t 8 0 → M.1 a (50 + 2 * e) = nI (t 9 e) ∧ M.1 a (51 + 2 * e) = nI (t 10 e)) ∧ (∀ e, e < t 8 0 → ∀ g, g < 6 → M.1 a (98 + (6 * e + g)) = nI (t 12 (6 * e + g))) ∧
  (∀ c, c < t 13 0 → M.1 a (134 + 3 * c) = nI (t 14 c) ∧ M.1 a (135 + 3 * c) = nI (t 15 c) ∧ M.1 a (136 + 3 * c) = nI (t 16 c))
def b_T (t : q_T) : Prop := t 0 0 ≤ 6 ∧ t 1 0 ≤ 3 ∧ t 2 0 ≤ 11 ∧ t 5 0 ≤ 10 ∧ t 8 0 ≤ 6 ∧ t 13 0 ≤ 3 ∧ t 17 0 ≤ 6 ∧ (∀ j, j < t 2 0 → t 3 j ≤ 7 ∧ t 4 j ≤ 3) ∧ (∀ i, i < t 5 0 → 1 ≤ t 6 i ∧ t 6 i ≤ 6 ∧ 10 ≤ t 7 i ∧ t 7 i ≤ 60) ∧ (∀ e, e < t 8 0 → t 9 e ≤ 1 ∧ t 10 e ≤ 7)
/-- the invariant of what is told -/
def i_told (M : q_M) : Prop := ∃ t, r_C 6 M t ∧ r_R 280 M t ∧ b_T t
theorem q_rng {a : Int32} {n : Nat} (hn : n < 2 ^ 31) : (0 ≤ a ∧ a < nI n) ↔ ∃ i, i < n ∧ a = nI i := by
  constructor
  · intro ⟨h1, h2⟩
    obtain ⟨j, hj, rfl⟩ := nI_of (Int32.not_lt.mpr h1)
    rw [nI_ltI hj hn] at h2
    exact ⟨j, h2, rfl⟩
  · intro ⟨i, hi, e⟩
    subst e
    exact ⟨nI_pos' (by omega), nI_lt hi hn⟩
theorem q_rng1 {a : Int32} {n : Nat} (hn : n < 2 ^ 31) : (0 ≤ a ∧ a ≤ nI n - 1) ↔ ∃ i, i < n ∧ a = nI i := by
  have e1 : (nI n - 1).toInt = (n : Int) - 1 := by
    have e2 : (1 : Int32).toInt = 1 := by decide
    have e3 := nI_toInt hn
    rw [q_sub (by omega) (by omega), e3, e2]
  constructor
  · intro ⟨h1, h2⟩
    obtain ⟨j, hj, rfl⟩ := nI_of (Int32.not_lt.mpr h1)
    rw [Int32.le_iff_toInt_le, e1, nI_toInt hj] at h2
    exact ⟨j, by omega, rfl⟩
  · intro ⟨i, hi, e⟩
    subst e
    refine ⟨nI_pos' (by omega), ?_⟩
    rw [Int32.le_iff_toInt_le, e1, nI_toInt (by omega)]
    omega
/-- a number from lo to hi -/
theorem q_rngL {a : Int32} {lo hi : Nat} (hlo : lo < 2 ^ 31) (hn : hi < 2 ^ 31) : (nI lo ≤ a ∧ a ≤ nI hi) ↔ ∃ i, lo ≤ i ∧ i ≤ hi ∧ a = nI i := by
  constructor
  · intro ⟨h1, h2⟩
    have h3 : ¬ a < 0 := by
      rw [Int32.lt_iff_toInt_lt, Int32.toInt_zero]
      rw [Int32.le_iff_toInt_le, nI_toInt hlo] at h1
      omega
    obtain ⟨j, hj, rfl⟩ := nI_of h3
    rw [nI_leI hlo hj] at h1
    rw [nI_leI hj hn] at h2
    exact ⟨j, h1, h2, rfl⟩
  · intro ⟨i, h1, h2, e⟩
    subst e
    exact ⟨nI_le h1 (by omega), nI_le h2 hn⟩
section TT
variable {L : Nat} {xs : Nat → Int32} {E : q_E} {d : Nat} {M : q_M} {t : q_T} {Q : Option Value → q_M → Prop} {P : q_M → Prop}
set_option maxRecDepth 100000 in
theorem c_X12_isDive (hR : r_R 280 M t) (hb : b_T t) {a : Int32} (h1 : ∀ i, i < t 5 0 → a = nI i → Q (some (.int 1)) M) (h0 : (¬ ∃ i, i < t 5 0 ∧ a = nI i) → Q (some (.int 0)) M) : q_C q_mt (L, xs, q_shp) E nX12_isDive (d + 1) 0 0 [.ref 271, .int a] M Q := by
  refine q_inl rfl rfl 60 [] ?_
  refine And.intro (q_inD rfl) (c_X12_isIn (fun q1 q2 => And.intro (Or.inr rfl) ?_) (fun q => And.intro (Or.inl rfl) (h0 (fun z => q ?_))))
  · have q2 : a ≤ M.1 280 3 - 1 := q2
    rw [hR.2.2.2.1] at q2
    obtain ⟨i, hi, e⟩ := (q_rng1 (by have := hb.2.2.2.1; omega)).mp ⟨q1, q2⟩
    exact h1 i hi e
  · have z2 := (q_rng1 (by have := hb.2.2.2.1; omega)).mpr z
    refine ⟨z2.1, ?_⟩
    show a ≤ M.1 280 3 - 1
    rw [hR.2.2.2.1]
    exact z2.2
set_option maxRecDepth 100000 in
theorem c_X12_isJudge (hR : r_R 280 M t) (hb : b_T t) {a : Int32} (h1 : ∀ i, i < t 2 0 → a = nI i → Q (some (.int 1)) M) (h0 : (¬ ∃ i, i < t 2 0 ∧ a = nI i) → Q (some (.int 0)) M) : q_C q_mt (L, xs, q_shp) E nX12_isJudge (d + 1) 0 0 [.ref 271, .int a] M Q := by
  refine q_inl rfl rfl 60 [] ?_
  refine And.intro (q_inD rfl) (c_X12_isIn (fun q1 q2 => And.intro (Or.inr rfl) ?_) (fun q => And.intro (Or.inl rfl) (h0 (fun z => q ?_))))
  · have q2 : a ≤ M.1 280 2 - 1 := q2
    rw [hR.2.2.1] at q2
    obtain ⟨i, hi, e⟩ := (q_rng1 (by have := hb.2.2.1; omega)).mp ⟨q1, q2⟩
    exact h1 i hi e
  · have z2 := (q_rng1 (by have := hb.2.2.1; omega)).mpr z
    refine ⟨z2.1, ?_⟩
    show a ≤ M.1 280 2 - 1
    rw [hR.2.2.1]
    exact z2.2
set_option maxRecDepth 100000 in
theorem c_X12_isEntrant (hR : r_R 280 M t) (hb : b_T t) {a : Int32} (h1 : ∀ i, i < t 8 0 → a = nI i → Q (some (.int 1)) M) (h0 : (¬ ∃ i, i < t 8 0 ∧ a = nI i) → Q (some (.int 0)) M) : q_C q_mt (L, xs, q_shp) E nX12_isEntrant (d + 1) 0 0 [.ref 271, .int a] M Q := by
  refine q_inl rfl rfl 60 [] ?_
  refine And.intro (q_inD rfl) (c_X12_isIn (fun q1 q2 => And.intro (Or.inr rfl) ?_) (fun q => And.intro (Or.inl rfl) (h0 (fun z => q ?_))))
  · have q2 : a ≤ M.1 280 4 - 1 := q2
    rw [hR.2.2.2.2.1] at q2
    obtain ⟨i, hi, e⟩ := (q_rng1 (by have := hb.2.2.2.2.1; omega)).mp ⟨q1, q2⟩
    exact h1 i hi e
  · have z2 := (q_rng1 (by have := hb.2.2.2.2.1; omega)).mpr z
    refine ⟨z2.1, ?_⟩
    show a ≤ M.1 280 4 - 1
    rw [hR.2.2.2.2.1]
    exact z2.2
set_option maxRecDepth 100000 in
theorem c_X12_isRound (hR : r_R 280 M t) (hb : b_T t) {a : Int32} (h1 : ∀ i, 1 ≤ i → i ≤ t 0 0 → a = nI i → Q (some (.int 1)) M) (h0 : (¬ ∃ i, 1 ≤ i ∧ i ≤ t 0 0 ∧ a = nI i) → Q (some (.int 0)) M) : q_C q_mt (L, xs, q_shp) E nX12_isRound (d + 1) 0 0 [.ref 271, .int a] M Q := by
  refine q_inl rfl rfl 60 [] ?_
  refine And.intro (q_inD rfl) (c_X12_isIn (fun q1 q2 => And.intro (Or.inr rfl) ?_) (fun q => And.intro (Or.inl rfl) (h0 (fun z => q ?_))))
  · have q2 : a ≤ M.1 280 0 := q2
    rw [hR.1] at q2
    obtain ⟨i, hi, hi2, e⟩ := (q_rngL (lo := 1) (by omega) (by have := hb.1; omega)).mp ⟨q1, q2⟩
    exact h1 i hi hi2 e
  · have z2 := (q_rngL (lo := 1) (by omega) (by have := hb.1; omega)).mpr z
    refine ⟨z2.1, ?_⟩
    show a ≤ M.1 280 0
    rw [hR.1]
    exact z2.2
/-- the class's own questions, in the same words -/
theorem d_hasDive (hC : r_C 6 M t) (hb : b_T t) {a : Int32} (h1 : ∀ i, i < t 5 0 → a = nI i → Q (some (.int 1)) M) (h0 : (¬ ∃ i, i < t 5 0 ∧ a = nI i) → Q (some (.int 0)) M) : q_C q_mt (L, xs, q_shp) E nX2_hasDive d 0 0 [.ref 6, .int a] M Q := by
  refine c_X2_hasDive (fun q1 q2 => ?_) (fun q => h0 (fun z => q ?_))
  · rw [hC.2.2.2.1] at q2
    obtain ⟨i, hi, e⟩ := (q_rng (by have := hb.2.2.2.1; omega)).mp ⟨q1, q2⟩
    exact h1 i hi e
  · rw [hC.2.2.2.1]
    exact (q_rng (by have := hb.2.2.2.1; omega)).mpr z
theorem d_hasJudge (hC : r_C 6 M t) (hb : b_T t) {a : Int32} (h1 : ∀ i, i < t 2 0 → a = nI i → Q (some (.int 1)) M) (h0 : (¬ ∃ i, i < t 2 0 ∧ a = nI i) → Q (some (.int 0)) M) : q_C q_mt (L, xs, q_shp) E nX2_hasJudge d 0 0 [.ref 6, .int a] M Q := by
  refine c_X2_hasJudge (fun q1 q2 => ?_) (fun q => h0 (fun z => q ?_))
  · rw [hC.2.2.1] at q2
    obtain ⟨i, hi, e⟩ := (q_rng (by have := hb.2.2.1; omega)).mp ⟨q1, q2⟩
    exact h1 i hi e
  · rw [hC.2.2.1]
    exact (q_rng (by have := hb.2.2.1; omega)).mpr z
theorem d_hasEntrant (hC : r_C 6 M t) (hb : b_T t) {a : Int32} (h1 : ∀ i, i < t 8 0 → a = nI i → Q (some (.int 1)) M) (h0 : (¬ ∃ i, i < t 8 0 ∧ a = nI i) → Q (some (.int 0)) M) : q_C q_mt (L, xs, q_shp) E nX2_hasEntrant d 0 0 [.ref 6, .int a] M Q := by
  refine c_X2_hasEntrant (fun q1 q2 => ?_) (fun q => h0 (fun z => q ?_))
  · rw [hC.2.2.2.2.1] at q2
    obtain ⟨i, hi, e⟩ := (q_rng (by have := hb.2.2.2.2.1; omega)).mp ⟨q1, q2⟩
    exact h1 i hi e
  · rw [hC.2.2.2.2.1]
    exact (q_rng (by have := hb.2.2.2.2.1; omega)).mpr z
theorem d_hasRound (hC : r_C 6 M t) (hb : b_T t) {a : Int32} (h1 : ∀ i, 1 ≤ i → i ≤ t 0 0 → a = nI i → Q (some (.int 1)) M) (h0 : (¬ ∃ i, 1 ≤ i ∧ i ≤ t 0 0 ∧ a = nI i) → Q (some (.int 0)) M) : q_C q_mt (L, xs, q_shp) E nX2_hasRound d 0 0 [.ref 6, .int a] M Q := by
  refine c_X2_hasRound (fun q1 q2 => ?_) (fun q => h0 (fun z => q ?_))
  · rw [hC.1] at q2
    obtain ⟨i, hi, hi2, e⟩ := (q_rngL (lo := 1) (by omega) (by have := hb.1; omega)).mp ⟨q1, q2⟩
    exact h1 i hi hi2 e
  · rw [hC.1]
    exact (q_rngL (lo := 1) (by omega) (by have := hb.1; omega)).mpr z
/-- the answer of dive -/
def a_dive (t : q_T) (a b : Int32) (r : Int32) : Prop := (∀ i, i < t 5 0 → a = nI i → (b = 0 → r = nI (t 6 i)) ∧ (b = 1 → r = nI (t 7 i)) ∧ (¬ b = 0 → ¬ b = 1 → r = -1)) ∧ ((¬ ∃ i, i < t 5 0 ∧ a = nI i) → r = -1)
set_option maxRecDepth 100000 in
set_option maxHeartbeats 4000000 in
theorem c_X11_dive (hC : r_C 6 M t) (hb : b_T t) {a b : Int32} (hQ : ∀ r, a_dive t a b r → Q (some (.int r)) M) : q_C q_mt (L, xs, q_shp) E nX11_dive (d + 1) 0 0 [.ref 2, .int a, .int b] M Q := by
  refine q_inl rfl rfl 60 [] ?_
  refine d_hasDive hC hb (fun i hi e => bn_t (by decide) ?_) (fun h => bn_f (by decide) (hQ _ ⟨fun i hi e => absurd ⟨i, hi, e⟩ h, fun _ => rfl⟩))
  subst e
  have hr := hC.2.2.2.2.2.2.2.2.1 i hi
  have hin : q_in0 (nI i) 10 := q_n1 (by omega) (by have := hb.2.2.2.1; omega)
  have hcl : (nI i).toNatClampNeg = i := nI_clamp (by have := hb.2.2.2.1; omega)
  have one : ∀ r, ((b = 0 → r = nI (t 6 i)) ∧ (b = 1 → r = nI (t 7 i)) ∧ (¬ b = 0 → ¬ b = 1 → r = -1)) → a_dive t (nI i) b r := fun r h => ⟨fun j hj e => by rw [nI_eq (by have := hb.2.2.2.1; omega) (by have := hb.2.2.2.1; omega)] at e; subst e; exact h, fun z => absurd ⟨i, hi, rfl⟩ z⟩
  refine bn_2 (fun h0 => bn_2 (fun h1 => hQ _ (one _ ⟨fun z => absurd z h0, fun z => absurd z h1, fun _ _ => rfl⟩)) (fun h1 => And.intro hin (hQ _ (one _ ⟨fun z => absurd z h0, fun _ => ?_, fun _ z => absurd h1 z⟩)))) (fun h0 => And.intro hin (hQ _ (one _ ⟨fun _ => ?_, fun z => ?_, fun z => absurd h0 z⟩)))
  · rw [hcl]; exact hr.2
  · rw [hcl]; exact hr.1
  · rw [h0] at z; exact absurd z (by decide)
set_option maxRecDepth 100000 in
set_option maxHeartbeats 4000000 in
theorem c_X12_dive (hR : r_R 280 M t) (hb : b_T t) {a b : Int32} (hQ : ∀ r, a_dive t a b r → Q (some (.int r)) M) : q_C q_mt (L, xs, q_shp) E nX12_dive (d + 2) 0 0 [.ref 271, .int a, .int b] M Q := by
  refine q_inl rfl rfl 60 [] ?_
  refine c_X12_isDive hR hb (fun i hi e => br_f (by decide) ?_) (fun h => br_t (by decide) (hQ _ ⟨fun i hi e => absurd ⟨i, hi, e⟩ h, fun _ => rfl⟩))
  subst e
  have hr := hR.2.2.2.2.2.2.2.2.1 i hi
  have h10 := hb.2.2.2.1
  have one : ∀ r, ((b = 0 → r = nI (t 6 i)) ∧ (b = 1 → r = nI (t 7 i)) ∧ (¬ b = 0 → ¬ b = 1 → r = -1)) → a_dive t (nI i) b r := fun r h => ⟨fun j hj e => by rw [nI_eq (by omega) (by omega)] at e; subst e; exact h, fun z => absurd ⟨i, hi, rfl⟩ z⟩
  refine c_X12_isIn (fun q1 q2 => br_f (by decide) ?_) (fun q => br_t (by decide) (hQ _ (one _ ⟨fun z => absurd ?_ q, fun z => absurd ?_ q, fun _ _ => rfl⟩)))
  · obtain ⟨j, -, hj, rfl⟩ := (q_rngL (lo := 0) (hi := 1) (by omega) (by omega)).mp ⟨q1, q2⟩
    have e1 : (30 : Int32) + 2 * nI i + nI j = nI (30 + 2 * i + j) := by
      show nI 30 + nI 2 * nI i + nI j = _
      rw [show nI 2 * nI i = nI (2 * i) from (Int32.ofNat_mul 2 i).symm, nI_add, nI_add]
    have hin : q_in0 ((30 : Int32) + 2 * nI i + nI j) 1685 := by rw [e1]; exact q_n1 (by omega) (by omega)
    refine And.intro hin (hQ _ (one _ ?_))
    have e2 : ((30 : Int32) + 2 * nI i + nI j).toNatClampNeg = 30 + 2 * i + j := by rw [e1]; exact nI_clamp (by omega)
    have hj' : j = 0 ∨ j = 1 := by omega
    rcases hj' with rfl | rfl
    · refine ⟨fun _ => ?_, fun z => absurd z (by decide), fun z => absurd rfl z⟩
      show M.1 280 ((30 : Int32) + 2 * nI i + nI 0).toNatClampNeg = _
      rw [e2]; exact hr.1
    · refine ⟨fun z => absurd z (by decide), fun _ => ?_, fun _ z => absurd rfl z⟩
      show M.1 280 ((30 : Int32) + 2 * nI i + nI 1).toNatClampNeg = _
      rw [e2, show 30 + 2 * i + 1 = 31 + 2 * i by omega]; exact hr.2
  · subst z; decide
  · subst z; decide
theorem a_dive.un {a b r r' : Int32} (h : a_dive t a b r) (h' : a_dive t a b r') : r = r' := by
  by_cases e : ∃ i, i < t 5 0 ∧ a = nI i
  · obtain ⟨i, hi, e⟩ := e
    obtain ⟨h1, h2, h3⟩ := h.1 i hi e
    obtain ⟨g1, g2, g3⟩ := h'.1 i hi e
    by_cases b0 : b = 0
    · rw [h1 b0, g1 b0]
    · by_cases b1 : b = 1
      · rw [h2 b1, g2 b1]
      · rw [h3 b0 b1, g3 b0 b1]
  · rw [h.2 e, h'.2 e]
theorem o_dive {a b : Int32} (hI : i_told M) (h1 : P M) : q_op2 (L, xs, q_shp) E nX11_dive nX12_dive (d + 2) [.int a, .int b] M P := by
  obtain ⟨t, hC, hR, hb⟩ := hI
  exact c_X11_dive hC hb (fun r hr => ⟨r, rfl, c_X12_dive hR hb (fun r' hr' => ⟨by rw [hr.un hr'], h1⟩)⟩)
end TT
