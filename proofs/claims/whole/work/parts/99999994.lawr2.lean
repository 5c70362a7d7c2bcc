/-! how the reference reads a LAW: one step each -/
section LS
variable {L : Nat} {xs : Nat → Int32} {E : q_E} {d : Nat} {M : q_M} {t : q_T} {n : sN} {Q : Option Value → q_M → Prop} {P : q_M → Prop}
variable {x : Nat → Nat} {len : Nat} {tok : Nat → Tok} {T : Nat}
theorem jn_add {p : Tok} (h : ¬ addC p = 0) : jnC p = addC p := if_pos h
theorem jn_mul {p : Tok} (h0 : addC p = 0) (h : ¬ mulC p = 0) : jnC p = mulC p := by
  unfold jnC
  rw [if_neg (by omega), if_pos h]
theorem jn_cmp {p : Tok} (h0 : addC p = 0) (h1 : mulC p = 0) (h : ¬ cmpC p = 0) : jnC p = cmpC p := by
  unfold jnC
  rw [if_neg (by omega), if_neg (by omega), if_pos h]
theorem jn_no {p : Tok} (h0 : addC p = 0) (h1 : mulC p = 0) (h : cmpC p = 0) : jnC p = 99 := by
  unfold jnC
  rw [if_neg (by omega), if_neg (by omega), if_neg (by omega)]
theorem jn_k {p : Tok} (h : ¬ p.1 = 4) : jnC p = 99 := by
  have ne : ∀ c, ¬ p = (4, c) := fun c e => h (by rw [e])
  refine jn_no ?_ ?_ ?_
  · unfold addC
    rw [if_neg (ne _), if_neg (ne _)]
  · unfold mulC
    rw [if_neg (ne _), if_neg (ne _), if_neg (ne _)]
  · unfold cmpC
    rw [if_neg (ne _), if_neg (ne _), if_neg (ne _)]
theorem jn_sg {c : Nat} (h : isSg c = false) : jnC (4, c) = 99 := by
  have h := isSg_f.mp h
  have ne : ∀ k, ¬ c = k → ¬ ((4, c) : Tok) = (4, k) := fun k e z => e (pr_2 z)
  refine jn_no ?_ ?_ ?_
  · unfold addC
    rw [if_neg (ne _ (by omega)), if_neg (ne _ (by omega))]
  · unfold mulC
    rw [if_neg (ne _ (by omega)), if_neg (ne _ (by omega)), if_neg (ne _ (by omega))]
  · unfold cmpC
    rw [if_neg (ne _ (by omega)), if_neg (ne _ (by omega)), if_neg (ne _ (by omega))]
set_option maxRecDepth 100000 in
set_option maxHeartbeats 4000000 in
theorem k_joinHere {i : Nat} (g : g_rt M x len tok T i) (hQ : Q (some (.int (Int32.ofInt (nn (jnC (tok i)))))) M) : q_C q_mt (L, xs, q_shp) E nX12_joinHere (d) 0 0 [.ref 271] M Q := by
  have i12 := g.i12
  obtain ⟨a, a4, ea, _, _, a3⟩ := kR.a g.tt g.k
  by_cases q : (tok i).1 = 4 ∧ isSg (tok i).2 = true
  · have e3 : a = 3 := a3.mpr q
    subst e3
    have e5 := (g.k.2.2.2.2.2.1 q.1).2
    have et := tk_pr q.1
    have hs := isSg_t.mp q.2
    rw [et] at hQ
    revert hQ e5
    generalize (tok i).2 = c at hs
    intro hQ e5
    obtain rfl | rfl | rfl | rfl | rfl | rfl | rfl | rfl | rfl | rfl | rfl | rfl | rfl := hs
    · refine w_in 90 [] ?_
      refine ⟨_, g.2.2.1, ?_⟩
      refine ⟨i, _, by (first | assumption | (simp only [z_nat, z_lit, ← Int32.ofInt_add, ← Int32.ofInt_sub, ← Int32.ofInt_mul]; exact congrArg Int32.ofInt (by omega)) | (simp only [z_nat, z_lit, ← Int32.ofInt_add, ← Int32.ofInt_sub, ← Int32.ofInt_mul]; done) | exact congrArg Int32.ofInt (by omega) | rfl), by (dsimp only; omega), ea, ?_⟩
      refine z_eq 3 3 (fun _ => ?_) (fun z => absurd rfl z)
      refine ⟨_, g.2.2.1, ?_⟩
      refine ⟨i, _, by (first | assumption | (simp only [z_nat, z_lit, ← Int32.ofInt_add, ← Int32.ofInt_sub, ← Int32.ofInt_mul]; exact congrArg Int32.ofInt (by omega)) | (simp only [z_nat, z_lit, ← Int32.ofInt_add, ← Int32.ofInt_sub, ← Int32.ofInt_mul]; done) | exact congrArg Int32.ofInt (by omega) | rfl), by (dsimp only; omega), e5, ?_⟩
      exact ⟨fun z => absurd z (by decide), sw_at 0 (by decide) rfl ⟨_, rfl, hQ⟩⟩
    · refine w_in 90 [] ?_
      refine ⟨_, g.2.2.1, ?_⟩
      refine ⟨i, _, by (first | assumption | (simp only [z_nat, z_lit, ← Int32.ofInt_add, ← Int32.ofInt_sub, ← Int32.ofInt_mul]; exact congrArg Int32.ofInt (by omega)) | (simp only [z_nat, z_lit, ← Int32.ofInt_add, ← Int32.ofInt_sub, ← Int32.ofInt_mul]; done) | exact congrArg Int32.ofInt (by omega) | rfl), by (dsimp only; omega), ea, ?_⟩
      refine z_eq 3 3 (fun _ => ?_) (fun z => absurd rfl z)
      refine ⟨_, g.2.2.1, ?_⟩
      refine ⟨i, _, by (first | assumption | (simp only [z_nat, z_lit, ← Int32.ofInt_add, ← Int32.ofInt_sub, ← Int32.ofInt_mul]; exact congrArg Int32.ofInt (by omega)) | (simp only [z_nat, z_lit, ← Int32.ofInt_add, ← Int32.ofInt_sub, ← Int32.ofInt_mul]; done) | exact congrArg Int32.ofInt (by omega) | rfl), by (dsimp only; omega), e5, ?_⟩
      exact ⟨fun z => absurd z (by decide), sw_at 3 (by decide) rfl ⟨_, rfl, hQ⟩⟩
    · refine w_in 90 [] ?_
      refine ⟨_, g.2.2.1, ?_⟩
      refine ⟨i, _, by (first | assumption | (simp only [z_nat, z_lit, ← Int32.ofInt_add, ← Int32.ofInt_sub, ← Int32.ofInt_mul]; exact congrArg Int32.ofInt (by omega)) | (simp only [z_nat, z_lit, ← Int32.ofInt_add, ← Int32.ofInt_sub, ← Int32.ofInt_mul]; done) | exact congrArg Int32.ofInt (by omega) | rfl), by (dsimp only; omega), ea, ?_⟩
      refine z_eq 3 3 (fun _ => ?_) (fun z => absurd rfl z)
      refine ⟨_, g.2.2.1, ?_⟩
      refine ⟨i, _, by (first | assumption | (simp only [z_nat, z_lit, ← Int32.ofInt_add, ← Int32.ofInt_sub, ← Int32.ofInt_mul]; exact congrArg Int32.ofInt (by omega)) | (simp only [z_nat, z_lit, ← Int32.ofInt_add, ← Int32.ofInt_sub, ← Int32.ofInt_mul]; done) | exact congrArg Int32.ofInt (by omega) | rfl), by (dsimp only; omega), e5, ?_⟩
      exact ⟨fun z => absurd z (by decide), sw_at 4 (by decide) rfl ⟨_, rfl, hQ⟩⟩
    · refine w_in 90 [] ?_
      refine ⟨_, g.2.2.1, ?_⟩
      refine ⟨i, _, by (first | assumption | (simp only [z_nat, z_lit, ← Int32.ofInt_add, ← Int32.ofInt_sub, ← Int32.ofInt_mul]; exact congrArg Int32.ofInt (by omega)) | (simp only [z_nat, z_lit, ← Int32.ofInt_add, ← Int32.ofInt_sub, ← Int32.ofInt_mul]; done) | exact congrArg Int32.ofInt (by omega) | rfl), by (dsimp only; omega), ea, ?_⟩
      refine z_eq 3 3 (fun _ => ?_) (fun z => absurd rfl z)
      refine ⟨_, g.2.2.1, ?_⟩
      refine ⟨i, _, by (first | assumption | (simp only [z_nat, z_lit, ← Int32.ofInt_add, ← Int32.ofInt_sub, ← Int32.ofInt_mul]; exact congrArg Int32.ofInt (by omega)) | (simp only [z_nat, z_lit, ← Int32.ofInt_add, ← Int32.ofInt_sub, ← Int32.ofInt_mul]; done) | exact congrArg Int32.ofInt (by omega) | rfl), by (dsimp only; omega), e5, ?_⟩
      exact ⟨fun z => absurd z (by decide), sw_at 5 (by decide) rfl ⟨_, rfl, hQ⟩⟩
    · refine w_in 90 [] ?_
      refine ⟨_, g.2.2.1, ?_⟩
      refine ⟨i, _, by (first | assumption | (simp only [z_nat, z_lit, ← Int32.ofInt_add, ← Int32.ofInt_sub, ← Int32.ofInt_mul]; exact congrArg Int32.ofInt (by omega)) | (simp only [z_nat, z_lit, ← Int32.ofInt_add, ← Int32.ofInt_sub, ← Int32.ofInt_mul]; done) | exact congrArg Int32.ofInt (by omega) | rfl), by (dsimp only; omega), ea, ?_⟩
      refine z_eq 3 3 (fun _ => ?_) (fun z => absurd rfl z)
      refine ⟨_, g.2.2.1, ?_⟩
      refine ⟨i, _, by (first | assumption | (simp only [z_nat, z_lit, ← Int32.ofInt_add, ← Int32.ofInt_sub, ← Int32.ofInt_mul]; exact congrArg Int32.ofInt (by omega)) | (simp only [z_nat, z_lit, ← Int32.ofInt_add, ← Int32.ofInt_sub, ← Int32.ofInt_mul]; done) | exact congrArg Int32.ofInt (by omega) | rfl), by (dsimp only; omega), e5, ?_⟩
      exact ⟨fun z => absurd z (by decide), sw_at 6 (by decide) rfl ⟨_, rfl, hQ⟩⟩
    · refine w_in 90 [] ?_
      refine ⟨_, g.2.2.1, ?_⟩
      refine ⟨i, _, by (first | assumption | (simp only [z_nat, z_lit, ← Int32.ofInt_add, ← Int32.ofInt_sub, ← Int32.ofInt_mul]; exact congrArg Int32.ofInt (by omega)) | (simp only [z_nat, z_lit, ← Int32.ofInt_add, ← Int32.ofInt_sub, ← Int32.ofInt_mul]; done) | exact congrArg Int32.ofInt (by omega) | rfl), by (dsimp only; omega), ea, ?_⟩
      refine z_eq 3 3 (fun _ => ?_) (fun z => absurd rfl z)
      refine ⟨_, g.2.2.1, ?_⟩
      refine ⟨i, _, by (first | assumption | (simp only [z_nat, z_lit, ← Int32.ofInt_add, ← Int32.ofInt_sub, ← Int32.ofInt_mul]; exact congrArg Int32.ofInt (by omega)) | (simp only [z_nat, z_lit, ← Int32.ofInt_add, ← Int32.ofInt_sub, ← Int32.ofInt_mul]; done) | exact congrArg Int32.ofInt (by omega) | rfl), by (dsimp only; omega), e5, ?_⟩
      exact ⟨fun z => absurd z (by decide), sw_at 8 (by decide) rfl ⟨_, rfl, hQ⟩⟩
    · refine w_in 90 [] ?_
      refine ⟨_, g.2.2.1, ?_⟩
      refine ⟨i, _, by (first | assumption | (simp only [z_nat, z_lit, ← Int32.ofInt_add, ← Int32.ofInt_sub, ← Int32.ofInt_mul]; exact congrArg Int32.ofInt (by omega)) | (simp only [z_nat, z_lit, ← Int32.ofInt_add, ← Int32.ofInt_sub, ← Int32.ofInt_mul]; done) | exact congrArg Int32.ofInt (by omega) | rfl), by (dsimp only; omega), ea, ?_⟩
      refine z_eq 3 3 (fun _ => ?_) (fun z => absurd rfl z)
      refine ⟨_, g.2.2.1, ?_⟩
      refine ⟨i, _, by (first | assumption | (simp only [z_nat, z_lit, ← Int32.ofInt_add, ← Int32.ofInt_sub, ← Int32.ofInt_mul]; exact congrArg Int32.ofInt (by omega)) | (simp only [z_nat, z_lit, ← Int32.ofInt_add, ← Int32.ofInt_sub, ← Int32.ofInt_mul]; done) | exact congrArg Int32.ofInt (by omega) | rfl), by (dsimp only; omega), e5, ?_⟩
      exact ⟨fun z => absurd z (by decide), sw_at 10 (by decide) rfl ⟨_, rfl, hQ⟩⟩
    · refine w_in 90 [] ?_
      refine ⟨_, g.2.2.1, ?_⟩
      refine ⟨i, _, by (first | assumption | (simp only [z_nat, z_lit, ← Int32.ofInt_add, ← Int32.ofInt_sub, ← Int32.ofInt_mul]; exact congrArg Int32.ofInt (by omega)) | (simp only [z_nat, z_lit, ← Int32.ofInt_add, ← Int32.ofInt_sub, ← Int32.ofInt_mul]; done) | exact congrArg Int32.ofInt (by omega) | rfl), by (dsimp only; omega), ea, ?_⟩
      refine z_eq 3 3 (fun _ => ?_) (fun z => absurd rfl z)
      refine ⟨_, g.2.2.1, ?_⟩
      refine ⟨i, _, by (first | assumption | (simp only [z_nat, z_lit, ← Int32.ofInt_add, ← Int32.ofInt_sub, ← Int32.ofInt_mul]; exact congrArg Int32.ofInt (by omega)) | (simp only [z_nat, z_lit, ← Int32.ofInt_add, ← Int32.ofInt_sub, ← Int32.ofInt_mul]; done) | exact congrArg Int32.ofInt (by omega) | rfl), by (dsimp only; omega), e5, ?_⟩
      exact ⟨fun z => absurd z (by decide), sw_at 22 (by decide) rfl ⟨_, rfl, hQ⟩⟩
    · refine w_in 90 [] ?_
      refine ⟨_, g.2.2.1, ?_⟩
      refine ⟨i, _, by (first | assumption | (simp only [z_nat, z_lit, ← Int32.ofInt_add, ← Int32.ofInt_sub, ← Int32.ofInt_mul]; exact congrArg Int32.ofInt (by omega)) | (simp only [z_nat, z_lit, ← Int32.ofInt_add, ← Int32.ofInt_sub, ← Int32.ofInt_mul]; done) | exact congrArg Int32.ofInt (by omega) | rfl), by (dsimp only; omega), ea, ?_⟩
      refine z_eq 3 3 (fun _ => ?_) (fun z => absurd rfl z)
      refine ⟨_, g.2.2.1, ?_⟩
      refine ⟨i, _, by (first | assumption | (simp only [z_nat, z_lit, ← Int32.ofInt_add, ← Int32.ofInt_sub, ← Int32.ofInt_mul]; exact congrArg Int32.ofInt (by omega)) | (simp only [z_nat, z_lit, ← Int32.ofInt_add, ← Int32.ofInt_sub, ← Int32.ofInt_mul]; done) | exact congrArg Int32.ofInt (by omega) | rfl), by (dsimp only; omega), e5, ?_⟩
      exact ⟨fun z => absurd z (by decide), sw_at 23 (by decide) rfl ⟨_, rfl, hQ⟩⟩
    · refine w_in 90 [] ?_
      refine ⟨_, g.2.2.1, ?_⟩
      refine ⟨i, _, by (first | assumption | (simp only [z_nat, z_lit, ← Int32.ofInt_add, ← Int32.ofInt_sub, ← Int32.ofInt_mul]; exact congrArg Int32.ofInt (by omega)) | (simp only [z_nat, z_lit, ← Int32.ofInt_add, ← Int32.ofInt_sub, ← Int32.ofInt_mul]; done) | exact congrArg Int32.ofInt (by omega) | rfl), by (dsimp only; omega), ea, ?_⟩
      refine z_eq 3 3 (fun _ => ?_) (fun z => absurd rfl z)
      refine ⟨_, g.2.2.1, ?_⟩
      refine ⟨i, _, by (first | assumption | (simp only [z_nat, z_lit, ← Int32.ofInt_add, ← Int32.ofInt_sub, ← Int32.ofInt_mul]; exact congrArg Int32.ofInt (by omega)) | (simp only [z_nat, z_lit, ← Int32.ofInt_add, ← Int32.ofInt_sub, ← Int32.ofInt_mul]; done) | exact congrArg Int32.ofInt (by omega) | rfl), by (dsimp only; omega), e5, ?_⟩
      exact ⟨fun z => absurd z (by decide), sw_at 24 (by decide) rfl ⟨_, rfl, hQ⟩⟩
    · refine w_in 90 [] ?_
      refine ⟨_, g.2.2.1, ?_⟩
      refine ⟨i, _, by (first | assumption | (simp only [z_nat, z_lit, ← Int32.ofInt_add, ← Int32.ofInt_sub, ← Int32.ofInt_mul]; exact congrArg Int32.ofInt (by omega)) | (simp only [z_nat, z_lit, ← Int32.ofInt_add, ← Int32.ofInt_sub, ← Int32.ofInt_mul]; done) | exact congrArg Int32.ofInt (by omega) | rfl), by (dsimp only; omega), ea, ?_⟩
      refine z_eq 3 3 (fun _ => ?_) (fun z => absurd rfl z)
      refine ⟨_, g.2.2.1, ?_⟩
      refine ⟨i, _, by (first | assumption | (simp only [z_nat, z_lit, ← Int32.ofInt_add, ← Int32.ofInt_sub, ← Int32.ofInt_mul]; exact congrArg Int32.ofInt (by omega)) | (simp only [z_nat, z_lit, ← Int32.ofInt_add, ← Int32.ofInt_sub, ← Int32.ofInt_mul]; done) | exact congrArg Int32.ofInt (by omega) | rfl), by (dsimp only; omega), e5, ?_⟩
      exact ⟨fun z => absurd z (by decide), sw_at 25 (by decide) rfl ⟨_, rfl, hQ⟩⟩
    · refine w_in 90 [] ?_
      refine ⟨_, g.2.2.1, ?_⟩
      refine ⟨i, _, by (first | assumption | (simp only [z_nat, z_lit, ← Int32.ofInt_add, ← Int32.ofInt_sub, ← Int32.ofInt_mul]; exact congrArg Int32.ofInt (by omega)) | (simp only [z_nat, z_lit, ← Int32.ofInt_add, ← Int32.ofInt_sub, ← Int32.ofInt_mul]; done) | exact congrArg Int32.ofInt (by omega) | rfl), by (dsimp only; omega), ea, ?_⟩
      refine z_eq 3 3 (fun _ => ?_) (fun z => absurd rfl z)
      refine ⟨_, g.2.2.1, ?_⟩
      refine ⟨i, _, by (first | assumption | (simp only [z_nat, z_lit, ← Int32.ofInt_add, ← Int32.ofInt_sub, ← Int32.ofInt_mul]; exact congrArg Int32.ofInt (by omega)) | (simp only [z_nat, z_lit, ← Int32.ofInt_add, ← Int32.ofInt_sub, ← Int32.ofInt_mul]; done) | exact congrArg Int32.ofInt (by omega) | rfl), by (dsimp only; omega), e5, ?_⟩
      exact ⟨fun _ => ⟨_, rfl, hQ⟩, sw_no (Or.inr (by decide))⟩
    · refine w_in 90 [] ?_
      refine ⟨_, g.2.2.1, ?_⟩
      refine ⟨i, _, by (first | assumption | (simp only [z_nat, z_lit, ← Int32.ofInt_add, ← Int32.ofInt_sub, ← Int32.ofInt_mul]; exact congrArg Int32.ofInt (by omega)) | (simp only [z_nat, z_lit, ← Int32.ofInt_add, ← Int32.ofInt_sub, ← Int32.ofInt_mul]; done) | exact congrArg Int32.ofInt (by omega) | rfl), by (dsimp only; omega), ea, ?_⟩
      refine z_eq 3 3 (fun _ => ?_) (fun z => absurd rfl z)
      refine ⟨_, g.2.2.1, ?_⟩
      refine ⟨i, _, by (first | assumption | (simp only [z_nat, z_lit, ← Int32.ofInt_add, ← Int32.ofInt_sub, ← Int32.ofInt_mul]; exact congrArg Int32.ofInt (by omega)) | (simp only [z_nat, z_lit, ← Int32.ofInt_add, ← Int32.ofInt_sub, ← Int32.ofInt_mul]; done) | exact congrArg Int32.ofInt (by omega) | rfl), by (dsimp only; omega), e5, ?_⟩
      exact ⟨fun _ => ⟨_, rfl, hQ⟩, sw_no (Or.inr (by decide))⟩
  · have e : jnC (tok i) = 99 := by
      by_cases q1 : (tok i).1 = 4
      · rw [tk_pr q1]
        exact jn_sg (Bool.eq_false_iff.mpr (fun z => q ⟨q1, z⟩))
      · exact jn_k q1
    rw [e] at hQ
    refine w_in 90 [] ?_
    refine ⟨_, g.2.2.1, ?_⟩
    refine ⟨i, _, by (first | assumption | (simp only [z_nat, z_lit, ← Int32.ofInt_add, ← Int32.ofInt_sub, ← Int32.ofInt_mul]; exact congrArg Int32.ofInt (by omega)) | (simp only [z_nat, z_lit, ← Int32.ofInt_add, ← Int32.ofInt_sub, ← Int32.ofInt_mul]; done) | exact congrArg Int32.ofInt (by omega) | rfl), by (dsimp only; omega), ea, ?_⟩
    exact z_eq a 3 (fun z => absurd (a3.mp z) q) (fun _ => ⟨_, rfl, hQ⟩)
set_option maxRecDepth 100000 in
set_option maxHeartbeats 4000000 in
theorem k_valueHere {i : Nat} (g : g_rt M x len tok T i) (h1 : ¬ valC (tok i) = 0 → Q (some (.int (nI (valC (tok i))))) M) (h0 : valC (tok i) = 0 → Q (some (.int (Int32.ofInt (-1)))) M) : q_C q_mt (L, xs, q_shp) E nX12_valueHere (d + 1) 0 0 [.ref 271] M Q := by
  have i12 := g.i12
  have v9 := g.tt.v9 i
  obtain ⟨a, a4, ea, a2, _, _⟩ := kR.a g.tt g.k
  refine w_in 90 [] ?_
  refine ⟨_, g.2.2.1, ?_⟩
  refine ⟨i, _, by (first | assumption | (simp only [z_nat, z_lit, ← Int32.ofInt_add, ← Int32.ofInt_sub, ← Int32.ofInt_mul]; exact congrArg Int32.ofInt (by omega)) | (simp only [z_nat, z_lit, ← Int32.ofInt_add, ← Int32.ofInt_sub, ← Int32.ofInt_mul]; done) | exact congrArg Int32.ofInt (by omega) | rfl), by (dsimp only; omega), ea, ?_⟩
  refine z_ne a 2 (fun z => ?_) (fun z => ?_)
  · have n3 : ¬ (tok i).1 = 3 := fun y => z (a2.mpr y)
    have V : ∀ k w : Nat, ¬ k = 0 → valC (tok i) = k → Q (some (.int (nI k))) M := fun k w hk e => by
      have := h1 (by omega)
      rw [e] at this
      exact this
    refine k_isWordHere g 0 (by omega) (by decide +kernel) (fun e => br_f (by decide) ⟨_, rfl, V 1 0 (by omega) (by unfold valC; rw [if_neg n3, if_pos e])⟩) (fun e0 => br_t (by decide) ?_)
    refine k_isWordHere g 21 (by omega) (by decide +kernel) (fun e => br_f (by decide) ⟨_, rfl, V 2 0 (by omega) (by unfold valC; rw [if_neg n3, if_neg e0, if_pos e])⟩) (fun e1 => br_t (by decide) ?_)
    refine k_isWordHere g 8 (by omega) (by decide +kernel) (fun e => br_f (by decide) ⟨_, rfl, V 3 0 (by omega) (by unfold valC; rw [if_neg n3, if_neg e0, if_neg e1, if_pos e])⟩) (fun e2 => br_t (by decide) ?_)
    refine k_isWordHere g 9 (by omega) (by decide +kernel) (fun e => br_f (by decide) ⟨_, rfl, V 4 0 (by omega) (by unfold valC; rw [if_neg n3, if_neg e0, if_neg e1, if_neg e2, if_pos e])⟩) (fun e3 => br_t (by decide) ?_)
    refine k_isWordHere g 22 (by omega) (by decide +kernel) (fun e => br_f (by decide) ⟨_, rfl, V 5 0 (by omega) (by unfold valC; rw [if_neg n3, if_neg e0, if_neg e1, if_neg e2, if_neg e3, if_pos e])⟩) (fun e4 => br_t (by decide) ?_)
    refine k_isWordHere g 23 (by omega) (by decide +kernel) (fun e => br_f (by decide) ⟨_, rfl, V 6 0 (by omega) (by unfold valC; rw [if_neg n3, if_neg e0, if_neg e1, if_neg e2, if_neg e3, if_neg e4, if_pos e])⟩) (fun e5 => br_t (by decide) ?_)
    refine k_isWordHere g 24 (by omega) (by decide +kernel) (fun e => br_f (by decide) ⟨_, rfl, V 7 0 (by omega) (by unfold valC; rw [if_neg n3, if_neg e0, if_neg e1, if_neg e2, if_neg e3, if_neg e4, if_neg e5, if_pos e])⟩) (fun e6 => br_t (by decide) ?_)
    refine k_isWordHere g 11 (by omega) (by decide +kernel) (fun e => br_f (by decide) ⟨_, rfl, V 8 0 (by omega) (by unfold valC; rw [if_neg n3, if_neg e0, if_neg e1, if_neg e2, if_neg e3, if_neg e4, if_neg e5, if_neg e6, if_pos e])⟩) (fun e7 => br_t (by decide) ⟨_, rfl, h0 ?_⟩)
    unfold valC
    rw [if_neg n3, if_neg e0, if_neg e1, if_neg e2, if_neg e3, if_neg e4, if_neg e5, if_neg e6, if_neg e7]
  · have n3 := a2.mp z
    have V : valC (tok i) = 1000 + (tok i).2 := if_pos n3
    have e5 := (g.k.2.2.2.2.1 n3).2
    have hq := h1 (by omega)
    rw [V] at hq
    refine ⟨_, g.2.2.1, ?_⟩
    refine ⟨i, _, by (first | assumption | (simp only [z_nat, z_lit, ← Int32.ofInt_add, ← Int32.ofInt_sub, ← Int32.ofInt_mul]; exact congrArg Int32.ofInt (by omega)) | (simp only [z_nat, z_lit, ← Int32.ofInt_add, ← Int32.ofInt_sub, ← Int32.ofInt_mul]; done) | exact congrArg Int32.ofInt (by omega) | rfl), by (dsimp only; omega), e5, ?_⟩
    exact ⟨nI (1000 + (tok i).2), by (first | assumption | (simp only [z_nat, z_lit, ← Int32.ofInt_add, ← Int32.ofInt_sub, ← Int32.ofInt_mul]; exact congrArg Int32.ofInt (by omega)) | (simp only [z_nat, z_lit, ← Int32.ofInt_add, ← Int32.ofInt_sub, ← Int32.ofInt_mul]; done) | exact congrArg Int32.ofInt (by omega) | rfl), hq⟩
set_option maxRecDepth 100000 in
set_option maxHeartbeats 4000000 in
theorem k_isCompare {b : Int32} (a : Nat) (ha : a ≤ 99) (h1 : 25 ≤ a → a ≤ 27 → Q (some (.int 1)) M) (h0 : ¬ (25 ≤ a ∧ a ≤ 27) → Q (some (.int 0)) M) (hb : b = Int32.ofInt (nn a) := by (first | assumption | (simp only [z_nat, z_lit, ← Int32.ofInt_add, ← Int32.ofInt_sub, ← Int32.ofInt_mul]; exact congrArg Int32.ofInt (by omega)) | (simp only [z_nat, z_lit, ← Int32.ofInt_add, ← Int32.ofInt_sub, ← Int32.ofInt_mul]; done) | exact congrArg Int32.ofInt (by omega) | rfl)) : q_C q_mt (L, xs, q_shp) E nX12_isCompare (d) 0 0 [.int (b)] M Q := by
  subst hb
  have e : nn a = if a = 99 then -1 else (a : Int) := rfl
  have rg : -2147483648 ≤ nn a ∧ nn a < 2147483648 := by
    rw [e]
    split <;> omega
  refine w_in 90 [] ?_
  refine z_lt (nn a) 25 (fun z => ⟨z_0, h0 (fun y => ?_)⟩) (fun z => ?_)
  · rw [e, if_neg (by omega)] at z
    omega
  · refine z_lt 27 (nn a) (fun z2 => ⟨z_0, h0 (fun y => ?_)⟩) (fun z2 => ⟨z_1, h1 ?_ ?_⟩)
    · rw [e, if_neg (by omega)] at z2
      omega
    · rw [e] at z z2
      split at z <;> omega
    · rw [e] at z z2
      split at z <;> omega
theorem nn_v {a : Nat} (h : ¬ a = 99) : nn a = a := if_neg h
/-- the loop's head -/
abbrev hdL (L : Nat) (xs : Nat → Int32) (E : q_E) (D : Nat) (Q : Option Value → q_M → Prop) (l : Nat) (u : Int32) (M : q_M) : Prop := q_G q_mt (L, xs, q_shp) E nX12_readsLaw (D + 6) 0 0 (q_Q (L, xs, q_shp) E Q) 49 [some (.ref 271), some (.int (nI l)), some (.int (u))] [] M
-- a fact begins
set_option maxRecDepth 100000 in
set_option maxHeartbeats 4000000 in
theorem k_atFact {l i o v D : Nat} {P cs : List Nat} (m : mS M x len tok T l i P o v cs 0) (h99 : P.length ≤ 99) (hnot : tok i = (1, 20) → (o < 6 → ∀ M', q_fs lLr fLr M M' → lowD l M M' → mS M' x len tok T l (i + 1) (30 :: P) (o + 1) v cs 0 → hdL L xs E D Q l 1 M') ∧ (o = 6 → ∀ M', q_fs lLr fLr M M' → g_rb M' x len tok T 4 i → hdL L xs E D Q l 1 M')) (hsq : ¬ tok i = (1, 20) → tok i = (4, 91) → (o < 6 → ∀ M', q_fs lLr fLr M M' → lowD l M M' → mS M' x len tok T l (i + 1) (41 :: P) (o + 1) v cs 0 → hdL L xs E D Q l 1 M') ∧ (o = 6 → ∀ M', q_fs lLr fLr M M' → g_rb M' x len tok T 4 i → hdL L xs E D Q l 1 M')) (hel : ¬ tok i = (1, 20) → ¬ tok i = (4, 91) → ∀ M', q_fs lLr fLr M M' → lowD l M M' → mS M' x len tok T l i P o v cs 1 → hdL L xs E D Q l 1 M') : hdL L xs E D Q l 1 M := by
  obtain ⟨g, hc, hp, ⟨ho, o6⟩, ⟨hv, v40⟩, hr⟩ := m
  have op : ∀ a, a ≤ 41 → ¬ (tok i).1 = 0 → ((o < 6 → ∀ M', q_fs lLr fLr M M' → lowD l M M' → mS M' x len tok T l (i + 1) (a :: P) (o + 1) v cs 0 → hdL L xs E D Q l 1 M') ∧ (o = 6 → ∀ M', q_fs lLr fLr M M' → g_rb M' x len tok T 4 i → hdL L xs E D Q l 1 M')) → ∀ b, b = nI a → q_C q_mt (L, xs, q_shp) E nX12_opensHere (D + 4) 0 0 [.ref 271, .int (b)] M (fun v M' => v = none ∧ hdL L xs E D Q l 1 M') := by
    intro a ha hn h b hb
    refine k_opensHere g hn hp h99 ha ho o6 (fun z M2 hf2 g2 p2 o2 => ⟨rfl, ?_⟩) (fun z M2 hf2 g2 => ⟨rfl, h.2 z M2 hf2.mono g2⟩) hb
    exact h.1 z M2 hf2.mono (lowD.of hf2) ⟨g2, hc.of (hf2.c1 279), p2, ⟨o2, by omega⟩, ⟨(hf2.p1 271 21).trans hv, v40⟩, (hf2.p1 271 22).trans hr⟩
  refine w_at 90 [49] ?_
  refine ⟨fun z => absurd z (by decide), fun _ => ?_⟩
  refine k_isFine1 g.2.2.2.1 (br_f (by decide) ?_)
  refine ⟨_, hr, ?_⟩
  refine ⟨fun z => absurd z (by decide), sw_at 0 (by decide) rfl ?_⟩
  refine w_in 90 [] ?_
  refine k_isWordHere g 20 (by omega) (by decide +kernel) (fun e => br_f (by decide) ?_) (fun e => br_t (by decide) ?_)
  · refine (op 30 (by omega) (by rw [e]; decide) (hnot e) _ rfl).mono (fun v M' h => ?_)
    obtain ⟨rfl, h⟩ := h
    exact h
  · refine k_isSignHere g 91 (by decide) (fun e' => br_f (by decide) ?_) (fun e' => br_t (by decide) ?_)
    · refine (op 41 (by omega) (by rw [e']; decide) (hsq e e') _ rfl).mono (fun v M' h => ?_)
      obtain ⟨rfl, h⟩ := h
      exact h
    · refine ⟨_, rfl, ?_⟩
      have hf1 : q_fs [] [(271, 22)] M (q_si M 271 22 (Int32.ofInt 1)) := q_fs.rf.s1
      exact hel e e' _ hf1.mono (lowD.of hf1) ⟨g.fs hf1, hc.of (hf1.c1 279), hp.of (hf1.c1 283) (hf1.p1 271 19), ⟨(hf1.p1 271 20).trans ho, o6⟩, ⟨(hf1.p1 271 21).trans hv, v40⟩, q_si_s⟩
-- a value begins
set_option maxRecDepth 100000 in
set_option maxHeartbeats 4000000 in
theorem k_atValue {l i o v D : Nat} {P cs : List Nat} (m : mS M x len tok T l i P o v cs 1) (h99 : P.length ≤ 99) (h254 : cs.length ≤ 254) (hop : tok i = (4, 40) → (o < 6 → ∀ M', q_fs lLr fLr M M' → lowD l M M' → mS M' x len tok T l (i + 1) (40 :: P) (o + 1) v cs 1 → hdL L xs E D Q l 1 M') ∧ (o = 6 → ∀ M', q_fs lLr fLr M M' → g_rb M' x len tok T 4 i → hdL L xs E D Q l 1 M')) (hno : ¬ tok i = (4, 40) → valC (tok i) = 0 → ∀ M', q_fs lLr fLr M M' → g_rb M' x len tok T 1 i → hdL L xs E D Q l 1 M') (h40 : ¬ tok i = (4, 40) → ¬ valC (tok i) = 0 → v = 40 → ∀ M', q_fs lLr fLr M M' → g_rb M' x len tok T 4 i → hdL L xs E D Q l 1 M') (hok : ¬ tok i = (4, 40) → ¬ valC (tok i) = 0 → v < 40 → ∀ M', q_fs lLr fLr M M' → lowD l M M' → mS M' x len tok T l (i + 1) P o (v + 1) (cs ++ [valC (tok i)]) 2 → hdL L xs E D Q l 1 M') : hdL L xs E D Q l 1 M := by
  obtain ⟨g, hc, hp, ⟨ho, o6⟩, ⟨hv, v40⟩, hr⟩ := m
  have i12 := g.i12
  refine w_at 90 [49] ?_
  refine ⟨fun z => absurd z (by decide), fun _ => ?_⟩
  refine k_isFine1 g.2.2.2.1 (br_f (by decide) ?_)
  refine ⟨_, hr, ?_⟩
  refine ⟨fun z => absurd z (by decide), sw_at 1 (by decide) rfl ?_⟩
  refine w_in 90 [] ?_
  refine k_isSignHere g 40 (by decide) (fun e => br_f (by decide) ?_) (fun e => br_t (by decide) ?_)
  · refine k_opensHere g (by rw [e]; decide) hp h99 (a := 40) (by omega) ho o6 (fun z M2 hf2 g2 p2 o2 => ?_) (fun z M2 hf2 g2 => (hop e).2 z M2 hf2.mono g2)
    exact (hop e).1 z M2 hf2.mono (lowD.of hf2) ⟨g2, hc.of (hf2.c1 279), p2, ⟨o2, by omega⟩, ⟨(hf2.p1 271 21).trans hv, v40⟩, (hf2.p1 271 22).trans hr⟩
  · refine k_valueHere g (fun e1 => ?_) (fun e1 => ?_)
    · have vb := valC_b (g.tt.v9 i) e1
      have nf : ¬ (tok i).1 = 0 := by omega
      refine z_ne (valC (tok i) : Int) (-1) (fun _ => ?_) (fun z => by omega)
      refine ⟨_, hv, ?_⟩
      refine z_ne (v : Int) 40 (fun z => ?_) (fun z => ?_)
      · refine ⟨_, hv, ?_⟩
        refine ⟨nI (v + 1), by (first | assumption | (simp only [z_nat, z_lit, ← Int32.ofInt_add, ← Int32.ofInt_sub, ← Int32.ofInt_mul]; exact congrArg Int32.ofInt (by omega)) | (simp only [z_nat, z_lit, ← Int32.ofInt_add, ← Int32.ofInt_sub, ← Int32.ofInt_mul]; done) | exact congrArg Int32.ofInt (by omega) | rfl), ?_⟩
        have hf1 : q_fs [] [(271, 21)] M (q_si M 271 21 (nI (v + 1))) := q_fs.rf.s1
        refine k_emits (valC (tok i)) (hc.of (hf1.c1 279)) h254 (fun M2 hf2 lo2 c2 => ?_)
        have g2 := (g.fs hf1).fs hf2
        refine ⟨_, g2.2.2.1, ?_⟩
        refine ⟨nI (i + 1), by (first | assumption | (simp only [z_nat, z_lit, ← Int32.ofInt_add, ← Int32.ofInt_sub, ← Int32.ofInt_mul]; exact congrArg Int32.ofInt (by omega)) | (simp only [z_nat, z_lit, ← Int32.ofInt_add, ← Int32.ofInt_sub, ← Int32.ofInt_mul]; done) | exact congrArg Int32.ofInt (by omega) | rfl), ?_⟩
        refine ⟨_, rfl, ?_⟩
        have g3 := g2.nx nf rfl
        have hf4 : q_fs [] [(271, 8), (271, 22)] M2 (q_si (q_si M2 271 8 (nI (i + 1))) 271 22 (Int32.ofInt 2)) := q_fs.rf.s1.s1
        refine hok e e1 (by omega) _ ((hf1.mono.tr hf2.mono).tr hf4.mono) (((lowD.of hf1).tr lo2).tr (lowD.of hf4)) ⟨g3.fs (show q_fs [] [(271, 22)] _ _ from q_fs.rf.s1), c2.of (hf4.c1 279), (hp.of (hf1.c1 283) (hf1.p1 271 19)).of ((hf4.c1 283).trans (hf2.c1 283)) ((hf4.p1 271 19).trans (hf2.p1 271 19)), ⟨(hf4.p1 271 20).trans ((hf2.p1 271 20).trans ((hf1.p1 271 20).trans ho)), o6⟩, ⟨(hf4.p1 271 21).trans ((hf2.p1 271 21).trans q_si_s), by omega⟩, q_si_s⟩
      · exact k_wrongs g 4 (by omega) (fun M2 hf2 g2 => h40 e e1 (by omega) M2 hf2.mono g2)
    · refine z_ne (-1) (-1) (fun z => absurd rfl z) (fun _ => ?_)
      exact k_wrongs g 1 (by omega) (fun M2 hf2 g2 => hno e e1 M2 hf2.mono g2)
-- behind a value: a sign of sums and terms
set_option maxRecDepth 100000 in
set_option maxHeartbeats 4000000 in
theorem k_atJoin {l i o v D r c : Nat} {P0 pend cs : List Nat} (m : mS M x len tok T l i (pend ++ P0) o v cs 2) (hjn : jnC (tok i) = c) (hc : rkC c = r) (hr1 : 1 ≤ r) (h0 : rkC (tp P0) < r) (hpe : ∀ a, a ∈ pend → r ≤ rkC a) (hl : cs.length + pend.length ≤ 255) (h99 : P0.length ≤ 99) (c41 : c ≤ 41) (hok : ∀ M', q_fs lLr fLr M M' → lowD l M M' → mS M' x len tok T l (i + 1) (c :: P0) o v (cs ++ pend) 1 → hdL L xs E D Q l 1 M') : hdL L xs E D Q l 1 M := by
  obtain ⟨g, hcd, hp, ⟨ho, o6⟩, ⟨hv, v40⟩, hr⟩ := m
  have rb := rkC_b (a := c)
  have nf : ¬ (tok i).1 = 0 := fun z => by
    have := jn_k (p := tok i) (by omega)
    omega
  refine w_at 90 [49] ?_
  refine ⟨fun z => absurd z (by decide), fun _ => ?_⟩
  refine k_isFine1 g.2.2.2.1 (br_f (by decide) ?_)
  refine ⟨_, hr, ?_⟩
  refine ⟨fun z => absurd z (by decide), sw_at 2 (by decide) rfl ?_⟩
  refine w_in 90 [] ?_
  refine k_joinHere g ?_
  rw [hjn]
  refine k_rankOf c (by omega) ?_
  rw [hc]
  refine z_le (r : Int) 0 (fun z => by omega) (fun _ => ?_)
  refine k_rankOf c (by omega) ?_
  rw [hc]
  refine k_settles (r := r) ⟨hr1, by omega⟩ h0 rfl hp hcd hl hpe (fun M2 hf2 lo2 p2 c2 => ?_)
  have g2 := g.fs hf2
  refine k_piles g2 nf p2 h99 c41 (fun M3 hf3 g3 p3 => ?_) (hb := by rw [nn_v (by omega)]; rfl)
  refine ⟨_, rfl, ?_⟩
  have hf4 : q_fs [] [(271, 22)] M3 (q_si M3 271 22 (Int32.ofInt 1)) := q_fs.rf.s1
  exact hok _ ((hf2.mono.tr hf3.mono).tr hf4.mono) ((lo2.tr (lowD.of hf3)).tr (lowD.of hf4)) ⟨g3.fs hf4, (c2.of (hf3.c1 279)).of (hf4.c1 279), p3.of (hf4.c1 283) (hf4.p1 271 19), ⟨(hf4.p1 271 20).trans ((hf3.p1 271 20).trans ((hf2.p1 271 20).trans ho)), o6⟩, ⟨(hf4.p1 271 21).trans ((hf3.p1 271 21).trans ((hf2.p1 271 21).trans hv)), v40⟩, q_si_s⟩
-- behind a value: what ends a sum
set_option maxRecDepth 100000 in
set_option maxHeartbeats 4000000 in
theorem k_atEnd {l i o v D : Nat} {P0 pend cs : List Nat} (m : mS M x len tok T l i (pend ++ P0) o v cs 2) (ha0 : addC (tok i) = 0) (hm0 : mulC (tok i) = 0) (h0 : rkC (tp P0) = 0) (hpe : ∀ a, a ∈ pend → 1 ≤ rkC a) (hl : cs.length + pend.length ≤ 254) (h99 : P0.length ≤ 99) (hround : tp P0 = 40 → ∀ P1, P0 = 40 :: P1 → 1 ≤ o → (tok i = (4, 41) → ∀ M', q_fs lLr fLr M M' → lowD l M M' → mS M' x len tok T l (i + 1) P1 (o - 1) v (cs ++ pend) 2 → hdL L xs E D Q l 1 M') ∧ (¬ tok i = (4, 41) → ∀ M', q_fs lLr fLr M M' → g_rb M' x len tok T 1 i → hdL L xs E D Q l 1 M')) (ho1 : tp P0 = 40 → 1 ≤ o) (hcmp : ¬ tp P0 = 40 → ¬ (25 ≤ tp P0 ∧ tp P0 ≤ 27) → ¬ cmpC (tok i) = 0 → ∀ M', q_fs lLr fLr M M' → lowD l M M' → mS M' x len tok T l (i + 1) (cmpC (tok i) :: P0) o v (cs ++ pend) 1 → hdL L xs E D Q l 1 M') (hno : ¬ tp P0 = 40 → ¬ (25 ≤ tp P0 ∧ tp P0 ≤ 27) → cmpC (tok i) = 0 → ∀ M', q_fs lLr fLr M M' → g_rb M' x len tok T 1 i → hdL L xs E D Q l 1 M') (hfact : 25 ≤ tp P0 → tp P0 ≤ 27 → ∀ c P1, P0 = c :: P1 → ∀ k P2, P1 = nts k ++ P2 → ¬ tp P2 = 30 → k ≤ o → cs.length + pend.length + 1 + k ≤ 255 → ∀ M', q_fs lLr fLr M M' → lowD l M M' → mS M' x len tok T l i P2 (o - k) v (cs ++ pend ++ [c] ++ nts k) 3 → hdL L xs E D Q l 1 M') (hk : 25 ≤ tp P0 → tp P0 ≤ 27 → ∃ c P1 k P2, P0 = c :: P1 ∧ P1 = nts k ++ P2 ∧ ¬ tp P2 = 30 ∧ k ≤ o ∧ cs.length + pend.length + 1 + k ≤ 255) : hdL L xs E D Q l 1 M := by
  obtain ⟨g, hcd, hp, ⟨ho, o6⟩, ⟨hv, v40⟩, hr⟩ := m
  have i12 := g.i12
  -- what joins
  have jv : (¬ cmpC (tok i) = 0 ∧ jnC (tok i) = cmpC (tok i)) ∨ (cmpC (tok i) = 0 ∧ jnC (tok i) = 99) := by
    by_cases q : cmpC (tok i) = 0
    · exact Or.inr ⟨q, jn_no ha0 hm0 q⟩
    · exact Or.inl ⟨q, jn_cmp ha0 hm0 q⟩
  have jr : rkC (jnC (tok i)) = 0 := by
    rcases jv with ⟨q, e⟩ | ⟨q, e⟩
    · have := cmpC_b q
      rw [e]
      unfold rkC
      rw [if_neg (by omega), if_neg (by omega)]
    · rw [e]
      decide
  have j99 : jnC (tok i) ≤ 99 := by
    rcases jv with ⟨q, e⟩ | ⟨q, e⟩
    · have := cmpC_b q
      omega
    · omega
  have ps := hp.2.2
  refine w_at 90 [49] ?_
  refine ⟨fun z => absurd z (by decide), fun _ => ?_⟩
  refine k_isFine1 g.2.2.2.1 (br_f (by decide) ?_)
  refine ⟨_, hr, ?_⟩
  refine ⟨fun z => absurd z (by decide), sw_at 2 (by decide) rfl ?_⟩
  refine w_in 90 [81] ?_
  refine k_joinHere g ?_
  refine k_rankOf (jnC (tok i)) j99 ?_
  rw [jr]
  refine z_le 0 0 (fun _ => ?_) (fun z => by omega)
  refine k_settles (r := 1) ⟨by omega, by omega⟩ (by omega) rfl hp hcd (by omega) hpe (fun M2 hf2 lo2 p2 c2 => ?_)
  have g2 := g.fs hf2
  have t99 := tp_b p2
  have en : nn (tp P0) = if tp P0 = 99 then -1 else (tp P0 : Int) := rfl
  have rg : -2147483648 ≤ nn (tp P0) ∧ nn (tp P0) < 2147483648 := by rw [en]; split <;> omega
  have ho2 : M2.1 271 20 = nI o := (hf2.p1 271 20).trans ho
  have hv2 : M2.1 271 21 = nI v := (hf2.p1 271 21).trans hv
  have hr2 : M2.1 271 22 = nI 2 := (hf2.p1 271 22).trans hr
  refine k_top p2 ?_
  refine z_ne (nn (tp P0)) 40 (fun z => ?_) (fun z => ?_)
  · have n40 : ¬ tp P0 = 40 := fun y => z (by rw [y]; rfl)
    -- a fact ends
    have t81 : ∀ (Q2 : Option Value → q_M → Prop), (∀ M', hdL L xs E D Q l 1 M' → Q2 none M') → ∀ l1, (¬ (25 ≤ tp P0 ∧ tp P0 ≤ 27) → cmpC (tok i) = 0) → q_G q_mt (L, xs, q_shp) E nX12_behindValue (D + 5) 0 0 (q_Q (L, xs, q_shp) E Q2) 81 [some (.ref 271), l1, some (.int (Int32.ofInt (nn (tp P0))))] [] M2 := by
      intro Q2 hQ2 l1 hnc
      refine w_at 90 [81] ?_
      refine k_isCompare (tp P0) t99 (fun y1 y2 => bn_t (by decide) ?_) (fun y => bn_f rfl ?_)
      · obtain ⟨c, P1, k, P2, e1, e2, e3, e4, e5⟩ := hk y1 y2
        subst e1
        subst e2
        refine k_drops p2 c2 (by rw [List.length_append]; omega) (fun M3 hf3 lo3 p3 c3 => ?_)
        refine k_closesNots e3 p3 c3 (by rw [List.length_append, List.length_append]; show cs.length + pend.length + 1 + k ≤ 255; exact e5) ((hf3.p1 271 20).trans ho2) e4 o6 (fun M4 hf4 lo4 p4 c4 o4 => ?_)
        refine ⟨_, rfl, ?_⟩
        have hf5 : q_fs [] [(271, 22)] M4 (q_si M4 271 22 (Int32.ofInt 3)) := q_fs.rf.s1
        refine hQ2 _ (hfact y1 y2 c _ rfl k P2 rfl e3 e4 e5 _ (((hf2.mono.tr hf3.mono).tr hf4.mono).tr hf5.mono) (((lo2.tr lo3).tr lo4).tr (lowD.of hf5)) ⟨((g2.fs hf3).fs hf4).fs hf5, c4.of (hf5.c1 279), p4.of (hf5.c1 283) (hf5.p1 271 19), ⟨(hf5.p1 271 20).trans o4, by omega⟩, ⟨(hf5.p1 271 21).trans ((hf4.p1 271 21).trans ((hf3.p1 271 21).trans hv2)), v40⟩, q_si_s⟩)
      · exact k_wrongs g2 1 (by omega) (fun M3 hf3 g3 => hQ2 M3 (hno n40 y (hnc y) M3 (hf2.mono.tr hf3.mono) g3))
    refine k_isCompare (jnC (tok i)) j99 (fun y1 y2 => br_f (by decide) ?_) (fun y => br_t (by decide) ?_)
    · have hcm : ¬ cmpC (tok i) = 0 ∧ jnC (tok i) = cmpC (tok i) := by
        rcases jv with h | h
        · exact h
        · omega
      refine k_isCompare (tp P0) t99 (fun w1 w2 => bn_t (by decide) ?_) (fun w => bn_f rfl ?_)
      · exact t81 _ (fun _ h => h) _ (fun w => absurd ⟨w1, w2⟩ w)
      · have cb := cmpC_b hcm.1
        refine k_piles g2 (by omega) p2 h99 (a := cmpC (tok i)) (by omega) (fun M3 hf3 g3 p3 => ?_) (hb := by rw [hcm.2, nn_v (by omega)]; rfl)
        refine ⟨_, rfl, ?_⟩
        have hf5 : q_fs [] [(271, 22)] M3 (q_si M3 271 22 (Int32.ofInt 1)) := q_fs.rf.s1
        exact hcmp n40 w hcm.1 _ ((hf2.mono.tr hf3.mono).tr hf5.mono) ((lo2.tr (lowD.of hf3)).tr (lowD.of hf5)) ⟨g3.fs hf5, (c2.of (hf3.c1 279)).of (hf5.c1 279), p3.of (hf5.c1 283) (hf5.p1 271 19), ⟨(hf5.p1 271 20).trans ((hf3.p1 271 20).trans ho2), o6⟩, ⟨(hf5.p1 271 21).trans ((hf3.p1 271 21).trans hv2), v40⟩, q_si_s⟩
    · have hcm : cmpC (tok i) = 0 := by
        rcases jv with h | h
        · have := cmpC_b h.1
          omega
        · exact h.1
      exact t81 _ (fun _ h => h) _ (fun _ => hcm)
  · have t40 : tp P0 = 40 := by
      rw [en] at z
      split at z <;> omega
    have o1 := ho1 t40
    obtain ⟨P1, rfl⟩ : ∃ P1, P0 = 40 :: P1 := by
      cases P0 with
      | nil => exact absurd t40 (by decide)
      | cons a P1 => exact ⟨P1, by rw [show a = 40 from t40]⟩
    obtain ⟨p19, p100, pp⟩ := p2
    rw [List.length_cons] at p19 p100
    have hrd := hround t40 P1 rfl o1
    refine w_in 90 [] ?_
    refine k_isSignHere g2 41 (by decide) (fun e => bn_t (by decide) ?_) (fun e => bn_f rfl ?_)
    · refine ⟨_, p19, ?_⟩
      refine ⟨nI P1.length, by (first | assumption | (simp only [z_nat, z_lit, ← Int32.ofInt_add, ← Int32.ofInt_sub, ← Int32.ofInt_mul]; exact congrArg Int32.ofInt (by omega)) | (simp only [z_nat, z_lit, ← Int32.ofInt_add, ← Int32.ofInt_sub, ← Int32.ofInt_mul]; done) | exact congrArg Int32.ofInt (by omega) | rfl), ?_⟩
      refine ⟨_, ho2, ?_⟩
      refine ⟨nI (o - 1), by (first | assumption | (simp only [z_nat, z_lit, ← Int32.ofInt_add, ← Int32.ofInt_sub, ← Int32.ofInt_mul]; exact congrArg Int32.ofInt (by omega)) | (simp only [z_nat, z_lit, ← Int32.ofInt_add, ← Int32.ofInt_sub, ← Int32.ofInt_mul]; done) | exact congrArg Int32.ofInt (by omega) | rfl), ?_⟩
      refine ⟨_, g2.2.2.1, ?_⟩
      refine ⟨nI (i + 1), by (first | assumption | (simp only [z_nat, z_lit, ← Int32.ofInt_add, ← Int32.ofInt_sub, ← Int32.ofInt_mul]; exact congrArg Int32.ofInt (by omega)) | (simp only [z_nat, z_lit, ← Int32.ofInt_add, ← Int32.ofInt_sub, ← Int32.ofInt_mul]; done) | exact congrArg Int32.ofInt (by omega) | rfl), ?_⟩
      have hf3 : q_fs [] [(271, 19), (271, 20)] M2 (q_si (q_si M2 271 19 (nI P1.length)) 271 20 (nI (o - 1))) := q_fs.rf.s1.s1
      have hf4 : q_fs [] [(271, 8), (271, 19), (271, 20)] M2 (q_si (q_si (q_si M2 271 19 (nI P1.length)) 271 20 (nI (o - 1))) 271 8 (nI (i + 1))) := q_fs.rf.s1.s1.s1
      exact hrd.1 e _ (hf2.mono.tr hf4.mono) (lo2.tr (lowD.of hf4)) ⟨(g2.fs hf3).nx (by rw [e]; decide) rfl, c2.of (hf4.c1 279), ⟨rfl, by omega, pp.2.2.eq (fun q _ => hf4.p1 283 q)⟩, ⟨rfl, by omega⟩, ⟨(hf4.p1 271 21).trans hv2, v40⟩, (hf4.p1 271 22).trans hr2⟩
    · exact k_wrongs g2 1 (by omega) (fun M3 hf3 g3 => hrd.2 e M3 (hf2.mono.tr hf3.mono) g3)
end LS
