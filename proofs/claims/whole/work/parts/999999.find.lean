/-! names: how they are held and found -/
/-- a name is told -/
def nmO (t : q_T) (j : Nat) : Prop := 1 ≤ t 30 j ∧ t 30 j ≤ 7 ∧ (∀ p, p < t 30 j → 97 ≤ t (31 + j) (0 + p) ∧ t (31 + j) (0 + p) ≤ 122) ∧ ∀ w, ¬ isW (t (31 + j)) 0 (t 30 j) w
/-- its two spellings -/
abbrev n5 (t : q_T) (j : Nat) : Nat := w5E (t (31 + j)) 0 (t 30 j)
abbrev n8 (t : q_T) (j : Nat) : Nat := w8E (t (31 + j)) 0 (t 30 j)
def g_nm (M : q_M) (t : q_T) : Prop := (∀ i, i < t 5 0 → nmO t i ∧ M.2 9 i = Int64.ofInt (n5 t i : Nat) ∧ M.2 282 i = Int64.ofInt (n8 t i : Nat)) ∧ ∀ e, e < t 8 0 → nmO t (10 + e) ∧ M.2 12 e = Int64.ofInt (n5 t (10 + e) : Nat) ∧ M.2 282 (10 + e) = Int64.ofInt (n8 t (10 + e) : Nat)
section FN
variable {L : Nat} {xs : Nat → Int32} {E : q_E} {d : Nat} {M : q_M} {t : q_T} {n : sN} {Q : Option Value → q_M → Prop} {P : q_M → Prop}
/-- the first place that holds v -/
def isF (F : Nat → Int64) (N : Nat) (v : Int64) (i : Nat) : Prop := i < N ∧ F i = v ∧ ∀ j, j < i → ¬ F j = v
theorem isF.un {F : Nat → Int64} {N : Nat} {v : Int64} {i j : Nat} (h : isF F N v i) (h' : isF F N v j) : i = j := by
  rcases Nat.lt_trichotomy i j with z | z | z
  · exact absurd h.2.1 (h'.2.2 i z)
  · exact z
  · exact absurd h'.2.1 (h.2.2 j z)
set_option maxRecDepth 100000 in
set_option maxHeartbeats 4000000 in
theorem k2_findDive {N : Nat} (hN : M.1 6 5 = nI N) (hk : N ≤ 10) {v : Int64} (h1 : ∀ i, isF (M.2 9) N v i → Q (some (.int (nI i))) M) (h0 : (∀ i, i < N → ¬ M.2 9 i = v) → Q (some (.int (Int32.ofInt (-1)))) M) : q_C q_mt (L, xs, q_shp) E nX2_findDive (d) 0 0 [.ref 6, .long (v)] M Q := by
  have W := lp_up (W := fun i => (∀ j, j < i → ¬ M.2 9 j = v) → ∀ u, u = nI i → q_G q_mt (L, xs, q_shp) E nX2_findDive (d) 0 0 (q_Q (L, xs, q_shp) E Q) 2 [some (.ref 6), some (.long (v)), none, some (.int (u))] [] M) N ?_ ?_ 0 (Nat.zero_le _)
  · refine w_in 90 [2] ?_
    exact W (fun j hj => absurd hj (Nat.not_lt_zero _)) _ rfl
  · rintro hj u rfl
    refine w_at 90 [2] ?_
    refine ⟨_, hN, ?_⟩
    exact z_le (N : Int) N (fun _ => ⟨_, rfl, h0 hj⟩) (fun z => by omega)
  · rintro i hi ih hj u rfl
    refine w_at 90 [2] ?_
    refine ⟨_, hN, ?_⟩
    refine z_le (N : Int) i (fun z => by omega) (fun _ => ?_)
    refine ⟨i, _, by (first | assumption | (simp only [z_nat, z_lit, ← Int32.ofInt_add, ← Int32.ofInt_sub, ← Int32.ofInt_mul]; exact congrArg Int32.ofInt (by omega)) | (simp only [z_nat, z_lit, ← Int32.ofInt_add, ← Int32.ofInt_sub, ← Int32.ofInt_mul]; done) | exact congrArg Int32.ofInt (by omega) | rfl), by (dsimp only; omega), rfl, ?_⟩
    refine ⟨fun z => ?_, fun z => ⟨_, rfl, h1 i ⟨hi, (lg_cmp_eq _ _).mp z, hj⟩⟩⟩
    refine ih (fun j hji w => ?_) (nI i + Int32.ofInt 1) (by (first | assumption | (simp only [z_nat, z_lit, ← Int32.ofInt_add, ← Int32.ofInt_sub, ← Int32.ofInt_mul]; exact congrArg Int32.ofInt (by omega)) | (simp only [z_nat, z_lit, ← Int32.ofInt_add, ← Int32.ofInt_sub, ← Int32.ofInt_mul]; done) | exact congrArg Int32.ofInt (by omega) | rfl))
    by_cases q : j = i
    · exact z ((lg_cmp_eq _ _).mpr (q ▸ w))
    · exact hj j (by omega) w
set_option maxRecDepth 100000 in
set_option maxHeartbeats 4000000 in
theorem k2_findEntrant {N : Nat} (hN : M.1 6 9 = nI N) (hk : N ≤ 6) {v : Int64} (h1 : ∀ i, isF (M.2 12) N v i → Q (some (.int (nI i))) M) (h0 : (∀ i, i < N → ¬ M.2 12 i = v) → Q (some (.int (Int32.ofInt (-1)))) M) : q_C q_mt (L, xs, q_shp) E nX2_findEntrant (d) 0 0 [.ref 6, .long (v)] M Q := by
  have W := lp_up (W := fun i => (∀ j, j < i → ¬ M.2 12 j = v) → ∀ u, u = nI i → q_G q_mt (L, xs, q_shp) E nX2_findEntrant (d) 0 0 (q_Q (L, xs, q_shp) E Q) 2 [some (.ref 6), some (.long (v)), none, some (.int (u))] [] M) N ?_ ?_ 0 (Nat.zero_le _)
  · refine w_in 90 [2] ?_
    exact W (fun j hj => absurd hj (Nat.not_lt_zero _)) _ rfl
  · rintro hj u rfl
    refine w_at 90 [2] ?_
    refine ⟨_, hN, ?_⟩
    exact z_le (N : Int) N (fun _ => ⟨_, rfl, h0 hj⟩) (fun z => by omega)
  · rintro i hi ih hj u rfl
    refine w_at 90 [2] ?_
    refine ⟨_, hN, ?_⟩
    refine z_le (N : Int) i (fun z => by omega) (fun _ => ?_)
    refine ⟨i, _, by (first | assumption | (simp only [z_nat, z_lit, ← Int32.ofInt_add, ← Int32.ofInt_sub, ← Int32.ofInt_mul]; exact congrArg Int32.ofInt (by omega)) | (simp only [z_nat, z_lit, ← Int32.ofInt_add, ← Int32.ofInt_sub, ← Int32.ofInt_mul]; done) | exact congrArg Int32.ofInt (by omega) | rfl), by (dsimp only; omega), rfl, ?_⟩
    refine ⟨fun z => ?_, fun z => ⟨_, rfl, h1 i ⟨hi, (lg_cmp_eq _ _).mp z, hj⟩⟩⟩
    refine ih (fun j hji w => ?_) (nI i + Int32.ofInt 1) (by (first | assumption | (simp only [z_nat, z_lit, ← Int32.ofInt_add, ← Int32.ofInt_sub, ← Int32.ofInt_mul]; exact congrArg Int32.ofInt (by omega)) | (simp only [z_nat, z_lit, ← Int32.ofInt_add, ← Int32.ofInt_sub, ← Int32.ofInt_mul]; done) | exact congrArg Int32.ofInt (by omega) | rfl))
    by_cases q : j = i
    · exact z ((lg_cmp_eq _ _).mpr (q ▸ w))
    · exact hj j (by omega) w
set_option maxRecDepth 100000 in
set_option maxHeartbeats 4000000 in
theorem k_namedOf {a b : Int32} (o N : Nat) (hoN : o + N ≤ 16) {v : Int64} (h1 : ∀ i, ¬ v = 0 → isF (fun j => M.2 282 (o + j)) N v i → Q (some (.int (nI i))) M) (h0 : (v = 0 ∨ ∀ i, i < N → ¬ M.2 282 (o + i) = v) → Q (some (.int (Int32.ofInt (-1)))) M) (ha : a = nI o := by (first | assumption | (simp only [z_nat, z_lit, ← Int32.ofInt_add, ← Int32.ofInt_sub, ← Int32.ofInt_mul]; exact congrArg Int32.ofInt (by omega)) | (simp only [z_nat, z_lit, ← Int32.ofInt_add, ← Int32.ofInt_sub, ← Int32.ofInt_mul]; done) | exact congrArg Int32.ofInt (by omega) | rfl)) (hb : b = nI N := by (first | assumption | (simp only [z_nat, z_lit, ← Int32.ofInt_add, ← Int32.ofInt_sub, ← Int32.ofInt_mul]; exact congrArg Int32.ofInt (by omega)) | (simp only [z_nat, z_lit, ← Int32.ofInt_add, ← Int32.ofInt_sub, ← Int32.ofInt_mul]; done) | exact congrArg Int32.ofInt (by omega) | rfl)) : q_C q_mt (L, xs, q_shp) E nX12_namedOf (d) 0 0 [.ref 271, .int (a), .int (b), .long (v)] M Q := by
  subst ha hb
  have W := lp_up (W := fun i => (v = 0 ∨ ∀ j, j < i → ¬ M.2 282 (o + j) = v) → ∀ u, u = nI i → q_G q_mt (L, xs, q_shp) E nX12_namedOf (d) 0 0 (q_Q (L, xs, q_shp) E Q) 3 [some (.ref 271), some (.int (nI o)), some (.int (nI N)), some (.long (v)), none, some (.int (u))] [] M) N ?_ ?_ 0 (Nat.zero_le _)
  · refine w_in 90 [3] ?_
    exact W (Or.inr (fun j hj => absurd hj (Nat.not_lt_zero _))) _ rfl
  · rintro hj u rfl
    refine w_at 90 [3] ?_
    exact z_le (N : Int) N (fun _ => ⟨_, rfl, h0 hj⟩) (fun z => by omega)
  · rintro i hi ih hj u rfl
    refine w_at 90 [3] ?_
    refine z_le (N : Int) i (fun z => by omega) (fun _ => ?_)
    refine ⟨fun z => ?_, fun z => ?_⟩
    · exact ih (Or.inl ((lg_cmp_eq _ _).mp z)) (nI i + Int32.ofInt 1) (by (first | assumption | (simp only [z_nat, z_lit, ← Int32.ofInt_add, ← Int32.ofInt_sub, ← Int32.ofInt_mul]; exact congrArg Int32.ofInt (by omega)) | (simp only [z_nat, z_lit, ← Int32.ofInt_add, ← Int32.ofInt_sub, ← Int32.ofInt_mul]; done) | exact congrArg Int32.ofInt (by omega) | rfl))
    · have hv : ¬ v = 0 := fun w => z ((lg_cmp_eq _ _).mpr w)
      have hj : ∀ j, j < i → ¬ M.2 282 (o + j) = v := hj.elim (fun w => absurd w hv) id
      refine ⟨o + i, _, by (first | assumption | (simp only [z_nat, z_lit, ← Int32.ofInt_add, ← Int32.ofInt_sub, ← Int32.ofInt_mul]; exact congrArg Int32.ofInt (by omega)) | (simp only [z_nat, z_lit, ← Int32.ofInt_add, ← Int32.ofInt_sub, ← Int32.ofInt_mul]; done) | exact congrArg Int32.ofInt (by omega) | rfl), by (dsimp only; omega), rfl, ?_⟩
      refine ⟨fun z => ?_, fun z => ⟨_, rfl, h1 i hv ⟨hi, (lg_cmp_eq _ _).mp z, hj⟩⟩⟩
      refine ih (Or.inr (fun j hji w => ?_)) (nI i + Int32.ofInt 1) (by (first | assumption | (simp only [z_nat, z_lit, ← Int32.ofInt_add, ← Int32.ofInt_sub, ← Int32.ofInt_mul]; exact congrArg Int32.ofInt (by omega)) | (simp only [z_nat, z_lit, ← Int32.ofInt_add, ← Int32.ofInt_sub, ← Int32.ofInt_mul]; done) | exact congrArg Int32.ofInt (by omega) | rfl))
      by_cases q : j = i
      · exact z ((lg_cmp_eq _ _).mpr (q ▸ w))
      · exact hj j (by omega) w
end FN
