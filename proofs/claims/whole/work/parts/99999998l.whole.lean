/-! a MEET is whole: on both sides; all its STATEMENTS -/
abbrev hsP (t : q_T) (p : Nat) : Prop := (p = 1 → 0 < soN t 1 ∧ 0 < soN t 2 ∧ 0 < soN t 3) ∧ (¬ p = 1 → 0 < soN t 0)
abbrev whP (t : q_T) : Prop := 0 < t 8 0 ∧ ∀ e, e < t 8 0 → ¬ t 11 (6 * e) = 0 ∧ hsP t (t 9 e)
def bV (u : Int32) (A : Prop) : Prop := (u = Int32.ofInt 1 ∧ A) ∨ (u = Int32.ofInt 0 ∧ ¬ A)
section WH
variable {L : Nat} {xs : Nat → Int32} {E : q_E} {d : Nat} {M : q_M} {t : q_T} {n : sN} {Q : Option Value → q_M → Prop} {P : q_M → Prop}
variable {x : Nat → Nat} {len : Nat} {tok : Nat → Tok} {T : Nat}
theorem soN_11 (bt : b_T t) (s : Nat) : soN t s ≤ 11 := Nat.le_trans (fb_ct_le _ _) bt.2.2.1
set_option maxRecDepth 100000 in
set_option maxHeartbeats 4000000 in
theorem k2_countSortD (dc : dC M t) (bt : b_T t) {a : Int32} (s : Nat) (hs : s ≤ 3) (hQ : Q (some (.int (nI (soN t s)))) M) (ha : a = nI s := by (first | assumption | (simp only [z_nat, z_lit, ← Int32.ofInt_add, ← Int32.ofInt_sub, ← Int32.ofInt_mul]; exact congrArg Int32.ofInt (by omega)) | (simp only [z_nat, z_lit, ← Int32.ofInt_add, ← Int32.ofInt_sub, ← Int32.ofInt_mul]; done) | exact congrArg Int32.ofInt (by omega) | rfl)) : q_C q_mt (L, xs, q_shp) E nX2_countSort (d) 0 0 [.ref 24, .int (a)] M Q := by
  subst ha
  have h11 := bt.2.2.1
  have jN : M.1 24 2 = nI (t 2 0) := dc.1.2.2.1
  have W := lp_up (W := fun k => ∀ u v, u = nI (fb_ct (fun j => decide (t 4 j = s)) k) → v = nI k → q_G q_mt (L, xs, q_shp) E nX2_countSort (d) 0 0 (q_Q (L, xs, q_shp) E Q) 4 [some (.ref 24), some (.int (nI s)), some (.int (u)), some (.int (v))] [] M) (t 2 0) ?_ ?_ 0 (Nat.zero_le _)
  · refine w_in 90 [4] ?_
    exact W _ _ rfl rfl
  · rintro u v rfl rfl
    refine w_at 90 [4] ?_
    refine ⟨_, jN, ?_⟩
    exact z_le (t 2 0) (t 2 0) (fun h => ⟨_, rfl, hQ⟩) (fun h => by omega)
  · rintro k hk ih u v rfl rfl
    have hc := fb_ct_le (fun j => decide (t 4 j = s)) k
    have h4 := (bt.2.2.2.2.2.2.2.1 k hk).2
    have e26 : M.1 26 k = nI (t 4 k) := (dc.1.2.2.2.2.2.2.2.1 k hk).2
    refine w_at 90 [4] ?_
    refine ⟨_, jN, ?_⟩
    refine z_le (t 2 0) k (fun h => by omega) (fun h => ?_)
    refine ⟨k, _, by (first | assumption | (simp only [z_nat, z_lit, ← Int32.ofInt_add, ← Int32.ofInt_sub, ← Int32.ofInt_mul]; exact congrArg Int32.ofInt (by omega)) | (simp only [z_nat, z_lit, ← Int32.ofInt_add, ← Int32.ofInt_sub, ← Int32.ofInt_mul]; done) | exact congrArg Int32.ofInt (by omega) | rfl), by (dsimp only; omega), e26, ?_⟩
    refine z_ne (t 4 k) s (fun h1 => ?_) (fun h1 => ?_)
    · exact ih _ _ (by rw [ct_f (p := fun j => decide (t 4 j = s)) (decide_eq_false (by omega))]) (by (first | assumption | (simp only [z_nat, z_lit, ← Int32.ofInt_add, ← Int32.ofInt_sub, ← Int32.ofInt_mul]; exact congrArg Int32.ofInt (by omega)) | (simp only [z_nat, z_lit, ← Int32.ofInt_add, ← Int32.ofInt_sub, ← Int32.ofInt_mul]; done) | exact congrArg Int32.ofInt (by omega) | rfl))
    · exact ih _ _ (by rw [ct_t (p := fun j => decide (t 4 j = s)) (decide_eq_true (by omega))]; (first | assumption | (simp only [z_nat, z_lit, ← Int32.ofInt_add, ← Int32.ofInt_sub, ← Int32.ofInt_mul]; exact congrArg Int32.ofInt (by omega)) | (simp only [z_nat, z_lit, ← Int32.ofInt_add, ← Int32.ofInt_sub, ← Int32.ofInt_mul]; done) | exact congrArg Int32.ofInt (by omega) | rfl)) (by (first | assumption | (simp only [z_nat, z_lit, ← Int32.ofInt_add, ← Int32.ofInt_sub, ← Int32.ofInt_mul]; exact congrArg Int32.ofInt (by omega)) | (simp only [z_nat, z_lit, ← Int32.ofInt_add, ← Int32.ofInt_sub, ← Int32.ofInt_mul]; done) | exact congrArg Int32.ofInt (by omega) | rfl))
set_option maxRecDepth 100000 in
set_option maxHeartbeats 4000000 in
theorem k2_hasPanel {p : Nat} {a : Int32} (dc : dC M t) (bt : b_T t) (hp : p ≤ 1) (h1 : hsP t p → Q (some (.int 1)) M) (h0 : ¬ hsP t p → Q (some (.int 0)) M) (ha : a = nI p := by (first | assumption | (simp only [z_nat, z_lit, ← Int32.ofInt_add, ← Int32.ofInt_sub, ← Int32.ofInt_mul]; exact congrArg Int32.ofInt (by omega)) | (simp only [z_nat, z_lit, ← Int32.ofInt_add, ← Int32.ofInt_sub, ← Int32.ofInt_mul]; done) | exact congrArg Int32.ofInt (by omega) | rfl)) : q_C q_mt (L, xs, q_shp) E nX3_hasPanel (d + 1) 0 0 [.ref 42, .int (a)] M Q := by
  subst ha
  have s0 := soN_11 bt 0
  have s1 := soN_11 bt 1
  have s2 := soN_11 bt 2
  have s3 := soN_11 bt 3
  refine w_in 90 [] ?_
  refine z_ne (p : Int) 0 (fun z => ?_) (fun z => ?_)
  · have p1 : p = 1 := by omega
    refine k2_countSortD dc bt 1 (by omega) ?_
    refine z_le (soN t 1 : Int) 0 (fun y => ⟨z_0, h0 (fun k => by have := (k.1 p1).1; omega)⟩) (fun y1 => ?_)
    refine k2_countSortD dc bt 2 (by omega) ?_
    refine z_le (soN t 2 : Int) 0 (fun y => ⟨z_0, h0 (fun k => by have := (k.1 p1).2.1; omega)⟩) (fun y2 => ?_)
    refine k2_countSortD dc bt 3 (by omega) ?_
    exact z_le (soN t 3 : Int) 0 (fun y => ⟨z_0, h0 (fun k => by have := (k.1 p1).2.2; omega)⟩) (fun y3 => ⟨z_1, h1 ⟨fun _ => ⟨by omega, by omega, by omega⟩, fun q => absurd p1 q⟩⟩)
  · have p0 : ¬ p = 1 := by omega
    refine k2_countSortD dc bt 0 (by omega) ?_
    exact z_le (soN t 0 : Int) 0 (fun y => ⟨z_0, h0 (fun k => by have := k.2 p0; omega)⟩) (fun y => ⟨z_1, h1 ⟨fun q => absurd q p0, fun _ => by omega⟩⟩)
set_option maxRecDepth 100000 in
set_option maxHeartbeats 4000000 in
theorem k2_isWhole (dc : dC M t) (bt : b_T t) (b11 : ∀ s, s < 36 → t 11 s ≤ 10) (h1 : whP t → Q (some (.int 1)) M) (h0 : ¬ whP t → Q (some (.int 0)) M) : q_C q_mt (L, xs, q_shp) E nX3_isWhole (d + 2) 0 0 [.ref 42] M Q := by
  have b8 := bt.2.2.2.2.1
  have e8 : M.1 24 9 = nI (t 8 0) := dc.1.2.2.2.2.1
  have W := lp_up (W := fun k => (∀ e, e < k → ¬ t 11 (6 * e) = 0 ∧ hsP t (t 9 e)) → ∀ v, v = nI k → q_G q_mt (L, xs, q_shp) E nX3_isWhole (d + 2) 0 0 (q_Q (L, xs, q_shp) E Q) 2 [some (.ref 42), some (.int (v))] [] M) (t 8 0) ?_ ?_ 0 (Nat.zero_le _)
  · refine w_in 90 [2] ?_
    exact W (fun e he => absurd he (Nat.not_lt_zero _)) _ rfl
  · rintro hall v rfl
    refine w_at 90 [2] ?_
    refine ⟨_, e8, ?_⟩
    refine z_le (t 8 0 : Int) (t 8 0) (fun _ => ?_) (fun z => by omega)
    refine ⟨_, e8, ?_⟩
    exact z_le (t 8 0 : Int) 0 (fun z => ⟨z_0, h0 (fun k => by have := k.1; omega)⟩) (fun z => ⟨z_1, h1 ⟨by omega, hall⟩⟩)
  · rintro k hk ih hall v rfl
    have e33 : M.1 33 (6 * k) = Int32.ofInt ((t 11 (6 * k) : Int) - 1) := dc.2.1 (6 * k) (by omega)
    have e31 : M.1 31 k = nI (t 9 k) := (dc.1.2.2.2.2.2.2.2.2.2.1 k hk).1
    have p1 := (bt.2.2.2.2.2.2.2.2.2 k hk).1
    have q11 := b11 (6 * k) (by omega)
    refine w_at 90 [2] ?_
    refine ⟨_, e8, ?_⟩
    refine z_le (t 8 0 : Int) k (fun z => by omega) (fun _ => ?_)
    refine ⟨6 * k, _, by (first | assumption | (simp only [z_nat, z_lit, ← Int32.ofInt_add, ← Int32.ofInt_sub, ← Int32.ofInt_mul]; exact congrArg Int32.ofInt (by omega)) | (simp only [z_nat, z_lit, ← Int32.ofInt_add, ← Int32.ofInt_sub, ← Int32.ofInt_mul]; done) | exact congrArg Int32.ofInt (by omega) | rfl), by (dsimp only; omega), e33, ?_⟩
    refine z_eq ((t 11 (6 * k) : Int) - 1) (-1) (fun z => ⟨z_0, h0 (fun y => (y.2 k hk).1 (by omega))⟩) (fun z => ?_)
    refine ⟨k, _, by (first | assumption | (simp only [z_nat, z_lit, ← Int32.ofInt_add, ← Int32.ofInt_sub, ← Int32.ofInt_mul]; exact congrArg Int32.ofInt (by omega)) | (simp only [z_nat, z_lit, ← Int32.ofInt_add, ← Int32.ofInt_sub, ← Int32.ofInt_mul]; done) | exact congrArg Int32.ofInt (by omega) | rfl), by (dsimp only; omega), e31, ?_⟩
    have nxt : hsP t (t 9 k) → ∀ e, e < k + 1 → ¬ t 11 (6 * e) = 0 ∧ hsP t (t 9 e) := fun hp e he => by
      by_cases q : e = k
      · subst q
        exact ⟨by omega, hp⟩
      · exact hall e (by omega)
    refine z_ne (t 9 k : Int) 1 (fun z1 => ?_) (fun z1 => ?_)
    · have e9 : t 9 k = 0 := by omega
      rw [e9] at nxt
      refine k2_hasPanel (p := 0) dc bt (by omega) (fun hp => bn_t (by decide) (ih (nxt hp) _ (by (first | assumption | (simp only [z_nat, z_lit, ← Int32.ofInt_add, ← Int32.ofInt_sub, ← Int32.ofInt_mul]; exact congrArg Int32.ofInt (by omega)) | (simp only [z_nat, z_lit, ← Int32.ofInt_add, ← Int32.ofInt_sub, ← Int32.ofInt_mul]; done) | exact congrArg Int32.ofInt (by omega) | rfl)))) (fun hp => bn_f rfl ⟨z_0, h0 (fun y => hp ?_)⟩)
      have := (y.2 k hk).2
      rw [e9] at this
      exact this
    · have e9 : t 9 k = 1 := by omega
      rw [e9] at nxt
      refine k2_hasPanel (p := 1) dc bt (by omega) (fun hp => bn_t (by decide) (ih (nxt hp) _ (by (first | assumption | (simp only [z_nat, z_lit, ← Int32.ofInt_add, ← Int32.ofInt_sub, ← Int32.ofInt_mul]; exact congrArg Int32.ofInt (by omega)) | (simp only [z_nat, z_lit, ← Int32.ofInt_add, ← Int32.ofInt_sub, ← Int32.ofInt_mul]; done) | exact congrArg Int32.ofInt (by omega) | rfl)))) (fun hp => bn_f rfl ⟨z_0, h0 (fun y => hp ?_)⟩)
      have := (y.2 k hk).2
      rw [e9] at this
      exact this
set_option maxRecDepth 100000 in
set_option maxHeartbeats 4000000 in
theorem k_draftJudges (dr : dR M t) (bt : b_T t) {a : Int32} (s : Nat) (hs : s ≤ 3) (hQ : Q (some (.int (nI (soN t s)))) M) (ha : a = nI s := by (first | assumption | (simp only [z_nat, z_lit, ← Int32.ofInt_add, ← Int32.ofInt_sub, ← Int32.ofInt_mul]; exact congrArg Int32.ofInt (by omega)) | (simp only [z_nat, z_lit, ← Int32.ofInt_add, ← Int32.ofInt_sub, ← Int32.ofInt_mul]; done) | exact congrArg Int32.ofInt (by omega) | rfl)) : q_C q_mt (L, xs, q_shp) E nX12_draftJudges (d) 0 0 [.ref 271, .int (a)] M Q := by
  subst ha
  have h11 := bt.2.2.1
  have jN : M.1 279 2 = nI (t 2 0) := dr.1.2.2.1
  have W := lp_up (W := fun k => ∀ u v, u = nI (fb_ct (fun j => decide (t 4 j = s)) k) → v = nI k → q_G q_mt (L, xs, q_shp) E nX12_draftJudges (d) 0 0 (q_Q (L, xs, q_shp) E Q) 4 [some (.ref 271), some (.int (nI s)), some (.int (u)), some (.int (v))] [] M) (t 2 0) ?_ ?_ 0 (Nat.zero_le _)
  · refine w_in 90 [4] ?_
    exact W _ _ rfl rfl
  · rintro u v rfl rfl
    refine w_at 90 [4] ?_
    refine ⟨2, _, by (first | assumption | (simp only [z_nat, z_lit, ← Int32.ofInt_add, ← Int32.ofInt_sub, ← Int32.ofInt_mul]; exact congrArg Int32.ofInt (by omega)) | (simp only [z_nat, z_lit, ← Int32.ofInt_add, ← Int32.ofInt_sub, ← Int32.ofInt_mul]; done) | exact congrArg Int32.ofInt (by omega) | rfl), by (dsimp only; omega), jN, ?_⟩
    exact z_le (t 2 0) (t 2 0) (fun h => ⟨_, rfl, hQ⟩) (fun h => by omega)
  · rintro k hk ih u v rfl rfl
    have hc := fb_ct_le (fun j => decide (t 4 j = s)) k
    have h4 := (bt.2.2.2.2.2.2.2.1 k hk).2
    have e9 : M.1 279 (9 + 2 * k) = nI (t 4 k) := (dr.1.2.2.2.2.2.2.2.1 k hk).2
    refine w_at 90 [4] ?_
    refine ⟨2, _, by (first | assumption | (simp only [z_nat, z_lit, ← Int32.ofInt_add, ← Int32.ofInt_sub, ← Int32.ofInt_mul]; exact congrArg Int32.ofInt (by omega)) | (simp only [z_nat, z_lit, ← Int32.ofInt_add, ← Int32.ofInt_sub, ← Int32.ofInt_mul]; done) | exact congrArg Int32.ofInt (by omega) | rfl), by (dsimp only; omega), jN, ?_⟩
    refine z_le (t 2 0) k (fun h => by omega) (fun h => ?_)
    refine ⟨9 + 2 * k, _, by (first | assumption | (simp only [z_nat, z_lit, ← Int32.ofInt_add, ← Int32.ofInt_sub, ← Int32.ofInt_mul]; exact congrArg Int32.ofInt (by omega)) | (simp only [z_nat, z_lit, ← Int32.ofInt_add, ← Int32.ofInt_sub, ← Int32.ofInt_mul]; done) | exact congrArg Int32.ofInt (by omega) | rfl), by (dsimp only; omega), e9, ?_⟩
    refine z_ne (t 4 k) s (fun h1 => ?_) (fun h1 => ?_)
    · exact ih _ _ (by rw [ct_f (p := fun j => decide (t 4 j = s)) (decide_eq_false (by omega))]; (first | assumption | (simp only [z_nat, z_lit, ← Int32.ofInt_add, ← Int32.ofInt_sub, ← Int32.ofInt_mul]; exact congrArg Int32.ofInt (by omega)) | (simp only [z_nat, z_lit, ← Int32.ofInt_add, ← Int32.ofInt_sub, ← Int32.ofInt_mul]; done) | exact congrArg Int32.ofInt (by omega) | rfl)) (by (first | assumption | (simp only [z_nat, z_lit, ← Int32.ofInt_add, ← Int32.ofInt_sub, ← Int32.ofInt_mul]; exact congrArg Int32.ofInt (by omega)) | (simp only [z_nat, z_lit, ← Int32.ofInt_add, ← Int32.ofInt_sub, ← Int32.ofInt_mul]; done) | exact congrArg Int32.ofInt (by omega) | rfl))
    · exact ih _ _ (by rw [ct_t (p := fun j => decide (t 4 j = s)) (decide_eq_true (by omega))]; (first | assumption | (simp only [z_nat, z_lit, ← Int32.ofInt_add, ← Int32.ofInt_sub, ← Int32.ofInt_mul]; exact congrArg Int32.ofInt (by omega)) | (simp only [z_nat, z_lit, ← Int32.ofInt_add, ← Int32.ofInt_sub, ← Int32.ofInt_mul]; done) | exact congrArg Int32.ofInt (by omega) | rfl)) (by (first | assumption | (simp only [z_nat, z_lit, ← Int32.ofInt_add, ← Int32.ofInt_sub, ← Int32.ofInt_mul]; exact congrArg Int32.ofInt (by omega)) | (simp only [z_nat, z_lit, ← Int32.ofInt_add, ← Int32.ofInt_sub, ← Int32.ofInt_mul]; done) | exact congrArg Int32.ofInt (by omega) | rfl))
set_option maxRecDepth 100000 in
set_option maxHeartbeats 4000000 in
theorem k_isWhole (dr : dR M t) (bt : b_T t) (b11 : ∀ s, s < 36 → t 11 s ≤ 10) (h1 : whP t → Q (some (.int 1)) M) (h0 : ¬ whP t → Q (some (.int 0)) M) : q_C q_mt (L, xs, q_shp) E nX12_isWhole (d + 2) 0 0 [.ref 271] M Q := by
  have b8 := bt.2.2.2.2.1
  have e8 : M.1 279 4 = nI (t 8 0) := dr.1.2.2.2.2.1
  -- the sorts of judges that an entrant needs
  have st : ∀ (k p s : Nat) (A : Prop) (u v : Int32), k < 6 → p ≤ 1 → (p = 0 → s ≤ 0) → s ≤ 3 → bV u A → v = nI s → (∀ u' v', bV u' (A ∧ 0 < soN t s) → v' = nI (s + 1) → q_G q_mt (L, xs, q_shp) E nX12_isWhole (d + 2) 0 0 (q_Q (L, xs, q_shp) E Q) 85 [some (.ref 271), some (.int (u')), some (.int (nI k)), some (.int (nI p)), some (.int (v'))] [] M) → q_G q_mt (L, xs, q_shp) E nX12_isWhole (d + 2) 0 0 (q_Q (L, xs, q_shp) E Q) 85 [some (.ref 271), some (.int (u)), some (.int (nI k)), some (.int (nI p)), some (.int (v))] [] M := by
    rintro k p s A u v hk hp hs0 hs3 hu rfl nx
    have s11 := soN_11 bt s
    have go : ∀ (Q2 : Option Value → q_M → Prop), (∀ y, (y = nI (soN t s)) → Q2 (some (.int y)) M) → q_C q_mt (L, xs, q_shp) E nX12_draftJudges (d + 1) 0 0 [.ref 271, .int (nI s)] M Q2 := fun Q2 hQ2 => k_draftJudges dr bt s hs3 (hQ2 _ rfl)
    refine w_at 90 [17, 85] ?_
    refine z_eq (p : Int) 0 (fun z => ?_) (fun z => ?_)
    · refine z_lt 0 (s : Int) (fun y => by omega) (fun y => ?_)
      rcases hu with ⟨rfl, hA⟩ | ⟨rfl, hA⟩
      · refine br_f (by decide) (go _ (fun y hy => ?_))
        subst hy
        exact z_le (soN t s : Int) 0 (fun y => nx _ _ (Or.inr ⟨rfl, fun q => by have := q.2; omega⟩) (by (first | assumption | (simp only [z_nat, z_lit, ← Int32.ofInt_add, ← Int32.ofInt_sub, ← Int32.ofInt_mul]; exact congrArg Int32.ofInt (by omega)) | (simp only [z_nat, z_lit, ← Int32.ofInt_add, ← Int32.ofInt_sub, ← Int32.ofInt_mul]; done) | exact congrArg Int32.ofInt (by omega) | rfl))) (fun y => nx _ _ (Or.inl ⟨rfl, hA, by omega⟩) (by (first | assumption | (simp only [z_nat, z_lit, ← Int32.ofInt_add, ← Int32.ofInt_sub, ← Int32.ofInt_mul]; exact congrArg Int32.ofInt (by omega)) | (simp only [z_nat, z_lit, ← Int32.ofInt_add, ← Int32.ofInt_sub, ← Int32.ofInt_mul]; done) | exact congrArg Int32.ofInt (by omega) | rfl)))
      · exact br_t (by decide) (nx _ _ (Or.inr ⟨rfl, fun q => hA q.1⟩) (by (first | assumption | (simp only [z_nat, z_lit, ← Int32.ofInt_add, ← Int32.ofInt_sub, ← Int32.ofInt_mul]; exact congrArg Int32.ofInt (by omega)) | (simp only [z_nat, z_lit, ← Int32.ofInt_add, ← Int32.ofInt_sub, ← Int32.ofInt_mul]; done) | exact congrArg Int32.ofInt (by omega) | rfl)))
    · refine z_lt 3 (s : Int) (fun y => by omega) (fun y => ?_)
      rcases hu with ⟨rfl, hA⟩ | ⟨rfl, hA⟩
      · refine br_f (by decide) (go _ (fun y hy => ?_))
        subst hy
        exact z_le (soN t s : Int) 0 (fun y => nx _ _ (Or.inr ⟨rfl, fun q => by have := q.2; omega⟩) (by (first | assumption | (simp only [z_nat, z_lit, ← Int32.ofInt_add, ← Int32.ofInt_sub, ← Int32.ofInt_mul]; exact congrArg Int32.ofInt (by omega)) | (simp only [z_nat, z_lit, ← Int32.ofInt_add, ← Int32.ofInt_sub, ← Int32.ofInt_mul]; done) | exact congrArg Int32.ofInt (by omega) | rfl))) (fun y => nx _ _ (Or.inl ⟨rfl, hA, by omega⟩) (by (first | assumption | (simp only [z_nat, z_lit, ← Int32.ofInt_add, ← Int32.ofInt_sub, ← Int32.ofInt_mul]; exact congrArg Int32.ofInt (by omega)) | (simp only [z_nat, z_lit, ← Int32.ofInt_add, ← Int32.ofInt_sub, ← Int32.ofInt_mul]; done) | exact congrArg Int32.ofInt (by omega) | rfl)))
      · exact br_t (by decide) (nx _ _ (Or.inr ⟨rfl, fun q => hA q.1⟩) (by (first | assumption | (simp only [z_nat, z_lit, ← Int32.ofInt_add, ← Int32.ofInt_sub, ← Int32.ofInt_mul]; exact congrArg Int32.ofInt (by omega)) | (simp only [z_nat, z_lit, ← Int32.ofInt_add, ← Int32.ofInt_sub, ← Int32.ofInt_mul]; done) | exact congrArg Int32.ofInt (by omega) | rfl)))
  have W := lp_up (W := fun k => ∀ u v l3 l4, bV u (0 < t 8 0 ∧ ∀ e, e < k → ¬ t 11 (6 * e) = 0 ∧ hsP t (t 9 e)) → v = nI k → q_G q_mt (L, xs, q_shp) E nX12_isWhole (d + 2) 0 0 (q_Q (L, xs, q_shp) E Q) 17 [some (.ref 271), some (.int (u)), some (.int (v)), l3, l4] [] M) (t 8 0) ?_ ?_ 0 (Nat.zero_le _)
  · refine w_in 90 [17, 85] ?_
    refine ⟨4, _, by (first | assumption | (simp only [z_nat, z_lit, ← Int32.ofInt_add, ← Int32.ofInt_sub, ← Int32.ofInt_mul]; exact congrArg Int32.ofInt (by omega)) | (simp only [z_nat, z_lit, ← Int32.ofInt_add, ← Int32.ofInt_sub, ← Int32.ofInt_mul]; done) | exact congrArg Int32.ofInt (by omega) | rfl), by (dsimp only; omega), e8, ?_⟩
    exact z_le (t 8 0 : Int) 0 (fun z => W _ _ _ _ (Or.inr ⟨rfl, fun q => by have := q.1; omega⟩) rfl) (fun z => W _ _ _ _ (Or.inl ⟨rfl, by omega, fun e he => absurd he (Nat.not_lt_zero _)⟩) rfl)
  · rintro u v l3 l4 hu rfl
    refine w_at 90 [17, 85] ?_
    refine ⟨4, _, by (first | assumption | (simp only [z_nat, z_lit, ← Int32.ofInt_add, ← Int32.ofInt_sub, ← Int32.ofInt_mul]; exact congrArg Int32.ofInt (by omega)) | (simp only [z_nat, z_lit, ← Int32.ofInt_add, ← Int32.ofInt_sub, ← Int32.ofInt_mul]; done) | exact congrArg Int32.ofInt (by omega) | rfl), by (dsimp only; omega), e8, ?_⟩
    refine z_le (t 8 0 : Int) (t 8 0) (fun _ => ?_) (fun z => by omega)
    rcases hu with ⟨rfl, hA⟩ | ⟨rfl, hA⟩
    · exact ⟨z_1, h1 hA⟩
    · exact ⟨z_0, h0 hA⟩
  · rintro k hk ih u v l3 l4 hu rfl
    have e62 : M.1 279 (62 + 6 * k) = Int32.ofInt ((t 11 (6 * k) : Int) - 1) := (dr.2.1 k hk).1
    have e50 : M.1 279 (50 + 2 * k) = nI (t 9 k) := (dr.1.2.2.2.2.2.2.2.2.2.1 k hk).1
    have p1 := (bt.2.2.2.2.2.2.2.2.2 k hk).1
    have q11 := b11 (6 * k) (by omega)
    -- behind the list
    have mid : ∀ u', bV u' ((0 < t 8 0 ∧ ∀ e, e < k → ¬ t 11 (6 * e) = 0 ∧ hsP t (t 9 e)) ∧ ¬ t 11 (6 * k) = 0) → ∀ v', v' = nI (t 9 k) → q_G q_mt (L, xs, q_shp) E nX12_isWhole (d + 2) 0 0 (q_Q (L, xs, q_shp) E Q) 85 [some (.ref 271), some (.int (u')), some (.int (nI k)), some (.int (nI (t 9 k))), some (.int (v'))] [] M := by
      rintro u' hu' v' rfl
      have fin : ∀ (s : Nat) (u2 v2 : Int32), s ≤ 4 → (t 9 k = 0 → 0 < s) → (t 9 k = 1 → 3 < s) → v2 = nI s → bV u2 (0 < t 8 0 ∧ ∀ e, e < k + 1 → ¬ t 11 (6 * e) = 0 ∧ hsP t (t 9 e)) → q_G q_mt (L, xs, q_shp) E nX12_isWhole (d + 2) 0 0 (q_Q (L, xs, q_shp) E Q) 85 [some (.ref 271), some (.int (u2)), some (.int (nI k)), some (.int (nI (t 9 k))), some (.int (v2))] [] M := by
        rintro s u2 v2 hs4 f0 f1 rfl hu2
        refine w_at 90 [17, 85] ?_
        refine z_eq (t 9 k : Int) 0 (fun z => ?_) (fun z => ?_)
        · exact z_lt 0 (s : Int) (fun y => ih _ _ _ _ hu2 (by (first | assumption | (simp only [z_nat, z_lit, ← Int32.ofInt_add, ← Int32.ofInt_sub, ← Int32.ofInt_mul]; exact congrArg Int32.ofInt (by omega)) | (simp only [z_nat, z_lit, ← Int32.ofInt_add, ← Int32.ofInt_sub, ← Int32.ofInt_mul]; done) | exact congrArg Int32.ofInt (by omega) | rfl))) (fun y => by omega)
        · exact z_lt 3 (s : Int) (fun y => ih _ _ _ _ hu2 (by (first | assumption | (simp only [z_nat, z_lit, ← Int32.ofInt_add, ← Int32.ofInt_sub, ← Int32.ofInt_mul]; exact congrArg Int32.ofInt (by omega)) | (simp only [z_nat, z_lit, ← Int32.ofInt_add, ← Int32.ofInt_sub, ← Int32.ofInt_mul]; done) | exact congrArg Int32.ofInt (by omega) | rfl))) (fun y => by omega)
      have nxt : (0 < t 8 0 ∧ ∀ e, e < k + 1 → ¬ t 11 (6 * e) = 0 ∧ hsP t (t 9 e)) ↔ (((0 < t 8 0 ∧ ∀ e, e < k → ¬ t 11 (6 * e) = 0 ∧ hsP t (t 9 e)) ∧ ¬ t 11 (6 * k) = 0) ∧ hsP t (t 9 k)) := ⟨fun y => ⟨⟨⟨y.1, fun e he => y.2 e (by omega)⟩, (y.2 k (by omega)).1⟩, (y.2 k (by omega)).2⟩, fun y => ⟨y.1.1.1, fun e he => by
        by_cases q : e = k
        · subst q
          exact ⟨y.1.2, y.2⟩
        · exact y.1.1.2 e (by omega)⟩⟩
      by_cases e9 : t 9 k = 1
      · rw [e9] at fin nxt ⊢
        refine st k 1 1 _ _ _ (by omega) (by omega) (by omega) (by omega) hu' rfl (fun u1 v1 hu1 hv1 => ?_)
        refine st k 1 2 _ _ _ (by omega) (by omega) (by omega) (by omega) hu1 hv1 (fun u2 v2 hu2 hv2 => ?_)
        refine st k 1 3 _ _ _ (by omega) (by omega) (by omega) (by omega) hu2 hv2 (fun u3 v3 hu3 hv3 => ?_)
        refine fin 4 _ _ (by omega) (by omega) (by omega) hv3 ?_
        rcases hu3 with ⟨r, hA⟩ | ⟨r, hA⟩
        · exact Or.inl ⟨r, nxt.mpr ⟨hA.1.1.1, fun _ => ⟨hA.1.1.2, hA.1.2, hA.2⟩, fun q => absurd rfl q⟩⟩
        · exact Or.inr ⟨r, fun q => hA ⟨⟨⟨(nxt.mp q).1, ((nxt.mp q).2.1 rfl).1⟩, ((nxt.mp q).2.1 rfl).2.1⟩, ((nxt.mp q).2.1 rfl).2.2⟩⟩
      · have e9 : t 9 k = 0 := by omega
        rw [e9] at fin nxt ⊢
        refine st k 0 0 _ _ _ (by omega) (by omega) (by omega) (by omega) hu' rfl (fun u1 v1 hu1 hv1 => ?_)
        refine fin 1 _ _ (by omega) (by omega) (by omega) hv1 ?_
        rcases hu1 with ⟨r, hA⟩ | ⟨r, hA⟩
        · exact Or.inl ⟨r, nxt.mpr ⟨hA.1, fun q => absurd q (by decide), fun _ => hA.2⟩⟩
        · exact Or.inr ⟨r, fun q => hA ⟨(nxt.mp q).1, (nxt.mp q).2.2 (by decide)⟩⟩
    -- a pair's flag
    have pr : ∀ u', bV u' ((0 < t 8 0 ∧ ∀ e, e < k → ¬ t 11 (6 * e) = 0 ∧ hsP t (t 9 e)) ∧ ¬ t 11 (6 * k) = 0) → ∀ l3 l4, q_G q_mt (L, xs, q_shp) E nX12_isWhole (d + 2) 0 0 (q_Q (L, xs, q_shp) E Q) 53 [some (.ref 271), some (.int (u')), some (.int (nI k)), l3, l4] [] M := by
      intro u' hu' l3 l4
      by_cases e9 : t 9 k = 1
      · rw [e9] at mid e50
        refine w_at 90 [17, 53, 85] ?_
        refine ⟨50 + 2 * k, _, by (first | assumption | (simp only [z_nat, z_lit, ← Int32.ofInt_add, ← Int32.ofInt_sub, ← Int32.ofInt_mul]; exact congrArg Int32.ofInt (by omega)) | (simp only [z_nat, z_lit, ← Int32.ofInt_add, ← Int32.ofInt_sub, ← Int32.ofInt_mul]; done) | exact congrArg Int32.ofInt (by omega) | rfl), by (dsimp only; omega), e50, ?_⟩
        exact z_ne (1 : Int) 1 (fun z => absurd rfl z) (fun _ => br_f (by decide) (mid u' hu' _ rfl))
      · have e9 : t 9 k = 0 := by omega
        rw [e9] at mid e50
        refine w_at 90 [17, 53, 85] ?_
        refine ⟨50 + 2 * k, _, by (first | assumption | (simp only [z_nat, z_lit, ← Int32.ofInt_add, ← Int32.ofInt_sub, ← Int32.ofInt_mul]; exact congrArg Int32.ofInt (by omega)) | (simp only [z_nat, z_lit, ← Int32.ofInt_add, ← Int32.ofInt_sub, ← Int32.ofInt_mul]; done) | exact congrArg Int32.ofInt (by omega) | rfl), by (dsimp only; omega), e50, ?_⟩
        exact z_ne (0 : Int) 1 (fun _ => br_t (by decide) (mid u' hu' _ rfl)) (fun z => absurd z (by decide))
    refine w_at 90 [17, 53, 85] ?_
    refine ⟨4, _, by (first | assumption | (simp only [z_nat, z_lit, ← Int32.ofInt_add, ← Int32.ofInt_sub, ← Int32.ofInt_mul]; exact congrArg Int32.ofInt (by omega)) | (simp only [z_nat, z_lit, ← Int32.ofInt_add, ← Int32.ofInt_sub, ← Int32.ofInt_mul]; done) | exact congrArg Int32.ofInt (by omega) | rfl), by (dsimp only; omega), e8, ?_⟩
    refine z_le (t 8 0 : Int) k (fun z => by omega) (fun _ => ?_)
    rcases hu with ⟨rfl, hA⟩ | ⟨rfl, hA⟩
    · refine br_f (by decide) ?_
      refine ⟨62 + 6 * k, _, by (first | assumption | (simp only [z_nat, z_lit, ← Int32.ofInt_add, ← Int32.ofInt_sub, ← Int32.ofInt_mul]; exact congrArg Int32.ofInt (by omega)) | (simp only [z_nat, z_lit, ← Int32.ofInt_add, ← Int32.ofInt_sub, ← Int32.ofInt_mul]; done) | exact congrArg Int32.ofInt (by omega) | rfl), by (dsimp only; omega), e62, ?_⟩
      exact z_eq ((t 11 (6 * k) : Int) - 1) (-1) (fun z => pr _ (Or.inr ⟨rfl, fun q => q.2 (by omega)⟩) _ _) (fun z => pr _ (Or.inl ⟨rfl, hA, by omega⟩) _ _)
    · exact br_t (by decide) (pr _ (Or.inr ⟨rfl, fun q => hA q.1⟩) _ _)
end WH
