/-! the reference's ranks; the calls rank, at, points, total, worth -/
section RK
variable {L : Nat} {xs : Nat → Int32} {E : q_E} {d : Nat} {M : q_M} {t : q_T} {n : sN} {Q : Option Value → q_M → Prop} {P : q_M → Prop}
set_option maxRecDepth 100000 in
set_option maxHeartbeats 4000000 in
theorem k_reachOf (g : g_R M t n) {a : Int32} (e : Nat) (he : e < t 8 0) (hQ : Q (some (.int (Int32.ofInt (rch n e)))) M) (ha : a = nI e := by (first | assumption | (simp only [z_nat, z_lit, ← Int32.ofInt_add, ← Int32.ofInt_sub, ← Int32.ofInt_mul]; exact congrArg Int32.ofInt (by omega)) | (simp only [z_nat, z_lit, ← Int32.ofInt_add, ← Int32.ofInt_sub, ← Int32.ofInt_mul]; done) | exact congrArg Int32.ofInt (by omega) | rfl)) : q_C q_mt (L, xs, q_shp) E nX12_reachOf (d) 0 0 [.ref 271, .int (a)] M Q := by
  subst ha
  have h6 := g.e6
  have hs := (g.bn.2.1 e he).1
  unfold rch at hQ
  refine w_in 90 [] ?_
  refine ⟨612 + e, _, by (first | assumption | (simp only [z_nat, z_lit, ← Int32.ofInt_add, ← Int32.ofInt_sub, ← Int32.ofInt_mul]; exact congrArg Int32.ofInt (by omega)) | (simp only [z_nat, z_lit, ← Int32.ofInt_add, ← Int32.ofInt_sub, ← Int32.ofInt_mul]; done) | exact congrArg Int32.ofInt (by omega) | rfl), by (dsimp only; omega), g.at (by omega), ?_⟩
  refine z_ne (n (612 + e)) 0 (fun h => ?_) (fun h => ?_)
  · refine z_ne (n (612 + e)) 7 (fun h2 => ?_) (fun h2 => ?_)
    · rw [if_neg h, if_neg h2] at hQ
      exact ⟨_, rfl, hQ⟩
    · rw [if_neg h, if_pos h2] at hQ
      exact ⟨_, rfl, hQ⟩
  · rw [if_pos h] at hQ
    exact ⟨_, rfl, hQ⟩
/-- sums that are laid -/
def g_sm (M : q_M) (t : q_T) (f : Nat → Int) : Prop := ∀ e, e < t 8 0 → M.1 294 e = Int32.ofInt (f e) ∧ 0 ≤ f e ∧ f e ≤ 1000000
set_option maxRecDepth 100000 in
set_option maxHeartbeats 4000000 in
theorem k_laysTotals (g : g_R M t n) (hQ : ∀ M', q_fs [293, 294] fD M M' → g_sm M' t (toF t n) → Q none M') : q_C q_mt (L, xs, q_shp) E nX12_laysTotals (d + 8) 0 0 [.ref 271] M Q := by
  have h6 := g.e6
  have W := lp_m (W := fun k M' => ∀ v, v = nI k → q_G q_mt (L, xs, q_shp) E nX12_laysTotals (d + 8) 0 0 (q_Q (L, xs, q_shp) E Q) 2 [some (.ref 271), some (.int (v))] [] M') (J := fun k M' => q_fs [293, 294] fD M M' ∧ ∀ e, e < k → M'.1 294 e = Int32.ofInt (toF t n e)) (t 8 0) ?_ ?_ 0 M (Nat.zero_le _) ⟨q_fs.rf, fun e he => by omega⟩
  · refine w_in 90 [2] ?_
    exact W _ rfl
  · rintro M' ⟨hf, hm⟩ v rfl
    have g' := g.fs hf
    refine w_at 90 [2] ?_
    refine ⟨4, nI (t 8 0), by (first | assumption | (simp only [z_nat, z_lit, ← Int32.ofInt_add, ← Int32.ofInt_sub, ← Int32.ofInt_mul]; exact congrArg Int32.ofInt (by omega)) | (simp only [z_nat, z_lit, ← Int32.ofInt_add, ← Int32.ofInt_sub, ← Int32.ofInt_mul]; done) | exact congrArg Int32.ofInt (by omega) | rfl), by (dsimp only; omega), g'.R4, ?_⟩
    refine z_le (t 8 0) (t 8 0) (fun h => ?_) (fun h => by omega)
    refine hQ M' hf (fun e he => ⟨hm e he, ?_⟩)
    have hb := toE_b g (dr := t 1 0) (bar := -1) he
    exact ⟨hb.1, by show toE t n e (t 1 0) (-1) ≤ 1000000; omega⟩
  · rintro k M' hk ⟨hf, hm⟩ ih v rfl
    have g' := g.fs hf
    refine w_at 90 [2] ?_
    refine ⟨4, nI (t 8 0), by (first | assumption | (simp only [z_nat, z_lit, ← Int32.ofInt_add, ← Int32.ofInt_sub, ← Int32.ofInt_mul]; exact congrArg Int32.ofInt (by omega)) | (simp only [z_nat, z_lit, ← Int32.ofInt_add, ← Int32.ofInt_sub, ← Int32.ofInt_mul]; done) | exact congrArg Int32.ofInt (by omega) | rfl), by (dsimp only; omega), g'.R4, ?_⟩
    refine z_le (t 8 0) k (fun h => by omega) (fun h => ?_)
    refine k_totalOf g' k hk (fun M2 hf2 => ?_)
    refine ⟨k, _, by (first | assumption | (simp only [z_nat, z_lit, ← Int32.ofInt_add, ← Int32.ofInt_sub, ← Int32.ofInt_mul]; exact congrArg Int32.ofInt (by omega)) | (simp only [z_nat, z_lit, ← Int32.ofInt_add, ← Int32.ofInt_sub, ← Int32.ofInt_mul]; done) | exact congrArg Int32.ofInt (by omega) | rfl), by (dsimp only; omega), rfl, ?_⟩
    have hf3 : q_fs [293, 294] fD M M2 := hf.tr hf2.mono
    refine ih _ ⟨hf3.s1, fun e he => ?_⟩ _ (by (first | assumption | (simp only [z_nat, z_lit, ← Int32.ofInt_add, ← Int32.ofInt_sub, ← Int32.ofInt_mul]; exact congrArg Int32.ofInt (by omega)) | (simp only [z_nat, z_lit, ← Int32.ofInt_add, ← Int32.ofInt_sub, ← Int32.ofInt_mul]; done) | exact congrArg Int32.ofInt (by omega) | rfl))
    by_cases q : e = k
    · rw [q, q_si_s]
    · rw [q_si_n q, hf2.c1 294]
      exact hm e (by omega)
set_option maxRecDepth 100000 in
set_option maxHeartbeats 4000000 in
theorem k_rankOfLaid (g : g_R M t n) {f : Nat → Int} (s : g_sm M t f) {a : Int32} (e : Nat) (he : e < t 8 0) (hQ : Q (some (.int (nI (rkN t n f e)))) M) (ha : a = nI e := by (first | assumption | (simp only [z_nat, z_lit, ← Int32.ofInt_add, ← Int32.ofInt_sub, ← Int32.ofInt_mul]; exact congrArg Int32.ofInt (by omega)) | (simp only [z_nat, z_lit, ← Int32.ofInt_add, ← Int32.ofInt_sub, ← Int32.ofInt_mul]; done) | exact congrArg Int32.ofInt (by omega) | rfl)) : q_C q_mt (L, xs, q_shp) E nX12_rankOfLaid (d + 1) 0 0 [.ref 271, .int (a)] M Q := by
  subst ha
  have h6 := g.e6
  have b1 := rch_b (g.bn.2.1 e he).1
  have W := lp_up (W := fun k => ∀ u v, u = nI (1 + fb_ct (fun o => ahd n f o e) k) → v = nI k → q_G q_mt (L, xs, q_shp) E nX12_rankOfLaid (d + 1) 0 0 (q_Q (L, xs, q_shp) E Q) 4 [some (.ref 271), some (.int (nI e)), some (.int (u)), some (.int (v))] [] M) (t 8 0) ?_ ?_ 0 (Nat.zero_le _)
  · refine w_in 90 [4] ?_
    exact W _ _ rfl rfl
  · rintro u v rfl rfl
    refine w_at 90 [4] ?_
    refine ⟨4, nI (t 8 0), by (first | assumption | (simp only [z_nat, z_lit, ← Int32.ofInt_add, ← Int32.ofInt_sub, ← Int32.ofInt_mul]; exact congrArg Int32.ofInt (by omega)) | (simp only [z_nat, z_lit, ← Int32.ofInt_add, ← Int32.ofInt_sub, ← Int32.ofInt_mul]; done) | exact congrArg Int32.ofInt (by omega) | rfl), by (dsimp only; omega), g.R4, ?_⟩
    exact z_le (t 8 0) (t 8 0) (fun h => ⟨_, rfl, hQ⟩) (fun h => by omega)
  · rintro k hk ih u v rfl rfl
    have hc := fb_ct_le (fun o => ahd n f o e) k
    have b2 := rch_b (g.bn.2.1 k hk).1
    have s1 := s k hk
    have s2 := s e he
    have yes : (rch n e < rch n k ∨ (rch n k = rch n e ∧ f e < f k)) → fb_ct (fun o => ahd n f o e) (k + 1) = fb_ct (fun o => ahd n f o e) k + 1 := fun h => ct_t (p := fun o => ahd n f o e) (ahd_t.mpr h)
    have no : ¬ (rch n e < rch n k ∨ (rch n k = rch n e ∧ f e < f k)) → fb_ct (fun o => ahd n f o e) (k + 1) = fb_ct (fun o => ahd n f o e) k := fun h => ct_f (p := fun o => ahd n f o e) (ahd_f.mpr h)
    refine w_at 90 [4] ?_
    refine ⟨4, nI (t 8 0), by (first | assumption | (simp only [z_nat, z_lit, ← Int32.ofInt_add, ← Int32.ofInt_sub, ← Int32.ofInt_mul]; exact congrArg Int32.ofInt (by omega)) | (simp only [z_nat, z_lit, ← Int32.ofInt_add, ← Int32.ofInt_sub, ← Int32.ofInt_mul]; done) | exact congrArg Int32.ofInt (by omega) | rfl), by (dsimp only; omega), g.R4, ?_⟩
    refine z_le (t 8 0) k (fun h => by omega) (fun h => ?_)
    refine k_reachOf g k hk ?_
    refine k_reachOf g e he ?_
    refine z_lt (rch n e) (rch n k) (fun h1 => ?_) (fun h1 => ?_)
    · exact ih _ _ (by rw [yes (Or.inl h1)]; (first | assumption | (simp only [z_nat, z_lit, ← Int32.ofInt_add, ← Int32.ofInt_sub, ← Int32.ofInt_mul]; exact congrArg Int32.ofInt (by omega)) | (simp only [z_nat, z_lit, ← Int32.ofInt_add, ← Int32.ofInt_sub, ← Int32.ofInt_mul]; done) | exact congrArg Int32.ofInt (by omega) | rfl)) (by (first | assumption | (simp only [z_nat, z_lit, ← Int32.ofInt_add, ← Int32.ofInt_sub, ← Int32.ofInt_mul]; exact congrArg Int32.ofInt (by omega)) | (simp only [z_nat, z_lit, ← Int32.ofInt_add, ← Int32.ofInt_sub, ← Int32.ofInt_mul]; done) | exact congrArg Int32.ofInt (by omega) | rfl))
    · refine k_reachOf g k hk ?_
      refine k_reachOf g e he ?_
      refine z_ne (rch n k) (rch n e) (fun h2 => ?_) (fun h2 => ?_)
      · exact ih _ _ (by rw [no (by omega)]; (first | assumption | (simp only [z_nat, z_lit, ← Int32.ofInt_add, ← Int32.ofInt_sub, ← Int32.ofInt_mul]; exact congrArg Int32.ofInt (by omega)) | (simp only [z_nat, z_lit, ← Int32.ofInt_add, ← Int32.ofInt_sub, ← Int32.ofInt_mul]; done) | exact congrArg Int32.ofInt (by omega) | rfl)) (by (first | assumption | (simp only [z_nat, z_lit, ← Int32.ofInt_add, ← Int32.ofInt_sub, ← Int32.ofInt_mul]; exact congrArg Int32.ofInt (by omega)) | (simp only [z_nat, z_lit, ← Int32.ofInt_add, ← Int32.ofInt_sub, ← Int32.ofInt_mul]; done) | exact congrArg Int32.ofInt (by omega) | rfl))
      · refine ⟨k, _, by (first | assumption | (simp only [z_nat, z_lit, ← Int32.ofInt_add, ← Int32.ofInt_sub, ← Int32.ofInt_mul]; exact congrArg Int32.ofInt (by omega)) | (simp only [z_nat, z_lit, ← Int32.ofInt_add, ← Int32.ofInt_sub, ← Int32.ofInt_mul]; done) | exact congrArg Int32.ofInt (by omega) | rfl), by (dsimp only; omega), s1.1, ?_⟩
        refine ⟨e, _, by (first | assumption | (simp only [z_nat, z_lit, ← Int32.ofInt_add, ← Int32.ofInt_sub, ← Int32.ofInt_mul]; exact congrArg Int32.ofInt (by omega)) | (simp only [z_nat, z_lit, ← Int32.ofInt_add, ← Int32.ofInt_sub, ← Int32.ofInt_mul]; done) | exact congrArg Int32.ofInt (by omega) | rfl), by (dsimp only; omega), s2.1, ?_⟩
        refine z_le (f k) (f e) (fun h3 => ?_) (fun h3 => ?_)
        · exact ih _ _ (by rw [no (by omega)]; (first | assumption | (simp only [z_nat, z_lit, ← Int32.ofInt_add, ← Int32.ofInt_sub, ← Int32.ofInt_mul]; exact congrArg Int32.ofInt (by omega)) | (simp only [z_nat, z_lit, ← Int32.ofInt_add, ← Int32.ofInt_sub, ← Int32.ofInt_mul]; done) | exact congrArg Int32.ofInt (by omega) | rfl)) (by (first | assumption | (simp only [z_nat, z_lit, ← Int32.ofInt_add, ← Int32.ofInt_sub, ← Int32.ofInt_mul]; exact congrArg Int32.ofInt (by omega)) | (simp only [z_nat, z_lit, ← Int32.ofInt_add, ← Int32.ofInt_sub, ← Int32.ofInt_mul]; done) | exact congrArg Int32.ofInt (by omega) | rfl))
        · exact ih _ _ (by rw [yes (Or.inr ⟨h2, h3⟩)]; (first | assumption | (simp only [z_nat, z_lit, ← Int32.ofInt_add, ← Int32.ofInt_sub, ← Int32.ofInt_mul]; exact congrArg Int32.ofInt (by omega)) | (simp only [z_nat, z_lit, ← Int32.ofInt_add, ← Int32.ofInt_sub, ← Int32.ofInt_mul]; done) | exact congrArg Int32.ofInt (by omega) | rfl)) (by (first | assumption | (simp only [z_nat, z_lit, ← Int32.ofInt_add, ← Int32.ofInt_sub, ← Int32.ofInt_mul]; exact congrArg Int32.ofInt (by omega)) | (simp only [z_nat, z_lit, ← Int32.ofInt_add, ← Int32.ofInt_sub, ← Int32.ofInt_mul]; done) | exact congrArg Int32.ofInt (by omega) | rfl))
set_option maxRecDepth 100000 in
set_option maxHeartbeats 4000000 in
theorem k_atLaid (g : g_R M t n) {f : Nat → Int} (s : g_sm M t f) {a : Int32} (i : Int) (hi : -2147483648 ≤ i ∧ i < 2147483648) (h1 : ∀ e, e < t 8 0 → (plN t n f e : Int) = i → (∀ o, o < e → ¬ (plN t n f o : Int) = i) → Q (some (.int (nI e))) M) (h0 : (∀ o, o < t 8 0 → ¬ (plN t n f o : Int) = i) → Q (some (.int (Int32.ofInt (-1)))) M) (ha : a = Int32.ofInt i := by (first | assumption | (simp only [z_nat, z_lit, ← Int32.ofInt_add, ← Int32.ofInt_sub, ← Int32.ofInt_mul]; exact congrArg Int32.ofInt (by omega)) | (simp only [z_nat, z_lit, ← Int32.ofInt_add, ← Int32.ofInt_sub, ← Int32.ofInt_mul]; done) | exact congrArg Int32.ofInt (by omega) | rfl)) : q_C q_mt (L, xs, q_shp) E nX12_atLaid (d + 2) 0 0 [.ref 271, .int (a)] M Q := by
  subst ha
  have h6 := g.e6
  have hrk : ∀ e, rkN t n f e ≤ 7 := fun e => by
    have := fb_ct_le (fun o => ahd n f o e) (t 8 0)
    unfold rkN
    omega
  have W := lp_up (W := fun k => (∀ o, o < k → ¬ (plN t n f o : Int) = i) → ∀ v x y, v = nI k → q_G q_mt (L, xs, q_shp) E nX12_atLaid (d + 2) 0 0 (q_Q (L, xs, q_shp) E Q) 2 [some (.ref 271), some (.int (Int32.ofInt i)), some (.int (v)), x, y] [] M) (t 8 0) ?_ ?_ 0 (Nat.zero_le _)
  · refine w_in 90 [2] ?_
    exact W (fun o ho => by omega) _ _ _ rfl
  · rintro hno v x y rfl
    refine w_at 90 [2, 23] ?_
    refine ⟨4, nI (t 8 0), by (first | assumption | (simp only [z_nat, z_lit, ← Int32.ofInt_add, ← Int32.ofInt_sub, ← Int32.ofInt_mul]; exact congrArg Int32.ofInt (by omega)) | (simp only [z_nat, z_lit, ← Int32.ofInt_add, ← Int32.ofInt_sub, ← Int32.ofInt_mul]; done) | exact congrArg Int32.ofInt (by omega) | rfl), by (dsimp only; omega), g.R4, ?_⟩
    exact z_le (t 8 0) (t 8 0) (fun h => ⟨_, rfl, h0 hno⟩) (fun h => by omega)
  · rintro k hk ih hno v x y rfl
    have W2 := lp_up (W := fun m => ∀ u w, u = nI (rkN t n f k - 1 + fb_ct (fun o => decide (rkN t n f o = rkN t n f k)) m) → w = nI m → q_G q_mt (L, xs, q_shp) E nX12_atLaid (d + 2) 0 0 (q_Q (L, xs, q_shp) E Q) 23 [some (.ref 271), some (.int (Int32.ofInt i)), some (.int (nI k)), some (.int (u)), some (.int (w))] [] M) k ?_ ?_ 0 (Nat.zero_le _)
    · refine w_at 90 [2, 23] ?_
      refine ⟨4, nI (t 8 0), by (first | assumption | (simp only [z_nat, z_lit, ← Int32.ofInt_add, ← Int32.ofInt_sub, ← Int32.ofInt_mul]; exact congrArg Int32.ofInt (by omega)) | (simp only [z_nat, z_lit, ← Int32.ofInt_add, ← Int32.ofInt_sub, ← Int32.ofInt_mul]; done) | exact congrArg Int32.ofInt (by omega) | rfl), by (dsimp only; omega), g.R4, ?_⟩
      refine z_le (t 8 0) k (fun h => by omega) (fun h => ?_)
      refine k_rankOfLaid g s k hk ?_
      refine W2 _ _ ?_ rfl
      have h1 : 1 ≤ rkN t n f k := by unfold rkN; omega
      rw [show fb_ct (fun o => decide (rkN t n f o = rkN t n f k)) 0 = 0 from rfl]
      (first | assumption | (simp only [z_nat, z_lit, ← Int32.ofInt_add, ← Int32.ofInt_sub, ← Int32.ofInt_mul]; exact congrArg Int32.ofInt (by omega)) | (simp only [z_nat, z_lit, ← Int32.ofInt_add, ← Int32.ofInt_sub, ← Int32.ofInt_mul]; done) | exact congrArg Int32.ofInt (by omega) | rfl)
    · rintro u w rfl rfl
      have hc := fb_ct_le (fun o => decide (rkN t n f o = rkN t n f k)) k
      have hr := hrk k
      refine w_at 90 [2, 23] ?_
      refine z_le k k (fun h => ?_) (fun h => by omega)
      refine z_ne (plN t n f k) i (fun h2 => ?_) (fun h2 => ⟨_, rfl, h1 k hk h2 hno⟩) (ha := by unfold plN; omega)
      refine ih (fun o ho => ?_) _ _ _ (by (first | assumption | (simp only [z_nat, z_lit, ← Int32.ofInt_add, ← Int32.ofInt_sub, ← Int32.ofInt_mul]; exact congrArg Int32.ofInt (by omega)) | (simp only [z_nat, z_lit, ← Int32.ofInt_add, ← Int32.ofInt_sub, ← Int32.ofInt_mul]; done) | exact congrArg Int32.ofInt (by omega) | rfl))
      by_cases q : o = k
      · subst q
        exact h2
      · exact hno o (by omega)
    · rintro m hm ih2 u w rfl rfl
      have hc := fb_ct_le (fun o => decide (rkN t n f o = rkN t n f k)) m
      have hr := hrk k
      have hr2 := hrk m
      refine w_at 90 [2, 23] ?_
      refine z_le k m (fun h => by omega) (fun h => ?_)
      refine k_rankOfLaid g s m (by omega) ?_
      refine k_rankOfLaid g s k hk ?_
      refine z_ne (rkN t n f m) (rkN t n f k) (fun h2 => ?_) (fun h2 => ?_)
      · exact ih2 _ _ (by rw [ct_f (p := fun o => decide (rkN t n f o = rkN t n f k)) (decide_eq_false (by omega))]; (first | assumption | (simp only [z_nat, z_lit, ← Int32.ofInt_add, ← Int32.ofInt_sub, ← Int32.ofInt_mul]; exact congrArg Int32.ofInt (by omega)) | (simp only [z_nat, z_lit, ← Int32.ofInt_add, ← Int32.ofInt_sub, ← Int32.ofInt_mul]; done) | exact congrArg Int32.ofInt (by omega) | rfl)) (by (first | assumption | (simp only [z_nat, z_lit, ← Int32.ofInt_add, ← Int32.ofInt_sub, ← Int32.ofInt_mul]; exact congrArg Int32.ofInt (by omega)) | (simp only [z_nat, z_lit, ← Int32.ofInt_add, ← Int32.ofInt_sub, ← Int32.ofInt_mul]; done) | exact congrArg Int32.ofInt (by omega) | rfl))
      · exact ih2 _ _ (by rw [ct_t (p := fun o => decide (rkN t n f o = rkN t n f k)) (decide_eq_true (by omega))]; (first | assumption | (simp only [z_nat, z_lit, ← Int32.ofInt_add, ← Int32.ofInt_sub, ← Int32.ofInt_mul]; exact congrArg Int32.ofInt (by omega)) | (simp only [z_nat, z_lit, ← Int32.ofInt_add, ← Int32.ofInt_sub, ← Int32.ofInt_mul]; done) | exact congrArg Int32.ofInt (by omega) | rfl)) (by (first | assumption | (simp only [z_nat, z_lit, ← Int32.ofInt_add, ← Int32.ofInt_sub, ← Int32.ofInt_mul]; exact congrArg Int32.ofInt (by omega)) | (simp only [z_nat, z_lit, ← Int32.ofInt_add, ← Int32.ofInt_sub, ← Int32.ofInt_mul]; done) | exact congrArg Int32.ofInt (by omega) | rfl))
abbrev zOp (L : Nat) (xs : Nat → Int32) (E : q_E) (mi mj d : Nat) (as : List Value) (M : q_M) (P : q_M → Prop) : Prop := q_op2 (L, xs, q_shp) E mi mj d as M P
set_option maxRecDepth 100000 in
set_option maxHeartbeats 4000000 in
theorem o_rank {a : Int32} (g : g_A 43 M t n) (hP : ∀ M', q_fs [293, 294] fD M M' → P M') : zOp L xs E nX11_rank nX12_rank (d + 9) [.int a] M P := by
  by_cases q : ∃ e, e < t 8 0 ∧ a = nI e
  · obtain ⟨e, he, rfl⟩ := q
    refine w_in 90 [] ?_
    refine d_hasEntrant g.C g.R.b (fun i _ _ => br_f (by decide) ?_) (fun z => absurd ⟨e, he, rfl⟩ z)
    refine k2_rankOf_43 g.Z e he ⟨_, rfl, _, rfl, ?_⟩
    refine w_in 90 [] ?_
    refine c_X12_isEntrant g.R.1 g.R.b (fun i _ _ => bn_t (by decide) ?_) (fun z => absurd ⟨e, he, rfl⟩ z)
    refine k_laysTotals g.R (fun M' hf s => ?_)
    exact k_rankOfLaid (g.R.fs hf) s e he ⟨_, rfl, rfl, hP M' hf⟩
  · refine w_in 90 [] ?_
    refine d_hasEntrant g.C g.R.b (fun i hi e => absurd ⟨i, hi, e⟩ q) (fun _ => br_t (by decide) ⟨_, rfl, _, rfl, ?_⟩)
    refine w_in 90 [] ?_
    exact c_X12_isEntrant g.R.1 g.R.b (fun i hi e => absurd ⟨i, hi, e⟩ q) (fun _ => bn_f (by decide) ⟨_, rfl, rfl, hP M q_fs.rf⟩)
set_option maxRecDepth 100000 in
set_option maxHeartbeats 4000000 in
theorem o_at {a : Int32} (g : g_A 43 M t n) (hP : ∀ M', q_fs [293, 294] fD M M' → P M') : zOp L xs E nX11_at nX12_at (d + 9) [.int a] M P := by
  obtain ⟨i, hi, rfl⟩ := z_of a
  have un : ∀ e e', (plN t n (toF t n) e : Int) = i → (plN t n (toF t n) e' : Int) = i → (∀ o, o < e → ¬ (plN t n (toF t n) o : Int) = i) → (∀ o, o < e' → ¬ (plN t n (toF t n) o : Int) = i) → e = e' := fun e e' h1 h2 h3 h4 => by
    rcases Nat.lt_trichotomy e e' with h | h | h
    · exact absurd h1 (h4 e h)
    · exact h
    · exact absurd h2 (h3 e' h)
  refine w_in 90 [] ?_
  refine k2_entrantAt g i hi (fun e he h1 h2 => ⟨_, rfl, _, rfl, ?_⟩) (fun h0 => ⟨_, rfl, _, rfl, ?_⟩)
  · refine w_in 90 [] ?_
    refine k_laysTotals g.R (fun M' hf s => ?_)
    refine k_atLaid (g.R.fs hf) s i hi (fun e' he' h3 h4 => ⟨_, rfl, ?_, hP M' hf⟩) (fun h0 => absurd h1 (h0 e he))
    rw [un e e' h1 h3 h2 h4]
  · refine w_in 90 [] ?_
    refine k_laysTotals g.R (fun M' hf s => ?_)
    exact k_atLaid (g.R.fs hf) s i hi (fun e' he' h3 h4 => absurd h3 (h0 e' he')) (fun _ => ⟨_, rfl, rfl, hP M' hf⟩)
end RK
