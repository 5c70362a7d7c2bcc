/-! who is next: the class's walks -/
section GC
variable {L : Nat} {xs : Nat → Int32} {E : q_E} {d : Nat} {M : q_M} {t : q_T} {n : sN} {Q : Option Value → q_M → Prop} {P : q_M → Prop}
/-- who is in, as the class's row has it -/
def sts (c : Nat) (M : q_M) (t : q_T) (n : sN) : Prop := (M.1 6 9 = nI (t 8 0) ∧ t 8 0 ≤ 6) ∧ ∀ e, e < t 8 0 → M.1 (c + 3) e = Int32.ofInt (n (612 + e)) ∧ 0 ≤ n (612 + e) ∧ n (612 + e) ≤ 7
set_option maxRecDepth 100000 in
set_option maxHeartbeats 4000000 in
theorem k3_isIn_43 (s : sts 43 M t n) {a : Int32} (e : Nat) (he : e < t 8 0) (h1 : inE n e = true → Q (some (.int 1)) M) (h0 : inE n e = false → Q (some (.int 0)) M) (ha : a = nI e := by (first | assumption | (simp only [z_nat, z_lit, ← Int32.ofInt_add, ← Int32.ofInt_sub, ← Int32.ofInt_mul]; exact congrArg Int32.ofInt (by omega)) | (simp only [z_nat, z_lit, ← Int32.ofInt_add, ← Int32.ofInt_sub, ← Int32.ofInt_mul]; done) | exact congrArg Int32.ofInt (by omega) | rfl)) : q_C q_mt (L, xs, q_shp) E nX6_isIn (d) 0 0 [.ref 242, .int (a)] M Q := by
  subst ha
  have h6 := s.1.2
  have hs := s.2 e he
  unfold inE at h1 h0
  refine w_in 90 [] ?_
  refine ⟨e, _, by (first | assumption | (simp only [z_nat, z_lit, ← Int32.ofInt_add, ← Int32.ofInt_sub, ← Int32.ofInt_mul]; exact congrArg Int32.ofInt (by omega)) | (simp only [z_nat, z_lit, ← Int32.ofInt_add, ← Int32.ofInt_sub, ← Int32.ofInt_mul]; done) | exact congrArg Int32.ofInt (by omega) | rfl), by (dsimp only; omega), hs.1, ?_⟩
  exact z_ne (n (612 + e)) 0 (fun h => ⟨z_0, h0 (decide_eq_false h)⟩) (fun h => ⟨z_1, h1 (decide_eq_true h)⟩)
set_option maxRecDepth 100000 in
set_option maxHeartbeats 4000000 in
theorem k3_countIn_43 (s : sts 43 M t n) (hQ : Q (some (.int (nI (inN t n)))) M) : q_C q_mt (L, xs, q_shp) E nX6_countIn (d + 1) 0 0 [.ref 242] M Q := by
  have h6 := s.1.2
  have W := lp_up (W := fun k => ∀ u v, u = nI (fb_ct (inE n) k) → v = nI k → q_G q_mt (L, xs, q_shp) E nX6_countIn (d + 1) 0 0 (q_Q (L, xs, q_shp) E Q) 4 [some (.ref 242), some (.int (u)), some (.int (v))] [] M) (t 8 0) ?_ ?_ 0 (Nat.zero_le _)
  · refine w_in 90 [4] ?_
    exact W _ _ rfl rfl
  · rintro u v rfl rfl
    refine w_at 90 [4] ?_
    refine ⟨nI (t 8 0), s.1.1, ?_⟩
    exact z_le (t 8 0) (t 8 0) (fun h => ⟨_, rfl, hQ⟩) (fun h => by omega)
  · rintro k hk ih u v rfl rfl
    have hc := fb_ct_le (inE n) k
    refine w_at 90 [4] ?_
    refine ⟨nI (t 8 0), s.1.1, ?_⟩
    refine z_le (t 8 0) k (fun h => by omega) (fun h => ?_)
    refine k3_isIn_43 s k hk (fun h1 => br_f (by decide) ?_) (fun h1 => br_t (by decide) ?_)
    · exact ih _ _ (by rw [ct_t h1]; (first | assumption | (simp only [z_nat, z_lit, ← Int32.ofInt_add, ← Int32.ofInt_sub, ← Int32.ofInt_mul]; exact congrArg Int32.ofInt (by omega)) | (simp only [z_nat, z_lit, ← Int32.ofInt_add, ← Int32.ofInt_sub, ← Int32.ofInt_mul]; done) | exact congrArg Int32.ofInt (by omega) | rfl)) (by (first | assumption | (simp only [z_nat, z_lit, ← Int32.ofInt_add, ← Int32.ofInt_sub, ← Int32.ofInt_mul]; exact congrArg Int32.ofInt (by omega)) | (simp only [z_nat, z_lit, ← Int32.ofInt_add, ← Int32.ofInt_sub, ← Int32.ofInt_mul]; done) | exact congrArg Int32.ofInt (by omega) | rfl))
    · exact ih _ _ (by rw [ct_f h1]) (by (first | assumption | (simp only [z_nat, z_lit, ← Int32.ofInt_add, ← Int32.ofInt_sub, ← Int32.ofInt_mul]; exact congrArg Int32.ofInt (by omega)) | (simp only [z_nat, z_lit, ← Int32.ofInt_add, ← Int32.ofInt_sub, ← Int32.ofInt_mul]; done) | exact congrArg Int32.ofInt (by omega) | rfl))
set_option maxRecDepth 100000 in
set_option maxHeartbeats 4000000 in
theorem k2_callFrom_43 (s : sts 43 M t n) {qu : Nat → Nat} (hqu : ∀ i, i < 6 → i < t 8 0 → M.1 48 i = nI (qu i) ∧ qu i < t 8 0) {a : Int32} (fst : Nat) (hf : fst ≤ t 8 0) (h1 : ∀ k, fst ≤ k → k < t 8 0 → inE n (qu k) = true → (∀ i, fst ≤ i → i < k → inE n (qu i) = false) → Q none (q_si (q_si M 43 8 (nI k)) 43 9 (nI (qu k)))) (h0 : (∀ i, fst ≤ i → i < t 8 0 → inE n (qu i) = false) → Q none M) (ha : a = nI fst := by (first | assumption | (simp only [z_nat, z_lit, ← Int32.ofInt_add, ← Int32.ofInt_sub, ← Int32.ofInt_mul]; exact congrArg Int32.ofInt (by omega)) | (simp only [z_nat, z_lit, ← Int32.ofInt_add, ← Int32.ofInt_sub, ← Int32.ofInt_mul]; done) | exact congrArg Int32.ofInt (by omega) | rfl)) : q_C q_mt (L, xs, q_shp) E nX6_callFrom (d) 0 0 [.ref 242, .int (a)] M Q := by
  subst ha
  have h6 := s.1.2
  have W := lp_up (W := fun k => fst ≤ k → (∀ i, fst ≤ i → i < k → inE n (qu i) = false) → ∀ v x, v = nI k → q_G q_mt (L, xs, q_shp) E nX6_callFrom (d) 0 0 (q_Q (L, xs, q_shp) E Q) 2 [some (.ref 242), some (.int (nI fst)), some (.int (v)), x] [] M) (t 8 0) ?_ ?_ fst hf
  · refine w_in 90 [2] ?_
    exact W (Nat.le_refl _) (fun i _ _ => by omega) _ _ rfl
  · rintro _ hno v x rfl
    refine w_at 90 [2] ?_
    refine ⟨_, s.1.1, ?_⟩
    exact z_le (t 8 0) (t 8 0) (fun h => h0 hno) (fun h => by omega)
  · rintro k hk ih hfk hno v x rfl
    have q1 := hqu k (by omega) hk
    have q2 := s.2 (qu k) q1.2
    refine w_at 90 [2] ?_
    refine ⟨_, s.1.1, ?_⟩
    refine z_le (t 8 0) k (fun h => by omega) (fun h => ?_)
    refine ⟨k, _, by (first | assumption | (simp only [z_nat, z_lit, ← Int32.ofInt_add, ← Int32.ofInt_sub, ← Int32.ofInt_mul]; exact congrArg Int32.ofInt (by omega)) | (simp only [z_nat, z_lit, ← Int32.ofInt_add, ← Int32.ofInt_sub, ← Int32.ofInt_mul]; done) | exact congrArg Int32.ofInt (by omega) | rfl), by (dsimp only; omega), q1.1, ?_⟩
    refine ⟨qu k, _, by (first | assumption | (simp only [z_nat, z_lit, ← Int32.ofInt_add, ← Int32.ofInt_sub, ← Int32.ofInt_mul]; exact congrArg Int32.ofInt (by omega)) | (simp only [z_nat, z_lit, ← Int32.ofInt_add, ← Int32.ofInt_sub, ← Int32.ofInt_mul]; done) | exact congrArg Int32.ofInt (by omega) | rfl), by (dsimp only; omega), q2.1, ?_⟩
    refine z_ne (n (612 + qu k)) 0 (fun h2 => ?_) (fun h2 => ?_)
    · refine ih (by omega) (fun i hi hik => ?_) _ _ (by (first | assumption | (simp only [z_nat, z_lit, ← Int32.ofInt_add, ← Int32.ofInt_sub, ← Int32.ofInt_mul]; exact congrArg Int32.ofInt (by omega)) | (simp only [z_nat, z_lit, ← Int32.ofInt_add, ← Int32.ofInt_sub, ← Int32.ofInt_mul]; done) | exact congrArg Int32.ofInt (by omega) | rfl))
      by_cases z : i = k
      · rw [z]
        exact decide_eq_false h2
      · exact hno i hi (by omega)
    · refine ⟨_, rfl, ?_⟩
      refine ⟨_, rfl, ?_⟩
      exact h1 k hfk hk (decide_eq_true h2) hno
set_option maxRecDepth 100000 in
set_option maxHeartbeats 4000000 in
theorem k2_queueByTotals_43 (s : sts 43 M t n) {f : Nat → Int} (hf : ∀ o, o < t 8 0 → M.1 243 o = Int32.ofInt (f o) ∧ -1 ≤ f o ∧ f o ≤ 1000000) (hQ : ∀ M', q_fs [48] [] M M' → (∀ e, e < t 8 0 → M'.1 48 (rk (fun _ => true) (kyF f) (t 8 0) e) = nI e) → Q none M') : q_C q_mt (L, xs, q_shp) E nX6_queueByTotals (d) 0 0 [.ref 242] M Q := by
  have h6 := s.1.2
  have W := lp_m (W := fun k M' => ∀ v x y, v = nI k → q_G q_mt (L, xs, q_shp) E nX6_queueByTotals (d) 0 0 (q_Q (L, xs, q_shp) E Q) 2 [some (.ref 242), some (.int (v)), x, y] [] M') (J := fun k M' => q_fs [48] [] M M' ∧ ∀ e, e < k → M'.1 48 (rk (fun _ => true) (kyF f) (t 8 0) e) = nI e) (t 8 0) ?_ ?_ 0 M (Nat.zero_le _) ⟨q_fs.rf, fun e he => by omega⟩
  · refine w_in 90 [2, 17] ?_
    exact W _ _ _ rfl
  · rintro M' ⟨hf', hm⟩ v x y rfl
    have e9 : M'.1 6 9 = nI (t 8 0) := by rw [hf'.c1 6]; exact s.1.1
    refine w_at 90 [2, 17] ?_
    refine ⟨_, e9, ?_⟩
    exact z_le (t 8 0) (t 8 0) (fun _ => hQ M' hf' hm) (fun h => by omega)
  · rintro k M' hk ⟨hf', hm⟩ ih v x y rfl
    have e9 : M'.1 6 9 = nI (t 8 0) := by rw [hf'.c1 6]; exact s.1.1
    have ho : ∀ o, o < t 8 0 → M'.1 243 o = Int32.ofInt (f o) := fun o h => by rw [hf'.c1 243]; exact (hf o h).1
    have rt := rk_top (A := fun _ => true) (c := kyF f) (j := k) (k := t 8 0) rfl hk
    have rl := fb_ct_le (fun _ => true) (t 8 0)
    have I := lp_up (W := fun m => ∀ w v2, w = nI (fb_ct (fun i => true && bfr (kyF f) i k) m) → v2 = nI m → q_G q_mt (L, xs, q_shp) E nX6_queueByTotals (d) 0 0 (q_Q (L, xs, q_shp) E Q) 17 [some (.ref 242), some (.int (nI k)), some (.int (w)), some (.int (v2))] [] M') (t 8 0) ?_ ?_ 0 (Nat.zero_le _)
    · refine w_at 90 [2, 17] ?_
      refine ⟨_, e9, ?_⟩
      refine z_le (t 8 0) k (fun h => by omega) (fun _ => ?_)
      exact I _ _ rfl rfl
    · rintro w v2 rfl rfl
      have er : fb_ct (fun i => true && bfr (kyF f) i k) (t 8 0) = rk (fun _ => true) (kyF f) (t 8 0) k := rfl
      rw [er]
      refine w_at 90 [2, 17] ?_
      refine ⟨_, e9, ?_⟩
      refine z_le (t 8 0) (t 8 0) (fun _ => ?_) (fun h => by omega)
      refine ⟨rk (fun _ => true) (kyF f) (t 8 0) k, _, by (first | assumption | (simp only [z_nat, z_lit, ← Int32.ofInt_add, ← Int32.ofInt_sub, ← Int32.ofInt_mul]; exact congrArg Int32.ofInt (by omega)) | (simp only [z_nat, z_lit, ← Int32.ofInt_add, ← Int32.ofInt_sub, ← Int32.ofInt_mul]; done) | exact congrArg Int32.ofInt (by omega) | rfl), by (dsimp only; omega), rfl, ?_⟩
      refine ih _ ⟨hf'.s1, fun e he => ?_⟩ _ _ _ (by (first | assumption | (simp only [z_nat, z_lit, ← Int32.ofInt_add, ← Int32.ofInt_sub, ← Int32.ofInt_mul]; exact congrArg Int32.ofInt (by omega)) | (simp only [z_nat, z_lit, ← Int32.ofInt_add, ← Int32.ofInt_sub, ← Int32.ofInt_mul]; done) | exact congrArg Int32.ofInt (by omega) | rfl))
      by_cases q : e = k
      · rw [q, q_si_s]
      · rw [q_si_n (fun z => q (rk_inj (A := fun _ => true) rfl rfl (by omega) hk z))]
        exact hm e (by omega)
    · rintro m hm2 ih2 w v2 rfl rfl
      have b1 := hf m hm2
      have b2 := hf k hk
      have cl2 := fb_ct_le (fun i => true && bfr (kyF f) i k) m
      refine w_at 90 [2, 17] ?_
      refine ⟨_, e9, ?_⟩
      refine z_le (t 8 0) m (fun h => by omega) (fun _ => ?_)
      refine ⟨m, _, by (first | assumption | (simp only [z_nat, z_lit, ← Int32.ofInt_add, ← Int32.ofInt_sub, ← Int32.ofInt_mul]; exact congrArg Int32.ofInt (by omega)) | (simp only [z_nat, z_lit, ← Int32.ofInt_add, ← Int32.ofInt_sub, ← Int32.ofInt_mul]; done) | exact congrArg Int32.ofInt (by omega) | rfl), by (dsimp only; omega), ho m hm2, ?_⟩
      refine ⟨k, _, by (first | assumption | (simp only [z_nat, z_lit, ← Int32.ofInt_add, ← Int32.ofInt_sub, ← Int32.ofInt_mul]; exact congrArg Int32.ofInt (by omega)) | (simp only [z_nat, z_lit, ← Int32.ofInt_add, ← Int32.ofInt_sub, ← Int32.ofInt_mul]; done) | exact congrArg Int32.ofInt (by omega) | rfl), by (dsimp only; omega), ho k hk, ?_⟩
      refine z_lt (f m) (f k) (fun h2 => ?_) (fun h2 => ?_)
      · exact ih2 _ _ (by rw [ct_t (p := fun i => true && bfr (kyF f) i k) (by rw [(bfr_ky (by omega) (by omega)).mpr (Or.inl h2)]; rfl)]; (first | assumption | (simp only [z_nat, z_lit, ← Int32.ofInt_add, ← Int32.ofInt_sub, ← Int32.ofInt_mul]; exact congrArg Int32.ofInt (by omega)) | (simp only [z_nat, z_lit, ← Int32.ofInt_add, ← Int32.ofInt_sub, ← Int32.ofInt_mul]; done) | exact congrArg Int32.ofInt (by omega) | rfl)) (by (first | assumption | (simp only [z_nat, z_lit, ← Int32.ofInt_add, ← Int32.ofInt_sub, ← Int32.ofInt_mul]; exact congrArg Int32.ofInt (by omega)) | (simp only [z_nat, z_lit, ← Int32.ofInt_add, ← Int32.ofInt_sub, ← Int32.ofInt_mul]; done) | exact congrArg Int32.ofInt (by omega) | rfl))
      · refine ⟨m, _, by (first | assumption | (simp only [z_nat, z_lit, ← Int32.ofInt_add, ← Int32.ofInt_sub, ← Int32.ofInt_mul]; exact congrArg Int32.ofInt (by omega)) | (simp only [z_nat, z_lit, ← Int32.ofInt_add, ← Int32.ofInt_sub, ← Int32.ofInt_mul]; done) | exact congrArg Int32.ofInt (by omega) | rfl), by (dsimp only; omega), ho m hm2, ?_⟩
        refine ⟨k, _, by (first | assumption | (simp only [z_nat, z_lit, ← Int32.ofInt_add, ← Int32.ofInt_sub, ← Int32.ofInt_mul]; exact congrArg Int32.ofInt (by omega)) | (simp only [z_nat, z_lit, ← Int32.ofInt_add, ← Int32.ofInt_sub, ← Int32.ofInt_mul]; done) | exact congrArg Int32.ofInt (by omega) | rfl), by (dsimp only; omega), ho k hk, ?_⟩
        refine z_ne (f m) (f k) (fun h3 => ?_) (fun h3 => ?_)
        · exact ih2 _ _ (by rw [ct_f (p := fun i => true && bfr (kyF f) i k) (by rw [bfr_kyf (by omega) (by omega) (by omega), Bool.and_false])]) (by (first | assumption | (simp only [z_nat, z_lit, ← Int32.ofInt_add, ← Int32.ofInt_sub, ← Int32.ofInt_mul]; exact congrArg Int32.ofInt (by omega)) | (simp only [z_nat, z_lit, ← Int32.ofInt_add, ← Int32.ofInt_sub, ← Int32.ofInt_mul]; done) | exact congrArg Int32.ofInt (by omega) | rfl))
        · refine z_le (m : Int) (k : Int) (fun h4 => ?_) (fun h4 => ?_)
          · exact ih2 _ _ (by rw [ct_f (p := fun i => true && bfr (kyF f) i k) (by rw [bfr_kyf (by omega) (by omega) (by omega), Bool.and_false])]) (by (first | assumption | (simp only [z_nat, z_lit, ← Int32.ofInt_add, ← Int32.ofInt_sub, ← Int32.ofInt_mul]; exact congrArg Int32.ofInt (by omega)) | (simp only [z_nat, z_lit, ← Int32.ofInt_add, ← Int32.ofInt_sub, ← Int32.ofInt_mul]; done) | exact congrArg Int32.ofInt (by omega) | rfl))
          · exact ih2 _ _ (by rw [ct_t (p := fun i => true && bfr (kyF f) i k) (by rw [(bfr_ky (by omega) (by omega)).mpr (Or.inr ⟨h3, by omega⟩)]; rfl)]; (first | assumption | (simp only [z_nat, z_lit, ← Int32.ofInt_add, ← Int32.ofInt_sub, ← Int32.ofInt_mul]; exact congrArg Int32.ofInt (by omega)) | (simp only [z_nat, z_lit, ← Int32.ofInt_add, ← Int32.ofInt_sub, ← Int32.ofInt_mul]; done) | exact congrArg Int32.ofInt (by omega) | rfl)) (by (first | assumption | (simp only [z_nat, z_lit, ← Int32.ofInt_add, ← Int32.ofInt_sub, ← Int32.ofInt_mul]; exact congrArg Int32.ofInt (by omega)) | (simp only [z_nat, z_lit, ← Int32.ofInt_add, ← Int32.ofInt_sub, ← Int32.ofInt_mul]; done) | exact congrArg Int32.ofInt (by omega) | rfl))
set_option maxRecDepth 100000 in
set_option maxHeartbeats 4000000 in
theorem k3_isIn_257 (s : sts 257 M t n) {a : Int32} (e : Nat) (he : e < t 8 0) (h1 : inE n e = true → Q (some (.int 1)) M) (h0 : inE n e = false → Q (some (.int 0)) M) (ha : a = nI e := by (first | assumption | (simp only [z_nat, z_lit, ← Int32.ofInt_add, ← Int32.ofInt_sub, ← Int32.ofInt_mul]; exact congrArg Int32.ofInt (by omega)) | (simp only [z_nat, z_lit, ← Int32.ofInt_add, ← Int32.ofInt_sub, ← Int32.ofInt_mul]; done) | exact congrArg Int32.ofInt (by omega) | rfl)) : q_C q_mt (L, xs, q_shp) E nX6_isIn (d) 0 0 [.ref 265, .int (a)] M Q := by
  subst ha
  have h6 := s.1.2
  have hs := s.2 e he
  unfold inE at h1 h0
  refine w_in 90 [] ?_
  refine ⟨e, _, by (first | assumption | (simp only [z_nat, z_lit, ← Int32.ofInt_add, ← Int32.ofInt_sub, ← Int32.ofInt_mul]; exact congrArg Int32.ofInt (by omega)) | (simp only [z_nat, z_lit, ← Int32.ofInt_add, ← Int32.ofInt_sub, ← Int32.ofInt_mul]; done) | exact congrArg Int32.ofInt (by omega) | rfl), by (dsimp only; omega), hs.1, ?_⟩
  exact z_ne (n (612 + e)) 0 (fun h => ⟨z_0, h0 (decide_eq_false h)⟩) (fun h => ⟨z_1, h1 (decide_eq_true h)⟩)
set_option maxRecDepth 100000 in
set_option maxHeartbeats 4000000 in
theorem k3_countIn_257 (s : sts 257 M t n) (hQ : Q (some (.int (nI (inN t n)))) M) : q_C q_mt (L, xs, q_shp) E nX6_countIn (d + 1) 0 0 [.ref 265] M Q := by
  have h6 := s.1.2
  have W := lp_up (W := fun k => ∀ u v, u = nI (fb_ct (inE n) k) → v = nI k → q_G q_mt (L, xs, q_shp) E nX6_countIn (d + 1) 0 0 (q_Q (L, xs, q_shp) E Q) 4 [some (.ref 265), some (.int (u)), some (.int (v))] [] M) (t 8 0) ?_ ?_ 0 (Nat.zero_le _)
  · refine w_in 90 [4] ?_
    exact W _ _ rfl rfl
  · rintro u v rfl rfl
    refine w_at 90 [4] ?_
    refine ⟨nI (t 8 0), s.1.1, ?_⟩
    exact z_le (t 8 0) (t 8 0) (fun h => ⟨_, rfl, hQ⟩) (fun h => by omega)
  · rintro k hk ih u v rfl rfl
    have hc := fb_ct_le (inE n) k
    refine w_at 90 [4] ?_
    refine ⟨nI (t 8 0), s.1.1, ?_⟩
    refine z_le (t 8 0) k (fun h => by omega) (fun h => ?_)
    refine k3_isIn_257 s k hk (fun h1 => br_f (by decide) ?_) (fun h1 => br_t (by decide) ?_)
    · exact ih _ _ (by rw [ct_t h1]; (first | assumption | (simp only [z_nat, z_lit, ← Int32.ofInt_add, ← Int32.ofInt_sub, ← Int32.ofInt_mul]; exact congrArg Int32.ofInt (by omega)) | (simp only [z_nat, z_lit, ← Int32.ofInt_add, ← Int32.ofInt_sub, ← Int32.ofInt_mul]; done) | exact congrArg Int32.ofInt (by omega) | rfl)) (by (first | assumption | (simp only [z_nat, z_lit, ← Int32.ofInt_add, ← Int32.ofInt_sub, ← Int32.ofInt_mul]; exact congrArg Int32.ofInt (by omega)) | (simp only [z_nat, z_lit, ← Int32.ofInt_add, ← Int32.ofInt_sub, ← Int32.ofInt_mul]; done) | exact congrArg Int32.ofInt (by omega) | rfl))
    · exact ih _ _ (by rw [ct_f h1]) (by (first | assumption | (simp only [z_nat, z_lit, ← Int32.ofInt_add, ← Int32.ofInt_sub, ← Int32.ofInt_mul]; exact congrArg Int32.ofInt (by omega)) | (simp only [z_nat, z_lit, ← Int32.ofInt_add, ← Int32.ofInt_sub, ← Int32.ofInt_mul]; done) | exact congrArg Int32.ofInt (by omega) | rfl))
set_option maxRecDepth 100000 in
set_option maxHeartbeats 4000000 in
theorem k2_callFrom_257 (s : sts 257 M t n) {qu : Nat → Nat} (hqu : ∀ i, i < 6 → i < t 8 0 → M.1 262 i = nI (qu i) ∧ qu i < t 8 0) {a : Int32} (fst : Nat) (hf : fst ≤ t 8 0) (h1 : ∀ k, fst ≤ k → k < t 8 0 → inE n (qu k) = true → (∀ i, fst ≤ i → i < k → inE n (qu i) = false) → Q none (q_si (q_si M 257 8 (nI k)) 257 9 (nI (qu k)))) (h0 : (∀ i, fst ≤ i → i < t 8 0 → inE n (qu i) = false) → Q none M) (ha : a = nI fst := by (first | assumption | (simp only [z_nat, z_lit, ← Int32.ofInt_add, ← Int32.ofInt_sub, ← Int32.ofInt_mul]; exact congrArg Int32.ofInt (by omega)) | (simp only [z_nat, z_lit, ← Int32.ofInt_add, ← Int32.ofInt_sub, ← Int32.ofInt_mul]; done) | exact congrArg Int32.ofInt (by omega) | rfl)) : q_C q_mt (L, xs, q_shp) E nX6_callFrom (d) 0 0 [.ref 265, .int (a)] M Q := by
  subst ha
  have h6 := s.1.2
  have W := lp_up (W := fun k => fst ≤ k → (∀ i, fst ≤ i → i < k → inE n (qu i) = false) → ∀ v x, v = nI k → q_G q_mt (L, xs, q_shp) E nX6_callFrom (d) 0 0 (q_Q (L, xs, q_shp) E Q) 2 [some (.ref 265), some (.int (nI fst)), some (.int (v)), x] [] M) (t 8 0) ?_ ?_ fst hf
  · refine w_in 90 [2] ?_
    exact W (Nat.le_refl _) (fun i _ _ => by omega) _ _ rfl
  · rintro _ hno v x rfl
    refine w_at 90 [2] ?_
    refine ⟨_, s.1.1, ?_⟩
    exact z_le (t 8 0) (t 8 0) (fun h => h0 hno) (fun h => by omega)
  · rintro k hk ih hfk hno v x rfl
    have q1 := hqu k (by omega) hk
    have q2 := s.2 (qu k) q1.2
    refine w_at 90 [2] ?_
    refine ⟨_, s.1.1, ?_⟩
    refine z_le (t 8 0) k (fun h => by omega) (fun h => ?_)
    refine ⟨k, _, by (first | assumption | (simp only [z_nat, z_lit, ← Int32.ofInt_add, ← Int32.ofInt_sub, ← Int32.ofInt_mul]; exact congrArg Int32.ofInt (by omega)) | (simp only [z_nat, z_lit, ← Int32.ofInt_add, ← Int32.ofInt_sub, ← Int32.ofInt_mul]; done) | exact congrArg Int32.ofInt (by omega) | rfl), by (dsimp only; omega), q1.1, ?_⟩
    refine ⟨qu k, _, by (first | assumption | (simp only [z_nat, z_lit, ← Int32.ofInt_add, ← Int32.ofInt_sub, ← Int32.ofInt_mul]; exact congrArg Int32.ofInt (by omega)) | (simp only [z_nat, z_lit, ← Int32.ofInt_add, ← Int32.ofInt_sub, ← Int32.ofInt_mul]; done) | exact congrArg Int32.ofInt (by omega) | rfl), by (dsimp only; omega), q2.1, ?_⟩
    refine z_ne (n (612 + qu k)) 0 (fun h2 => ?_) (fun h2 => ?_)
    · refine ih (by omega) (fun i hi hik => ?_) _ _ (by (first | assumption | (simp only [z_nat, z_lit, ← Int32.ofInt_add, ← Int32.ofInt_sub, ← Int32.ofInt_mul]; exact congrArg Int32.ofInt (by omega)) | (simp only [z_nat, z_lit, ← Int32.ofInt_add, ← Int32.ofInt_sub, ← Int32.ofInt_mul]; done) | exact congrArg Int32.ofInt (by omega) | rfl))
      by_cases z : i = k
      · rw [z]
        exact decide_eq_false h2
      · exact hno i hi (by omega)
    · refine ⟨_, rfl, ?_⟩
      refine ⟨_, rfl, ?_⟩
      exact h1 k hfk hk (decide_eq_true h2) hno
set_option maxRecDepth 100000 in
set_option maxHeartbeats 4000000 in
theorem k2_queueByTotals_257 (s : sts 257 M t n) {f : Nat → Int} (hf : ∀ o, o < t 8 0 → M.1 266 o = Int32.ofInt (f o) ∧ -1 ≤ f o ∧ f o ≤ 1000000) (hQ : ∀ M', q_fs [262] [] M M' → (∀ e, e < t 8 0 → M'.1 262 (rk (fun _ => true) (kyF f) (t 8 0) e) = nI e) → Q none M') : q_C q_mt (L, xs, q_shp) E nX6_queueByTotals (d) 0 0 [.ref 265] M Q := by
  have h6 := s.1.2
  have W := lp_m (W := fun k M' => ∀ v x y, v = nI k → q_G q_mt (L, xs, q_shp) E nX6_queueByTotals (d) 0 0 (q_Q (L, xs, q_shp) E Q) 2 [some (.ref 265), some (.int (v)), x, y] [] M') (J := fun k M' => q_fs [262] [] M M' ∧ ∀ e, e < k → M'.1 262 (rk (fun _ => true) (kyF f) (t 8 0) e) = nI e) (t 8 0) ?_ ?_ 0 M (Nat.zero_le _) ⟨q_fs.rf, fun e he => by omega⟩
  · refine w_in 90 [2, 17] ?_
    exact W _ _ _ rfl
  · rintro M' ⟨hf', hm⟩ v x y rfl
    have e9 : M'.1 6 9 = nI (t 8 0) := by rw [hf'.c1 6]; exact s.1.1
    refine w_at 90 [2, 17] ?_
    refine ⟨_, e9, ?_⟩
    exact z_le (t 8 0) (t 8 0) (fun _ => hQ M' hf' hm) (fun h => by omega)
  · rintro k M' hk ⟨hf', hm⟩ ih v x y rfl
    have e9 : M'.1 6 9 = nI (t 8 0) := by rw [hf'.c1 6]; exact s.1.1
    have ho : ∀ o, o < t 8 0 → M'.1 266 o = Int32.ofInt (f o) := fun o h => by rw [hf'.c1 266]; exact (hf o h).1
    have rt := rk_top (A := fun _ => true) (c := kyF f) (j := k) (k := t 8 0) rfl hk
    have rl := fb_ct_le (fun _ => true) (t 8 0)
    have I := lp_up (W := fun m => ∀ w v2, w = nI (fb_ct (fun i => true && bfr (kyF f) i k) m) → v2 = nI m → q_G q_mt (L, xs, q_shp) E nX6_queueByTotals (d) 0 0 (q_Q (L, xs, q_shp) E Q) 17 [some (.ref 265), some (.int (nI k)), some (.int (w)), some (.int (v2))] [] M') (t 8 0) ?_ ?_ 0 (Nat.zero_le _)
    · refine w_at 90 [2, 17] ?_
      refine ⟨_, e9, ?_⟩
      refine z_le (t 8 0) k (fun h => by omega) (fun _ => ?_)
      exact I _ _ rfl rfl
    · rintro w v2 rfl rfl
      have er : fb_ct (fun i => true && bfr (kyF f) i k) (t 8 0) = rk (fun _ => true) (kyF f) (t 8 0) k := rfl
      rw [er]
      refine w_at 90 [2, 17] ?_
      refine ⟨_, e9, ?_⟩
      refine z_le (t 8 0) (t 8 0) (fun _ => ?_) (fun h => by omega)
      refine ⟨rk (fun _ => true) (kyF f) (t 8 0) k, _, by (first | assumption | (simp only [z_nat, z_lit, ← Int32.ofInt_add, ← Int32.ofInt_sub, ← Int32.ofInt_mul]; exact congrArg Int32.ofInt (by omega)) | (simp only [z_nat, z_lit, ← Int32.ofInt_add, ← Int32.ofInt_sub, ← Int32.ofInt_mul]; done) | exact congrArg Int32.ofInt (by omega) | rfl), by (dsimp only; omega), rfl, ?_⟩
      refine ih _ ⟨hf'.s1, fun e he => ?_⟩ _ _ _ (by (first | assumption | (simp only [z_nat, z_lit, ← Int32.ofInt_add, ← Int32.ofInt_sub, ← Int32.ofInt_mul]; exact congrArg Int32.ofInt (by omega)) | (simp only [z_nat, z_lit, ← Int32.ofInt_add, ← Int32.ofInt_sub, ← Int32.ofInt_mul]; done) | exact congrArg Int32.ofInt (by omega) | rfl))
      by_cases q : e = k
      · rw [q, q_si_s]
      · rw [q_si_n (fun z => q (rk_inj (A := fun _ => true) rfl rfl (by omega) hk z))]
        exact hm e (by omega)
    · rintro m hm2 ih2 w v2 rfl rfl
      have b1 := hf m hm2
      have b2 := hf k hk
      have cl2 := fb_ct_le (fun i => true && bfr (kyF f) i k) m
      refine w_at 90 [2, 17] ?_
      refine ⟨_, e9, ?_⟩
      refine z_le (t 8 0) m (fun h => by omega) (fun _ => ?_)
      refine ⟨m, _, by (first | assumption | (simp only [z_nat, z_lit, ← Int32.ofInt_add, ← Int32.ofInt_sub, ← Int32.ofInt_mul]; exact congrArg Int32.ofInt (by omega)) | (simp only [z_nat, z_lit, ← Int32.ofInt_add, ← Int32.ofInt_sub, ← Int32.ofInt_mul]; done) | exact congrArg Int32.ofInt (by omega) | rfl), by (dsimp only; omega), ho m hm2, ?_⟩
      refine ⟨k, _, by (first | assumption | (simp only [z_nat, z_lit, ← Int32.ofInt_add, ← Int32.ofInt_sub, ← Int32.ofInt_mul]; exact congrArg Int32.ofInt (by omega)) | (simp only [z_nat, z_lit, ← Int32.ofInt_add, ← Int32.ofInt_sub, ← Int32.ofInt_mul]; done) | exact congrArg Int32.ofInt (by omega) | rfl), by (dsimp only; omega), ho k hk, ?_⟩
      refine z_lt (f m) (f k) (fun h2 => ?_) (fun h2 => ?_)
      · exact ih2 _ _ (by rw [ct_t (p := fun i => true && bfr (kyF f) i k) (by rw [(bfr_ky (by omega) (by omega)).mpr (Or.inl h2)]; rfl)]; (first | assumption | (simp only [z_nat, z_lit, ← Int32.ofInt_add, ← Int32.ofInt_sub, ← Int32.ofInt_mul]; exact congrArg Int32.ofInt (by omega)) | (simp only [z_nat, z_lit, ← Int32.ofInt_add, ← Int32.ofInt_sub, ← Int32.ofInt_mul]; done) | exact congrArg Int32.ofInt (by omega) | rfl)) (by (first | assumption | (simp only [z_nat, z_lit, ← Int32.ofInt_add, ← Int32.ofInt_sub, ← Int32.ofInt_mul]; exact congrArg Int32.ofInt (by omega)) | (simp only [z_nat, z_lit, ← Int32.ofInt_add, ← Int32.ofInt_sub, ← Int32.ofInt_mul]; done) | exact congrArg Int32.ofInt (by omega) | rfl))
      · refine ⟨m, _, by (first | assumption | (simp only [z_nat, z_lit, ← Int32.ofInt_add, ← Int32.ofInt_sub, ← Int32.ofInt_mul]; exact congrArg Int32.ofInt (by omega)) | (simp only [z_nat, z_lit, ← Int32.ofInt_add, ← Int32.ofInt_sub, ← Int32.ofInt_mul]; done) | exact congrArg Int32.ofInt (by omega) | rfl), by (dsimp only; omega), ho m hm2, ?_⟩
        refine ⟨k, _, by (first | assumption | (simp only [z_nat, z_lit, ← Int32.ofInt_add, ← Int32.ofInt_sub, ← Int32.ofInt_mul]; exact congrArg Int32.ofInt (by omega)) | (simp only [z_nat, z_lit, ← Int32.ofInt_add, ← Int32.ofInt_sub, ← Int32.ofInt_mul]; done) | exact congrArg Int32.ofInt (by omega) | rfl), by (dsimp only; omega), ho k hk, ?_⟩
        refine z_ne (f m) (f k) (fun h3 => ?_) (fun h3 => ?_)
        · exact ih2 _ _ (by rw [ct_f (p := fun i => true && bfr (kyF f) i k) (by rw [bfr_kyf (by omega) (by omega) (by omega), Bool.and_false])]) (by (first | assumption | (simp only [z_nat, z_lit, ← Int32.ofInt_add, ← Int32.ofInt_sub, ← Int32.ofInt_mul]; exact congrArg Int32.ofInt (by omega)) | (simp only [z_nat, z_lit, ← Int32.ofInt_add, ← Int32.ofInt_sub, ← Int32.ofInt_mul]; done) | exact congrArg Int32.ofInt (by omega) | rfl))
        · refine z_le (m : Int) (k : Int) (fun h4 => ?_) (fun h4 => ?_)
          · exact ih2 _ _ (by rw [ct_f (p := fun i => true && bfr (kyF f) i k) (by rw [bfr_kyf (by omega) (by omega) (by omega), Bool.and_false])]) (by (first | assumption | (simp only [z_nat, z_lit, ← Int32.ofInt_add, ← Int32.ofInt_sub, ← Int32.ofInt_mul]; exact congrArg Int32.ofInt (by omega)) | (simp only [z_nat, z_lit, ← Int32.ofInt_add, ← Int32.ofInt_sub, ← Int32.ofInt_mul]; done) | exact congrArg Int32.ofInt (by omega) | rfl))
          · exact ih2 _ _ (by rw [ct_t (p := fun i => true && bfr (kyF f) i k) (by rw [(bfr_ky (by omega) (by omega)).mpr (Or.inr ⟨h3, by omega⟩)]; rfl)]; (first | assumption | (simp only [z_nat, z_lit, ← Int32.ofInt_add, ← Int32.ofInt_sub, ← Int32.ofInt_mul]; exact congrArg Int32.ofInt (by omega)) | (simp only [z_nat, z_lit, ← Int32.ofInt_add, ← Int32.ofInt_sub, ← Int32.ofInt_mul]; done) | exact congrArg Int32.ofInt (by omega) | rfl)) (by (first | assumption | (simp only [z_nat, z_lit, ← Int32.ofInt_add, ← Int32.ofInt_sub, ← Int32.ofInt_mul]; exact congrArg Int32.ofInt (by omega)) | (simp only [z_nat, z_lit, ← Int32.ofInt_add, ← Int32.ofInt_sub, ← Int32.ofInt_mul]; done) | exact congrArg Int32.ofInt (by omega) | rfl))
end GC
