/-! the reference's small questions, on: places, who is in, the board -/
section RH
variable {L : Nat} {xs : Nat → Int32} {E : q_E} {d : Nat} {M : q_M} {t : q_T} {n : sN} {Q : Option Value → q_M → Prop} {P : q_M → Prop}
set_option maxRecDepth 100000 in
set_option maxHeartbeats 4000000 in
theorem k_slot {a b : Int32} (e r : Nat) (hQ : Q (some (.int (nI (6 * e + r)))) M) (ha : a = nI e := by (first | assumption | (simp only [z_nat, z_lit, ← Int32.ofInt_add, ← Int32.ofInt_sub, ← Int32.ofInt_mul]; exact congrArg Int32.ofInt (by omega)) | (simp only [z_nat, z_lit, ← Int32.ofInt_add, ← Int32.ofInt_sub, ← Int32.ofInt_mul]; done) | exact congrArg Int32.ofInt (by omega) | rfl)) (hb : b = nI (r + 1) := by (first | assumption | (simp only [z_nat, z_lit, ← Int32.ofInt_add, ← Int32.ofInt_sub, ← Int32.ofInt_mul]; exact congrArg Int32.ofInt (by omega)) | (simp only [z_nat, z_lit, ← Int32.ofInt_add, ← Int32.ofInt_sub, ← Int32.ofInt_mul]; done) | exact congrArg Int32.ofInt (by omega) | rfl)) : q_C q_mt (L, xs, q_shp) E nX12_slot (d) 0 0 [.int (a), .int (b)] M Q := by
  subst ha hb
  refine w_in 90 [] ?_
  exact ⟨_, by (first | assumption | (simp only [z_nat, z_lit, ← Int32.ofInt_add, ← Int32.ofInt_sub, ← Int32.ofInt_mul]; exact congrArg Int32.ofInt (by omega)) | (simp only [z_nat, z_lit, ← Int32.ofInt_add, ← Int32.ofInt_sub, ← Int32.ofInt_mul]; done) | exact congrArg Int32.ofInt (by omega) | rfl), hQ⟩
set_option maxRecDepth 100000 in
set_option maxHeartbeats 4000000 in
theorem k_diveOf (g : g_R M t n) {a b : Int32} (e r : Nat) (he : e < t 8 0) (hr : r < t 0 0) (hQ : Q (some (.int (Int32.ofInt (n (6 * e + r))))) M) (ha : a = nI e := by (first | assumption | (simp only [z_nat, z_lit, ← Int32.ofInt_add, ← Int32.ofInt_sub, ← Int32.ofInt_mul]; exact congrArg Int32.ofInt (by omega)) | (simp only [z_nat, z_lit, ← Int32.ofInt_add, ← Int32.ofInt_sub, ← Int32.ofInt_mul]; done) | exact congrArg Int32.ofInt (by omega) | rfl)) (hb : b = nI (r + 1) := by (first | assumption | (simp only [z_nat, z_lit, ← Int32.ofInt_add, ← Int32.ofInt_sub, ← Int32.ofInt_mul]; exact congrArg Int32.ofInt (by omega)) | (simp only [z_nat, z_lit, ← Int32.ofInt_add, ← Int32.ofInt_sub, ← Int32.ofInt_mul]; done) | exact congrArg Int32.ofInt (by omega) | rfl)) : q_C q_mt (L, xs, q_shp) E nX12_diveOf (d + 1) 0 0 [.ref 271, .int (a), .int (b)] M Q := by
  subst ha hb
  have h6 := g.e6
  have h7 := g.r6
  refine w_in 90 [] ?_
  refine k_slot e r ?_
  refine ⟨6 * e + r, Int32.ofInt (n (6 * e + r)), by (first | assumption | (simp only [z_nat, z_lit, ← Int32.ofInt_add, ← Int32.ofInt_sub, ← Int32.ofInt_mul]; exact congrArg Int32.ofInt (by omega)) | (simp only [z_nat, z_lit, ← Int32.ofInt_add, ← Int32.ofInt_sub, ← Int32.ofInt_mul]; done) | exact congrArg Int32.ofInt (by omega) | rfl), by (dsimp only; omega), g.at (by omega), ?_⟩
  exact ⟨_, rfl, hQ⟩
set_option maxRecDepth 100000 in
set_option maxHeartbeats 4000000 in
theorem k_isGiven (g : g_R M t n) {a b : Int32} (e r : Nat) (he : e < t 8 0) (hr : r < t 0 0) (h1 : n (576 + (6 * e + r)) = 1 → Q (some (.int 1)) M) (h0 : n (576 + (6 * e + r)) = 0 → Q (some (.int 0)) M) (ha : a = nI e := by (first | assumption | (simp only [z_nat, z_lit, ← Int32.ofInt_add, ← Int32.ofInt_sub, ← Int32.ofInt_mul]; exact congrArg Int32.ofInt (by omega)) | (simp only [z_nat, z_lit, ← Int32.ofInt_add, ← Int32.ofInt_sub, ← Int32.ofInt_mul]; done) | exact congrArg Int32.ofInt (by omega) | rfl)) (hb : b = nI (r + 1) := by (first | assumption | (simp only [z_nat, z_lit, ← Int32.ofInt_add, ← Int32.ofInt_sub, ← Int32.ofInt_mul]; exact congrArg Int32.ofInt (by omega)) | (simp only [z_nat, z_lit, ← Int32.ofInt_add, ← Int32.ofInt_sub, ← Int32.ofInt_mul]; done) | exact congrArg Int32.ofInt (by omega) | rfl)) : q_C q_mt (L, xs, q_shp) E nX12_isGiven (d + 1) 0 0 [.ref 271, .int (a), .int (b)] M Q := by
  subst ha hb
  have h6 := g.e6
  have h7 := g.r6
  have hs := (g.bs he hr).2.2.2.2.2.2.1
  refine w_in 90 [] ?_
  refine k_slot e r ?_
  refine ⟨576 + (6 * e + r), Int32.ofInt (n (576 + (6 * e + r))), by (first | assumption | (simp only [z_nat, z_lit, ← Int32.ofInt_add, ← Int32.ofInt_sub, ← Int32.ofInt_mul]; exact congrArg Int32.ofInt (by omega)) | (simp only [z_nat, z_lit, ← Int32.ofInt_add, ← Int32.ofInt_sub, ← Int32.ofInt_mul]; done) | exact congrArg Int32.ofInt (by omega) | rfl), by (dsimp only; omega), g.at (by omega), ?_⟩
  exact z_ne (n (576 + (6 * e + r))) 1 (fun h => ⟨z_0, h0 (by omega)⟩) (fun h => ⟨z_1, h1 h⟩)
set_option maxRecDepth 100000 in
set_option maxHeartbeats 4000000 in
theorem k_hasFailed (g : g_R M t n) {a b : Int32} (e r : Nat) (he : e < t 8 0) (hr : r < t 0 0) (h1 : n (540 + (6 * e + r)) = 1 → Q (some (.int 1)) M) (h0 : n (540 + (6 * e + r)) = 0 → Q (some (.int 0)) M) (ha : a = nI e := by (first | assumption | (simp only [z_nat, z_lit, ← Int32.ofInt_add, ← Int32.ofInt_sub, ← Int32.ofInt_mul]; exact congrArg Int32.ofInt (by omega)) | (simp only [z_nat, z_lit, ← Int32.ofInt_add, ← Int32.ofInt_sub, ← Int32.ofInt_mul]; done) | exact congrArg Int32.ofInt (by omega) | rfl)) (hb : b = nI (r + 1) := by (first | assumption | (simp only [z_nat, z_lit, ← Int32.ofInt_add, ← Int32.ofInt_sub, ← Int32.ofInt_mul]; exact congrArg Int32.ofInt (by omega)) | (simp only [z_nat, z_lit, ← Int32.ofInt_add, ← Int32.ofInt_sub, ← Int32.ofInt_mul]; done) | exact congrArg Int32.ofInt (by omega) | rfl)) : q_C q_mt (L, xs, q_shp) E nX12_hasFailed (d + 1) 0 0 [.ref 271, .int (a), .int (b)] M Q := by
  subst ha hb
  have h6 := g.e6
  have h7 := g.r6
  have hs := (g.bs he hr).2.2.2.2.2.1
  refine w_in 90 [] ?_
  refine k_slot e r ?_
  refine ⟨540 + (6 * e + r), Int32.ofInt (n (540 + (6 * e + r))), by (first | assumption | (simp only [z_nat, z_lit, ← Int32.ofInt_add, ← Int32.ofInt_sub, ← Int32.ofInt_mul]; exact congrArg Int32.ofInt (by omega)) | (simp only [z_nat, z_lit, ← Int32.ofInt_add, ← Int32.ofInt_sub, ← Int32.ofInt_mul]; done) | exact congrArg Int32.ofInt (by omega) | rfl), by (dsimp only; omega), g.at (by omega), ?_⟩
  exact z_ne (n (540 + (6 * e + r))) 1 (fun h => ⟨z_0, h0 (by omega)⟩) (fun h => ⟨z_1, h1 h⟩)
set_option maxRecDepth 100000 in
set_option maxHeartbeats 4000000 in
theorem k_isInStill (g : g_R M t n) {a : Int32} (e : Nat) (he : e < t 8 0) (h1 : inE n e = true → Q (some (.int 1)) M) (h0 : inE n e = false → Q (some (.int 0)) M) (ha : a = nI e := by (first | assumption | (simp only [z_nat, z_lit, ← Int32.ofInt_add, ← Int32.ofInt_sub, ← Int32.ofInt_mul]; exact congrArg Int32.ofInt (by omega)) | (simp only [z_nat, z_lit, ← Int32.ofInt_add, ← Int32.ofInt_sub, ← Int32.ofInt_mul]; done) | exact congrArg Int32.ofInt (by omega) | rfl)) : q_C q_mt (L, xs, q_shp) E nX12_isInStill (d) 0 0 [.ref 271, .int (a)] M Q := by
  subst ha
  have h6 := g.e6
  have hs := (g.bn.2.1 e he).1
  unfold inE at h1 h0
  refine w_in 90 [] ?_
  refine ⟨612 + e, Int32.ofInt (n (612 + e)), by (first | assumption | (simp only [z_nat, z_lit, ← Int32.ofInt_add, ← Int32.ofInt_sub, ← Int32.ofInt_mul]; exact congrArg Int32.ofInt (by omega)) | (simp only [z_nat, z_lit, ← Int32.ofInt_add, ← Int32.ofInt_sub, ← Int32.ofInt_mul]; done) | exact congrArg Int32.ofInt (by omega) | rfl), by (dsimp only; omega), g.at (by omega), ?_⟩
  exact z_ne (n (612 + e)) 0 (fun h => ⟨z_0, h0 (decide_eq_false h)⟩) (fun h => ⟨z_1, h1 (decide_eq_true h)⟩)
/-- how many are in -/
def inN (t : q_T) (n : sN) : Nat := fb_ct (inE n) (t 8 0)
set_option maxRecDepth 100000 in
set_option maxHeartbeats 4000000 in
theorem k_inMany (g : g_R M t n) (hQ : Q (some (.int (nI (inN t n)))) M) : q_C q_mt (L, xs, q_shp) E nX12_inMany (d + 1) 0 0 [.ref 271] M Q := by
  have h6 := g.e6
  have W := lp_up (W := fun k => ∀ u v, u = nI (fb_ct (inE n) k) → v = nI k → q_G q_mt (L, xs, q_shp) E nX12_inMany (d + 1) 0 0 (q_Q (L, xs, q_shp) E Q) 4 [some (.ref 271), some (.int (u)), some (.int (v))] [] M) (t 8 0) ?_ ?_ 0 (Nat.zero_le _)
  · refine w_in 90 [4] ?_
    exact W _ _ rfl rfl
  · rintro u v rfl rfl
    refine w_at 90 [4] ?_
    refine ⟨4, nI (t 8 0), by (first | assumption | (simp only [z_nat, z_lit, ← Int32.ofInt_add, ← Int32.ofInt_sub, ← Int32.ofInt_mul]; exact congrArg Int32.ofInt (by omega)) | (simp only [z_nat, z_lit, ← Int32.ofInt_add, ← Int32.ofInt_sub, ← Int32.ofInt_mul]; done) | exact congrArg Int32.ofInt (by omega) | rfl), by (dsimp only; omega), g.R4, ?_⟩
    exact z_le (t 8 0) (t 8 0) (fun h => ⟨_, rfl, hQ⟩) (fun h => by omega)
  · rintro k hk ih u v rfl rfl
    have hc := fb_ct_le (inE n) k
    refine w_at 90 [4] ?_
    refine ⟨4, nI (t 8 0), by (first | assumption | (simp only [z_nat, z_lit, ← Int32.ofInt_add, ← Int32.ofInt_sub, ← Int32.ofInt_mul]; exact congrArg Int32.ofInt (by omega)) | (simp only [z_nat, z_lit, ← Int32.ofInt_add, ← Int32.ofInt_sub, ← Int32.ofInt_mul]; done) | exact congrArg Int32.ofInt (by omega) | rfl), by (dsimp only; omega), g.R4, ?_⟩
    refine z_le (t 8 0) k (fun h => by omega) (fun h => ?_)
    refine k_isInStill g k hk (fun h1 => br_f (by decide) ?_) (fun h1 => br_t (by decide) ?_)
    · exact ih _ _ (by rw [ct_t h1]; (first | assumption | (simp only [z_nat, z_lit, ← Int32.ofInt_add, ← Int32.ofInt_sub, ← Int32.ofInt_mul]; exact congrArg Int32.ofInt (by omega)) | (simp only [z_nat, z_lit, ← Int32.ofInt_add, ← Int32.ofInt_sub, ← Int32.ofInt_mul]; done) | exact congrArg Int32.ofInt (by omega) | rfl)) (by (first | assumption | (simp only [z_nat, z_lit, ← Int32.ofInt_add, ← Int32.ofInt_sub, ← Int32.ofInt_mul]; exact congrArg Int32.ofInt (by omega)) | (simp only [z_nat, z_lit, ← Int32.ofInt_add, ← Int32.ofInt_sub, ← Int32.ofInt_mul]; done) | exact congrArg Int32.ofInt (by omega) | rfl))
    · exact ih _ _ (by rw [ct_f h1]; (first | assumption | (simp only [z_nat, z_lit, ← Int32.ofInt_add, ← Int32.ofInt_sub, ← Int32.ofInt_mul]; exact congrArg Int32.ofInt (by omega)) | (simp only [z_nat, z_lit, ← Int32.ofInt_add, ← Int32.ofInt_sub, ← Int32.ofInt_mul]; done) | exact congrArg Int32.ofInt (by omega) | rfl)) (by (first | assumption | (simp only [z_nat, z_lit, ← Int32.ofInt_add, ← Int32.ofInt_sub, ← Int32.ofInt_mul]; exact congrArg Int32.ofInt (by omega)) | (simp only [z_nat, z_lit, ← Int32.ofInt_add, ← Int32.ofInt_sub, ← Int32.ofInt_mul]; done) | exact congrArg Int32.ofInt (by omega) | rfl))
/-- how many dives of an entrant were given -/
def gvN (t : q_T) (n : sN) (e : Nat) : Nat := fb_ct (gvE n e) (t 0 0)
set_option maxRecDepth 100000 in
set_option maxHeartbeats 4000000 in
theorem k_givenOf (g : g_R M t n) {a : Int32} (e : Nat) (he : e < t 8 0) (hQ : Q (some (.int (nI (gvN t n e)))) M) (ha : a = nI e := by (first | assumption | (simp only [z_nat, z_lit, ← Int32.ofInt_add, ← Int32.ofInt_sub, ← Int32.ofInt_mul]; exact congrArg Int32.ofInt (by omega)) | (simp only [z_nat, z_lit, ← Int32.ofInt_add, ← Int32.ofInt_sub, ← Int32.ofInt_mul]; done) | exact congrArg Int32.ofInt (by omega) | rfl)) : q_C q_mt (L, xs, q_shp) E nX12_givenOf (d + 2) 0 0 [.ref 271, .int (a)] M Q := by
  subst ha
  have h6 := g.r6
  have W := lp_up (W := fun k => ∀ u v, u = nI (fb_ct (gvE n e) k) → v = nI (k + 1) → q_G q_mt (L, xs, q_shp) E nX12_givenOf (d + 2) 0 0 (q_Q (L, xs, q_shp) E Q) 4 [some (.ref 271), some (.int (nI e)), some (.int (u)), some (.int (v))] [] M) (t 0 0) ?_ ?_ 0 (Nat.zero_le _)
  · refine w_in 90 [4] ?_
    exact W _ _ rfl rfl
  · rintro u v rfl rfl
    refine w_at 90 [4] ?_
    refine ⟨0, nI (t 0 0), by (first | assumption | (simp only [z_nat, z_lit, ← Int32.ofInt_add, ← Int32.ofInt_sub, ← Int32.ofInt_mul]; exact congrArg Int32.ofInt (by omega)) | (simp only [z_nat, z_lit, ← Int32.ofInt_add, ← Int32.ofInt_sub, ← Int32.ofInt_mul]; done) | exact congrArg Int32.ofInt (by omega) | rfl), by (dsimp only; omega), g.R0, ?_⟩
    exact z_lt (t 0 0) ((t 0 0 + 1 : Nat) : Int) (fun h => ⟨_, rfl, hQ⟩) (fun h => by omega)
  · rintro k hk ih u v rfl rfl
    have hc := fb_ct_le (gvE n e) k
    refine w_at 90 [4] ?_
    refine ⟨0, nI (t 0 0), by (first | assumption | (simp only [z_nat, z_lit, ← Int32.ofInt_add, ← Int32.ofInt_sub, ← Int32.ofInt_mul]; exact congrArg Int32.ofInt (by omega)) | (simp only [z_nat, z_lit, ← Int32.ofInt_add, ← Int32.ofInt_sub, ← Int32.ofInt_mul]; done) | exact congrArg Int32.ofInt (by omega) | rfl), by (dsimp only; omega), g.R0, ?_⟩
    refine z_lt (t 0 0) ((k + 1 : Nat) : Int) (fun h => by omega) (fun h => ?_)
    refine k_isGiven g e k he hk (fun h1 => br_f (by decide) ?_) (fun h1 => br_t (by decide) ?_)
    · exact ih _ _ (by rw [ct_t (p := gvE n e) (decide_eq_true h1)]; (first | assumption | (simp only [z_nat, z_lit, ← Int32.ofInt_add, ← Int32.ofInt_sub, ← Int32.ofInt_mul]; exact congrArg Int32.ofInt (by omega)) | (simp only [z_nat, z_lit, ← Int32.ofInt_add, ← Int32.ofInt_sub, ← Int32.ofInt_mul]; done) | exact congrArg Int32.ofInt (by omega) | rfl)) (by (first | assumption | (simp only [z_nat, z_lit, ← Int32.ofInt_add, ← Int32.ofInt_sub, ← Int32.ofInt_mul]; exact congrArg Int32.ofInt (by omega)) | (simp only [z_nat, z_lit, ← Int32.ofInt_add, ← Int32.ofInt_sub, ← Int32.ofInt_mul]; done) | exact congrArg Int32.ofInt (by omega) | rfl))
    · exact ih _ _ (by rw [ct_f (p := gvE n e) (decide_eq_false (by omega))]; (first | assumption | (simp only [z_nat, z_lit, ← Int32.ofInt_add, ← Int32.ofInt_sub, ← Int32.ofInt_mul]; exact congrArg Int32.ofInt (by omega)) | (simp only [z_nat, z_lit, ← Int32.ofInt_add, ← Int32.ofInt_sub, ← Int32.ofInt_mul]; done) | exact congrArg Int32.ofInt (by omega) | rfl)) (by (first | assumption | (simp only [z_nat, z_lit, ← Int32.ofInt_add, ← Int32.ofInt_sub, ← Int32.ofInt_mul]; exact congrArg Int32.ofInt (by omega)) | (simp only [z_nat, z_lit, ← Int32.ofInt_add, ← Int32.ofInt_sub, ← Int32.ofInt_mul]; done) | exact congrArg Int32.ofInt (by omega) | rfl))
/-- how many have marked -/
def mkN (t : q_T) (n : sN) (e r : Nat) : Nat := fb_ct (mkd n e r) (t 2 0)
set_option maxRecDepth 100000 in
set_option maxHeartbeats 4000000 in
theorem k_markedMany (g : g_R M t n) {a b : Int32} (e r : Nat) (he : e < t 8 0) (hr : r < t 0 0) (hQ : Q (some (.int (nI (mkN t n e r)))) M) (ha : a = nI e := by (first | assumption | (simp only [z_nat, z_lit, ← Int32.ofInt_add, ← Int32.ofInt_sub, ← Int32.ofInt_mul]; exact congrArg Int32.ofInt (by omega)) | (simp only [z_nat, z_lit, ← Int32.ofInt_add, ← Int32.ofInt_sub, ← Int32.ofInt_mul]; done) | exact congrArg Int32.ofInt (by omega) | rfl)) (hb : b = nI (r + 1) := by (first | assumption | (simp only [z_nat, z_lit, ← Int32.ofInt_add, ← Int32.ofInt_sub, ← Int32.ofInt_mul]; exact congrArg Int32.ofInt (by omega)) | (simp only [z_nat, z_lit, ← Int32.ofInt_add, ← Int32.ofInt_sub, ← Int32.ofInt_mul]; done) | exact congrArg Int32.ofInt (by omega) | rfl)) : q_C q_mt (L, xs, q_shp) E nX12_markedMany (d + 1) 0 0 [.ref 271, .int (a), .int (b)] M Q := by
  subst ha hb
  have h6 := g.e6
  have h7 := g.r6
  have h11 := g.j11
  have W := lp_up (W := fun k => ∀ u v, u = nI (fb_ct (mkd n e r) k) → v = nI k → q_G q_mt (L, xs, q_shp) E nX12_markedMany (d + 1) 0 0 (q_Q (L, xs, q_shp) E Q) 5 [some (.ref 271), some (.int (nI e)), some (.int (nI (r + 1))), some (.int (u)), some (.int (v))] [] M) (t 2 0) ?_ ?_ 0 (Nat.zero_le _)
  · refine w_in 90 [5] ?_
    exact W _ _ rfl rfl
  · rintro u v rfl rfl
    refine w_at 90 [5] ?_
    refine ⟨2, nI (t 2 0), by (first | assumption | (simp only [z_nat, z_lit, ← Int32.ofInt_add, ← Int32.ofInt_sub, ← Int32.ofInt_mul]; exact congrArg Int32.ofInt (by omega)) | (simp only [z_nat, z_lit, ← Int32.ofInt_add, ← Int32.ofInt_sub, ← Int32.ofInt_mul]; done) | exact congrArg Int32.ofInt (by omega) | rfl), by (dsimp only; omega), g.R2, ?_⟩
    exact z_le (t 2 0) (t 2 0) (fun h => ⟨_, rfl, hQ⟩) (fun h => by omega)
  · rintro k hk ih u v rfl rfl
    have hc := fb_ct_le (mkd n e r) k
    have hm := (g.bs he hr).2.1 k (by omega)
    refine w_at 90 [5] ?_
    refine ⟨2, nI (t 2 0), by (first | assumption | (simp only [z_nat, z_lit, ← Int32.ofInt_add, ← Int32.ofInt_sub, ← Int32.ofInt_mul]; exact congrArg Int32.ofInt (by omega)) | (simp only [z_nat, z_lit, ← Int32.ofInt_add, ← Int32.ofInt_sub, ← Int32.ofInt_mul]; done) | exact congrArg Int32.ofInt (by omega) | rfl), by (dsimp only; omega), g.R2, ?_⟩
    refine z_le (t 2 0) k (fun h => by omega) (fun h => ?_)
    refine k_slot e r ?_
    refine ⟨36 + 11 * (6 * e + r) + k, Int32.ofInt (mk n e r k), by (first | assumption | (simp only [z_nat, z_lit, ← Int32.ofInt_add, ← Int32.ofInt_sub, ← Int32.ofInt_mul]; exact congrArg Int32.ofInt (by omega)) | (simp only [z_nat, z_lit, ← Int32.ofInt_add, ← Int32.ofInt_sub, ← Int32.ofInt_mul]; done) | exact congrArg Int32.ofInt (by omega) | rfl), by (dsimp only; omega), g.at (by omega), ?_⟩
    refine z_eq (mk n e r k) (-1) (fun h1 => ?_) (fun h1 => ?_)
    · exact ih _ _ (by rw [ct_f (p := mkd n e r) (by unfold mkd; rw [decide_eq_true h1]; rfl)]; (first | assumption | (simp only [z_nat, z_lit, ← Int32.ofInt_add, ← Int32.ofInt_sub, ← Int32.ofInt_mul]; exact congrArg Int32.ofInt (by omega)) | (simp only [z_nat, z_lit, ← Int32.ofInt_add, ← Int32.ofInt_sub, ← Int32.ofInt_mul]; done) | exact congrArg Int32.ofInt (by omega) | rfl)) (by (first | assumption | (simp only [z_nat, z_lit, ← Int32.ofInt_add, ← Int32.ofInt_sub, ← Int32.ofInt_mul]; exact congrArg Int32.ofInt (by omega)) | (simp only [z_nat, z_lit, ← Int32.ofInt_add, ← Int32.ofInt_sub, ← Int32.ofInt_mul]; done) | exact congrArg Int32.ofInt (by omega) | rfl))
    · exact ih _ _ (by rw [ct_t (p := mkd n e r) (by unfold mkd; rw [decide_eq_false h1]; rfl)]; (first | assumption | (simp only [z_nat, z_lit, ← Int32.ofInt_add, ← Int32.ofInt_sub, ← Int32.ofInt_mul]; exact congrArg Int32.ofInt (by omega)) | (simp only [z_nat, z_lit, ← Int32.ofInt_add, ← Int32.ofInt_sub, ← Int32.ofInt_mul]; done) | exact congrArg Int32.ofInt (by omega) | rfl)) (by (first | assumption | (simp only [z_nat, z_lit, ← Int32.ofInt_add, ← Int32.ofInt_sub, ← Int32.ofInt_mul]; exact congrArg Int32.ofInt (by omega)) | (simp only [z_nat, z_lit, ← Int32.ofInt_add, ← Int32.ofInt_sub, ← Int32.ofInt_mul]; done) | exact congrArg Int32.ofInt (by omega) | rfl))
set_option maxRecDepth 100000 in
set_option maxHeartbeats 4000000 in
theorem k_roundNow (g : g_R M t n) (hQ : Q (some (.int (Int32.ofInt (n 631)))) M) : q_C q_mt (L, xs, q_shp) E nX12_roundNow (d) 0 0 [.ref 271] M Q := by
  refine w_in 90 [] ?_
  refine ⟨631, Int32.ofInt (n 631), by (first | assumption | (simp only [z_nat, z_lit, ← Int32.ofInt_add, ← Int32.ofInt_sub, ← Int32.ofInt_mul]; exact congrArg Int32.ofInt (by omega)) | (simp only [z_nat, z_lit, ← Int32.ofInt_add, ← Int32.ofInt_sub, ← Int32.ofInt_mul]; done) | exact congrArg Int32.ofInt (by omega) | rfl), by (dsimp only; omega), g.at (by omega), ?_⟩
  exact ⟨_, rfl, hQ⟩
/-- who is at the board: the place of the turn holds an entrant -/
def isB (t : q_T) (n : sN) : Prop := ¬ t 0 0 = 0 ∧ ¬ n 633 = 1
/-- what is known of who is at the board -/
def b_B (t : q_T) (n : sN) (e r : Nat) : Prop := isB t n ∧ e < t 8 0 ∧ r < t 0 0 ∧ n 631 = r + 1 ∧ (0 ≤ n 632 ∧ n 632 ≤ 5 ∧ n (624 + (n 632).toNat) = e)
set_option maxRecDepth 100000 in
set_option maxHeartbeats 4000000 in
theorem k_boardOf (g : g_R M t n) (h3 : n 633 = 0 ∨ n 633 = 1) (hno : ¬ isB t n → Q (some (.int (Int32.ofInt (-1)))) M) (hyes : isB t n → ∃ e r, b_B t n e r ∧ Q (some (.int (nI e))) M) : q_C q_mt (L, xs, q_shp) E nX12_boardOf (d) 0 0 [.ref 271] M Q := by
  have h6 := g.r6
  refine w_in 90 [] ?_
  refine ⟨0, nI (t 0 0), by (first | assumption | (simp only [z_nat, z_lit, ← Int32.ofInt_add, ← Int32.ofInt_sub, ← Int32.ofInt_mul]; exact congrArg Int32.ofInt (by omega)) | (simp only [z_nat, z_lit, ← Int32.ofInt_add, ← Int32.ofInt_sub, ← Int32.ofInt_mul]; done) | exact congrArg Int32.ofInt (by omega) | rfl), by (dsimp only; omega), g.R0, ?_⟩
  refine z_eq (t 0 0) 0 (fun h => ⟨_, rfl, hno (fun z => z.1 (by omega))⟩) (fun h => ?_)
  refine ⟨633, Int32.ofInt (n 633), by (first | assumption | (simp only [z_nat, z_lit, ← Int32.ofInt_add, ← Int32.ofInt_sub, ← Int32.ofInt_mul]; exact congrArg Int32.ofInt (by omega)) | (simp only [z_nat, z_lit, ← Int32.ofInt_add, ← Int32.ofInt_sub, ← Int32.ofInt_mul]; done) | exact congrArg Int32.ofInt (by omega) | rfl), by (dsimp only; omega), g.at (by omega), ?_⟩
  refine z_ne (n 633) 1 (fun h2 => ?_) (fun h2 => ⟨_, rfl, hno (fun z => z.2 h2)⟩)
  obtain ⟨e, r, ⟨hb, he, hr, h31, h32, h33, h34⟩, hq⟩ := hyes ⟨by omega, h2⟩
  have e6 := g.e6
  refine ⟨632, Int32.ofInt (n 632), by (first | assumption | (simp only [z_nat, z_lit, ← Int32.ofInt_add, ← Int32.ofInt_sub, ← Int32.ofInt_mul]; exact congrArg Int32.ofInt (by omega)) | (simp only [z_nat, z_lit, ← Int32.ofInt_add, ← Int32.ofInt_sub, ← Int32.ofInt_mul]; done) | exact congrArg Int32.ofInt (by omega) | rfl), by (dsimp only; omega), g.at (by omega), ?_⟩
  refine ⟨624 + (n 632).toNat, nI e, by (first | assumption | (simp only [z_nat, z_lit, ← Int32.ofInt_add, ← Int32.ofInt_sub, ← Int32.ofInt_mul]; exact congrArg Int32.ofInt (by omega)) | (simp only [z_nat, z_lit, ← Int32.ofInt_add, ← Int32.ofInt_sub, ← Int32.ofInt_mul]; done) | exact congrArg Int32.ofInt (by omega) | rfl), by (dsimp only; omega), ?_, ?_⟩
  · rw [g.at (by omega), h34]
    rfl
  · exact ⟨_, rfl, hq⟩
end RH
