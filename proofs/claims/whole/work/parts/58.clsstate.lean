/-! State's questions, of the one and of the trial; Play's: who is in, ranks -/
theorem ct_eq {p q : Nat → Bool} {m k : Nat} (hk : k ≤ m) (h : ∀ i, i < k → p i = q i) (h2 : ∀ i, k ≤ i → i < m → p i = false) : fb_ct p m = fb_ct q k := by
  obtain ⟨j, rfl⟩ : ∃ j, m = k + j := ⟨m - k, by omega⟩
  rw [fb_ct_split, fb_ct_cong h, fb_ct_zero.mpr (fun i hi => h2 _ (by omega) (by omega)), Nat.add_zero]
/-- ranks: how far one came -/
def rch (n : sN) (e : Nat) : Int := if n (612 + e) = 0 then 7 else if n (612 + e) = 7 then 0 else n (612 + e)
/-- who is ahead of whom, by sums f -/
def ahd (n : sN) (f : Nat → Int) (o e : Nat) : Bool := decide (rch n e < rch n o) || (decide (rch n o = rch n e) && decide (f e < f o))
def rkN (t : q_T) (n : sN) (f : Nat → Int) (e : Nat) : Nat := 1 + fb_ct (fun o => ahd n f o e) (t 8 0)
/-- the place of one by ranks, of like ones by numbers -/
def plN (t : q_T) (n : sN) (f : Nat → Int) (e : Nat) : Nat := rkN t n f e - 1 + fb_ct (fun o => decide (rkN t n f o = rkN t n f e)) e
theorem rch_b {n : sN} {e : Nat} (h : 0 ≤ n (612 + e) ∧ n (612 + e) ≤ 7) : 0 ≤ rch n e ∧ rch n e ≤ 7 := by
  unfold rch
  split
  · omega
  · split <;> omega
theorem ahd_t {n : sN} {f : Nat → Int} {o e : Nat} : ahd n f o e = true ↔ rch n e < rch n o ∨ (rch n o = rch n e ∧ f e < f o) := by unfold ahd; simp
theorem ahd_f {n : sN} {f : Nat → Int} {o e : Nat} : ahd n f o e = false ↔ ¬ (rch n e < rch n o ∨ (rch n o = rch n e ∧ f e < f o)) := by
  rw [← ahd_t]
  cases ahd n f o e <;> simp
/-- totals, as the class has them -/
abbrev toF (t : q_T) (n : sN) : Nat → Int := fun e => toE t n e (t 1 0) (-1)
section CS
variable {L : Nat} {xs : Nat → Int32} {E : q_E} {d : Nat} {M : q_M} {t : q_T} {n : sN} {Q : Option Value → q_M → Prop} {P : q_M → Prop}
set_option maxRecDepth 100000 in
set_option maxHeartbeats 4000000 in
theorem k2_pointsOf_43 (g : g_Z 43 M t n) {a b : Int32} (e r : Nat) (he : e < t 8 0) (hr : r < t 0 0) (h1 : n (576 + (6 * e + r)) = 1 → Q (some (.int (Int32.ofInt (ptE t n e r (t 1 0) (-1))))) M) (h0 : n (576 + (6 * e + r)) = 0 → Q (some (.int (Int32.ofInt (-1)))) M) (ha : a = nI e := by (first | assumption | (simp only [z_nat, z_lit, ← Int32.ofInt_add, ← Int32.ofInt_sub, ← Int32.ofInt_mul]; exact congrArg Int32.ofInt (by omega)) | (simp only [z_nat, z_lit, ← Int32.ofInt_add, ← Int32.ofInt_sub, ← Int32.ofInt_mul]; done) | exact congrArg Int32.ofInt (by omega) | rfl)) (hb : b = nI (r + 1) := by (first | assumption | (simp only [z_nat, z_lit, ← Int32.ofInt_add, ← Int32.ofInt_sub, ← Int32.ofInt_mul]; exact congrArg Int32.ofInt (by omega)) | (simp only [z_nat, z_lit, ← Int32.ofInt_add, ← Int32.ofInt_sub, ← Int32.ofInt_mul]; done) | exact congrArg Int32.ofInt (by omega) | rfl)) : q_C q_mt (L, xs, q_shp) E nX8_pointsOf (d + 1) 0 0 [.ref 43, .int (a), .int (b)] M Q := by
  subst ha hb
  have h6 := g.R.e6
  have h7 := g.R.r6
  have hs := (g.R.bs he hr).2.2.2.2.2.2.1
  refine w_in 90 [] ?_
  refine k2_slotOf e r ?_
  have hp := g.ps he hr
  by_cases q : n (576 + (6 * e + r)) = 1
  · rw [if_pos q] at hp
    refine ⟨16 * (6 * e + r), _, by (first | assumption | (simp only [z_nat, z_lit, ← Int32.ofInt_add, ← Int32.ofInt_sub, ← Int32.ofInt_mul]; exact congrArg Int32.ofInt (by omega)) | (simp only [z_nat, z_lit, ← Int32.ofInt_add, ← Int32.ofInt_sub, ← Int32.ofInt_mul]; done) | exact congrArg Int32.ofInt (by omega) | rfl), by (dsimp only; omega), hp, ?_⟩
    exact ⟨_, rfl, h1 q⟩
  · rw [if_neg q] at hp
    refine ⟨16 * (6 * e + r), _, by (first | assumption | (simp only [z_nat, z_lit, ← Int32.ofInt_add, ← Int32.ofInt_sub, ← Int32.ofInt_mul]; exact congrArg Int32.ofInt (by omega)) | (simp only [z_nat, z_lit, ← Int32.ofInt_add, ← Int32.ofInt_sub, ← Int32.ofInt_mul]; done) | exact congrArg Int32.ofInt (by omega) | rfl), by (dsimp only; omega), hp, ?_⟩
    exact ⟨_, rfl, h0 (by omega)⟩
set_option maxRecDepth 100000 in
set_option maxHeartbeats 4000000 in
theorem k2_isFailed_43 (g : g_Z 43 M t n) {a b : Int32} (e r : Nat) (he : e < t 8 0) (hr : r < t 0 0) (h1 : n (540 + (6 * e + r)) = 1 → Q (some (.int 1)) M) (h0 : n (540 + (6 * e + r)) = 0 → Q (some (.int 0)) M) (ha : a = nI e := by (first | assumption | (simp only [z_nat, z_lit, ← Int32.ofInt_add, ← Int32.ofInt_sub, ← Int32.ofInt_mul]; exact congrArg Int32.ofInt (by omega)) | (simp only [z_nat, z_lit, ← Int32.ofInt_add, ← Int32.ofInt_sub, ← Int32.ofInt_mul]; done) | exact congrArg Int32.ofInt (by omega) | rfl)) (hb : b = nI (r + 1) := by (first | assumption | (simp only [z_nat, z_lit, ← Int32.ofInt_add, ← Int32.ofInt_sub, ← Int32.ofInt_mul]; exact congrArg Int32.ofInt (by omega)) | (simp only [z_nat, z_lit, ← Int32.ofInt_add, ← Int32.ofInt_sub, ← Int32.ofInt_mul]; done) | exact congrArg Int32.ofInt (by omega) | rfl)) : q_C q_mt (L, xs, q_shp) E nX8_isFailed (d + 1) 0 0 [.ref 43, .int (a), .int (b)] M Q := by
  subst ha hb
  have h6 := g.R.e6
  have h7 := g.R.r6
  have hs := (g.R.bs he hr).2.2.2.2.2.1
  refine w_in 90 [] ?_
  refine k2_slotOf e r ?_
  refine ⟨16 * (6 * e + r) + 1, _, by (first | assumption | (simp only [z_nat, z_lit, ← Int32.ofInt_add, ← Int32.ofInt_sub, ← Int32.ofInt_mul]; exact congrArg Int32.ofInt (by omega)) | (simp only [z_nat, z_lit, ← Int32.ofInt_add, ← Int32.ofInt_sub, ← Int32.ofInt_mul]; done) | exact congrArg Int32.ofInt (by omega) | rfl), by (dsimp only; omega), (g.sl (show 6 * e + r < 36 by omega)).1, ?_⟩
  exact z_ne (n (540 + (6 * e + r))) 1 (fun h => ⟨z_0, h0 (by omega)⟩) (fun h => ⟨z_1, h1 h⟩)
set_option maxRecDepth 100000 in
set_option maxHeartbeats 4000000 in
theorem k2_isIn_43 (g : g_Z 43 M t n) {a : Int32} (e : Nat) (he : e < t 8 0) (h1 : inE n e = true → Q (some (.int 1)) M) (h0 : inE n e = false → Q (some (.int 0)) M) (ha : a = nI e := by (first | assumption | (simp only [z_nat, z_lit, ← Int32.ofInt_add, ← Int32.ofInt_sub, ← Int32.ofInt_mul]; exact congrArg Int32.ofInt (by omega)) | (simp only [z_nat, z_lit, ← Int32.ofInt_add, ← Int32.ofInt_sub, ← Int32.ofInt_mul]; done) | exact congrArg Int32.ofInt (by omega) | rfl)) : q_C q_mt (L, xs, q_shp) E nX6_isIn (d) 0 0 [.ref 242, .int (a)] M Q := by
  subst ha
  have h6 := g.R.e6
  have hs := (g.R.bn.2.1 e he).1
  unfold inE at h1 h0
  refine w_in 90 [] ?_
  refine ⟨e, _, by (first | assumption | (simp only [z_nat, z_lit, ← Int32.ofInt_add, ← Int32.ofInt_sub, ← Int32.ofInt_mul]; exact congrArg Int32.ofInt (by omega)) | (simp only [z_nat, z_lit, ← Int32.ofInt_add, ← Int32.ofInt_sub, ← Int32.ofInt_mul]; done) | exact congrArg Int32.ofInt (by omega) | rfl), by (dsimp only; omega), g.st he, ?_⟩
  exact z_ne (n (612 + e)) 0 (fun h => ⟨z_0, h0 (decide_eq_false h)⟩) (fun h => ⟨z_1, h1 (decide_eq_true h)⟩)
set_option maxRecDepth 100000 in
set_option maxHeartbeats 4000000 in
theorem k2_countIn_43 (g : g_Z 43 M t n) (hQ : Q (some (.int (nI (inN t n)))) M) : q_C q_mt (L, xs, q_shp) E nX6_countIn (d + 1) 0 0 [.ref 242] M Q := by
  have h6 := g.R.e6
  have W := lp_up (W := fun k => ∀ u v, u = nI (fb_ct (inE n) k) → v = nI k → q_G q_mt (L, xs, q_shp) E nX6_countIn (d + 1) 0 0 (q_Q (L, xs, q_shp) E Q) 4 [some (.ref 242), some (.int (u)), some (.int (v))] [] M) (t 8 0) ?_ ?_ 0 (Nat.zero_le _)
  · refine w_in 90 [4] ?_
    exact W _ _ rfl rfl
  · rintro u v rfl rfl
    refine w_at 90 [4] ?_
    refine ⟨nI (t 8 0), g.eN, ?_⟩
    exact z_le (t 8 0) (t 8 0) (fun h => ⟨_, rfl, hQ⟩) (fun h => by omega)
  · rintro k hk ih u v rfl rfl
    have hc := fb_ct_le (inE n) k
    refine w_at 90 [4] ?_
    refine ⟨nI (t 8 0), g.eN, ?_⟩
    refine z_le (t 8 0) k (fun h => by omega) (fun h => ?_)
    refine k2_isIn_43 g.Z k hk (fun h1 => br_f (by decide) ?_) (fun h1 => br_t (by decide) ?_)
    · exact ih _ _ (by rw [ct_t h1]; (first | assumption | (simp only [z_nat, z_lit, ← Int32.ofInt_add, ← Int32.ofInt_sub, ← Int32.ofInt_mul]; exact congrArg Int32.ofInt (by omega)) | (simp only [z_nat, z_lit, ← Int32.ofInt_add, ← Int32.ofInt_sub, ← Int32.ofInt_mul]; done) | exact congrArg Int32.ofInt (by omega) | rfl)) (by (first | assumption | (simp only [z_nat, z_lit, ← Int32.ofInt_add, ← Int32.ofInt_sub, ← Int32.ofInt_mul]; exact congrArg Int32.ofInt (by omega)) | (simp only [z_nat, z_lit, ← Int32.ofInt_add, ← Int32.ofInt_sub, ← Int32.ofInt_mul]; done) | exact congrArg Int32.ofInt (by omega) | rfl))
    · exact ih _ _ (by rw [ct_f h1]) (by (first | assumption | (simp only [z_nat, z_lit, ← Int32.ofInt_add, ← Int32.ofInt_sub, ← Int32.ofInt_mul]; exact congrArg Int32.ofInt (by omega)) | (simp only [z_nat, z_lit, ← Int32.ofInt_add, ← Int32.ofInt_sub, ← Int32.ofInt_mul]; done) | exact congrArg Int32.ofInt (by omega) | rfl))
set_option maxRecDepth 100000 in
set_option maxHeartbeats 4000000 in
theorem k2_standingOf_43 (g : g_Z 43 M t n) {a : Int32} (e : Nat) (he : e < t 8 0) (hQ : Q (some (.int (Int32.ofInt (rch n e)))) M) (ha : a = nI e := by (first | assumption | (simp only [z_nat, z_lit, ← Int32.ofInt_add, ← Int32.ofInt_sub, ← Int32.ofInt_mul]; exact congrArg Int32.ofInt (by omega)) | (simp only [z_nat, z_lit, ← Int32.ofInt_add, ← Int32.ofInt_sub, ← Int32.ofInt_mul]; done) | exact congrArg Int32.ofInt (by omega) | rfl)) : q_C q_mt (L, xs, q_shp) E nX6_standingOf (d) 0 0 [.ref 242, .int (a)] M Q := by
  subst ha
  have h6 := g.R.e6
  have hs := (g.R.bn.2.1 e he).1
  unfold rch at hQ
  refine w_in 90 [] ?_
  refine ⟨e, _, by (first | assumption | (simp only [z_nat, z_lit, ← Int32.ofInt_add, ← Int32.ofInt_sub, ← Int32.ofInt_mul]; exact congrArg Int32.ofInt (by omega)) | (simp only [z_nat, z_lit, ← Int32.ofInt_add, ← Int32.ofInt_sub, ← Int32.ofInt_mul]; done) | exact congrArg Int32.ofInt (by omega) | rfl), by (dsimp only; omega), g.st he, ?_⟩
  refine z_ne (n (612 + e)) 7 (fun h => ?_) (fun h => ?_)
  · refine z_ne (n (612 + e)) 0 (fun h2 => ?_) (fun h2 => ?_)
    · rw [if_neg h2, if_neg h] at hQ
      exact ⟨_, rfl, hQ⟩
    · rw [if_pos h2] at hQ
      exact ⟨_, rfl, hQ⟩
  · rw [if_neg (by omega), if_pos h] at hQ
    exact ⟨_, rfl, hQ⟩
set_option maxRecDepth 100000 in
set_option maxHeartbeats 4000000 in
theorem k2_isAhead_43 (g : g_Z 43 M t n) {a b : Int32} (o e : Nat) (ho : o < t 8 0) (he : e < t 8 0) (h1 : ahd n (toF t n) o e = true → Q (some (.int 1)) M) (h0 : ahd n (toF t n) o e = false → Q (some (.int 0)) M) (ha : a = nI o := by (first | assumption | (simp only [z_nat, z_lit, ← Int32.ofInt_add, ← Int32.ofInt_sub, ← Int32.ofInt_mul]; exact congrArg Int32.ofInt (by omega)) | (simp only [z_nat, z_lit, ← Int32.ofInt_add, ← Int32.ofInt_sub, ← Int32.ofInt_mul]; done) | exact congrArg Int32.ofInt (by omega) | rfl)) (hb : b = nI e := by (first | assumption | (simp only [z_nat, z_lit, ← Int32.ofInt_add, ← Int32.ofInt_sub, ← Int32.ofInt_mul]; exact congrArg Int32.ofInt (by omega)) | (simp only [z_nat, z_lit, ← Int32.ofInt_add, ← Int32.ofInt_sub, ← Int32.ofInt_mul]; done) | exact congrArg Int32.ofInt (by omega) | rfl)) : q_C q_mt (L, xs, q_shp) E nX6_isAhead (d + 1) 0 0 [.ref 242, .int (a), .int (b)] M Q := by
  subst ha hb
  have h6 := g.R.e6
  have b1 := rch_b (g.R.bn.2.1 e he).1
  have b2 := rch_b (g.R.bn.2.1 o ho).1
  have b3 := toE_c g.R (dr := t 1 0) (bar := -1) he
  have b4 := toE_c g.R (dr := t 1 0) (bar := -1) ho
  rw [ahd_t] at h1
  rw [ahd_f] at h0
  refine w_in 90 [] ?_
  refine k2_standingOf_43 g.Z o ho ?_
  refine k2_standingOf_43 g.Z e he ?_
  refine z_eq (rch n o) (rch n e) (fun h => ?_) (fun h => ?_)
  · refine ⟨o, _, by (first | assumption | (simp only [z_nat, z_lit, ← Int32.ofInt_add, ← Int32.ofInt_sub, ← Int32.ofInt_mul]; exact congrArg Int32.ofInt (by omega)) | (simp only [z_nat, z_lit, ← Int32.ofInt_add, ← Int32.ofInt_sub, ← Int32.ofInt_mul]; done) | exact congrArg Int32.ofInt (by omega) | rfl), by (dsimp only; omega), g.to ho, ?_⟩
    refine ⟨e, _, by (first | assumption | (simp only [z_nat, z_lit, ← Int32.ofInt_add, ← Int32.ofInt_sub, ← Int32.ofInt_mul]; exact congrArg Int32.ofInt (by omega)) | (simp only [z_nat, z_lit, ← Int32.ofInt_add, ← Int32.ofInt_sub, ← Int32.ofInt_mul]; done) | exact congrArg Int32.ofInt (by omega) | rfl), by (dsimp only; omega), g.to he, ?_⟩
    exact z_le (toE t n o (t 1 0) (-1)) (toE t n e (t 1 0) (-1)) (fun h2 => ⟨z_0, h0 (fun z => z.elim (fun z => by omega) (fun z => absurd (show toE t n e (t 1 0) (-1) < toE t n o (t 1 0) (-1) from z.2) (by omega)))⟩) (fun h2 => ⟨z_1, h1 (Or.inr ⟨h, h2⟩)⟩)
  · exact z_le (rch n o) (rch n e) (fun h2 => ⟨z_0, h0 (fun z => by rcases z with z | z <;> omega)⟩) (fun h2 => ⟨z_1, h1 (Or.inl h2)⟩)
set_option maxRecDepth 100000 in
set_option maxHeartbeats 4000000 in
theorem k2_rankOf_43 (g : g_Z 43 M t n) {a : Int32} (e : Nat) (he : e < t 8 0) (hQ : Q (some (.int (nI (rkN t n (toF t n) e)))) M) (ha : a = nI e := by (first | assumption | (simp only [z_nat, z_lit, ← Int32.ofInt_add, ← Int32.ofInt_sub, ← Int32.ofInt_mul]; exact congrArg Int32.ofInt (by omega)) | (simp only [z_nat, z_lit, ← Int32.ofInt_add, ← Int32.ofInt_sub, ← Int32.ofInt_mul]; done) | exact congrArg Int32.ofInt (by omega) | rfl)) : q_C q_mt (L, xs, q_shp) E nX6_rankOf (d + 2) 0 0 [.ref 242, .int (a)] M Q := by
  subst ha
  have h6 := g.R.e6
  have W := lp_up (W := fun k => ∀ u v, u = nI (1 + fb_ct (fun o => ahd n (toF t n) o e) k) → v = nI k → q_G q_mt (L, xs, q_shp) E nX6_rankOf (d + 2) 0 0 (q_Q (L, xs, q_shp) E Q) 4 [some (.ref 242), some (.int (nI e)), some (.int (u)), some (.int (v))] [] M) (t 8 0) ?_ ?_ 0 (Nat.zero_le _)
  · refine w_in 90 [4] ?_
    exact W _ _ rfl rfl
  · rintro u v rfl rfl
    refine w_at 90 [4] ?_
    refine ⟨nI (t 8 0), g.eN, ?_⟩
    exact z_le (t 8 0) (t 8 0) (fun h => ⟨_, rfl, hQ⟩) (fun h => by omega)
  · rintro k hk ih u v rfl rfl
    have hc := fb_ct_le (fun o => ahd n (toF t n) o e) k
    refine w_at 90 [4] ?_
    refine ⟨nI (t 8 0), g.eN, ?_⟩
    refine z_le (t 8 0) k (fun h => by omega) (fun h => ?_)
    refine k2_isAhead_43 g.Z k e hk he (fun h1 => br_f (by decide) ?_) (fun h1 => br_t (by decide) ?_)
    · exact ih _ _ (by rw [ct_t (p := fun o => ahd n (toF t n) o e) h1]; (first | assumption | (simp only [z_nat, z_lit, ← Int32.ofInt_add, ← Int32.ofInt_sub, ← Int32.ofInt_mul]; exact congrArg Int32.ofInt (by omega)) | (simp only [z_nat, z_lit, ← Int32.ofInt_add, ← Int32.ofInt_sub, ← Int32.ofInt_mul]; done) | exact congrArg Int32.ofInt (by omega) | rfl)) (by (first | assumption | (simp only [z_nat, z_lit, ← Int32.ofInt_add, ← Int32.ofInt_sub, ← Int32.ofInt_mul]; exact congrArg Int32.ofInt (by omega)) | (simp only [z_nat, z_lit, ← Int32.ofInt_add, ← Int32.ofInt_sub, ← Int32.ofInt_mul]; done) | exact congrArg Int32.ofInt (by omega) | rfl))
    · exact ih _ _ (by rw [ct_f (p := fun o => ahd n (toF t n) o e) h1]) (by (first | assumption | (simp only [z_nat, z_lit, ← Int32.ofInt_add, ← Int32.ofInt_sub, ← Int32.ofInt_mul]; exact congrArg Int32.ofInt (by omega)) | (simp only [z_nat, z_lit, ← Int32.ofInt_add, ← Int32.ofInt_sub, ← Int32.ofInt_mul]; done) | exact congrArg Int32.ofInt (by omega) | rfl))
set_option maxRecDepth 100000 in
set_option maxHeartbeats 4000000 in
theorem k2_pointsOf_257 (g : g_Z 257 M t n) {a b : Int32} (e r : Nat) (he : e < t 8 0) (hr : r < t 0 0) (h1 : n (576 + (6 * e + r)) = 1 → Q (some (.int (Int32.ofInt (ptE t n e r (t 1 0) (-1))))) M) (h0 : n (576 + (6 * e + r)) = 0 → Q (some (.int (Int32.ofInt (-1)))) M) (ha : a = nI e := by (first | assumption | (simp only [z_nat, z_lit, ← Int32.ofInt_add, ← Int32.ofInt_sub, ← Int32.ofInt_mul]; exact congrArg Int32.ofInt (by omega)) | (simp only [z_nat, z_lit, ← Int32.ofInt_add, ← Int32.ofInt_sub, ← Int32.ofInt_mul]; done) | exact congrArg Int32.ofInt (by omega) | rfl)) (hb : b = nI (r + 1) := by (first | assumption | (simp only [z_nat, z_lit, ← Int32.ofInt_add, ← Int32.ofInt_sub, ← Int32.ofInt_mul]; exact congrArg Int32.ofInt (by omega)) | (simp only [z_nat, z_lit, ← Int32.ofInt_add, ← Int32.ofInt_sub, ← Int32.ofInt_mul]; done) | exact congrArg Int32.ofInt (by omega) | rfl)) : q_C q_mt (L, xs, q_shp) E nX8_pointsOf (d + 1) 0 0 [.ref 257, .int (a), .int (b)] M Q := by
  subst ha hb
  have h6 := g.R.e6
  have h7 := g.R.r6
  have hs := (g.R.bs he hr).2.2.2.2.2.2.1
  refine w_in 90 [] ?_
  refine k2_slotOf e r ?_
  have hp := g.ps he hr
  by_cases q : n (576 + (6 * e + r)) = 1
  · rw [if_pos q] at hp
    refine ⟨16 * (6 * e + r), _, by (first | assumption | (simp only [z_nat, z_lit, ← Int32.ofInt_add, ← Int32.ofInt_sub, ← Int32.ofInt_mul]; exact congrArg Int32.ofInt (by omega)) | (simp only [z_nat, z_lit, ← Int32.ofInt_add, ← Int32.ofInt_sub, ← Int32.ofInt_mul]; done) | exact congrArg Int32.ofInt (by omega) | rfl), by (dsimp only; omega), hp, ?_⟩
    exact ⟨_, rfl, h1 q⟩
  · rw [if_neg q] at hp
    refine ⟨16 * (6 * e + r), _, by (first | assumption | (simp only [z_nat, z_lit, ← Int32.ofInt_add, ← Int32.ofInt_sub, ← Int32.ofInt_mul]; exact congrArg Int32.ofInt (by omega)) | (simp only [z_nat, z_lit, ← Int32.ofInt_add, ← Int32.ofInt_sub, ← Int32.ofInt_mul]; done) | exact congrArg Int32.ofInt (by omega) | rfl), by (dsimp only; omega), hp, ?_⟩
    exact ⟨_, rfl, h0 (by omega)⟩
set_option maxRecDepth 100000 in
set_option maxHeartbeats 4000000 in
theorem k2_isFailed_257 (g : g_Z 257 M t n) {a b : Int32} (e r : Nat) (he : e < t 8 0) (hr : r < t 0 0) (h1 : n (540 + (6 * e + r)) = 1 → Q (some (.int 1)) M) (h0 : n (540 + (6 * e + r)) = 0 → Q (some (.int 0)) M) (ha : a = nI e := by (first | assumption | (simp only [z_nat, z_lit, ← Int32.ofInt_add, ← Int32.ofInt_sub, ← Int32.ofInt_mul]; exact congrArg Int32.ofInt (by omega)) | (simp only [z_nat, z_lit, ← Int32.ofInt_add, ← Int32.ofInt_sub, ← Int32.ofInt_mul]; done) | exact congrArg Int32.ofInt (by omega) | rfl)) (hb : b = nI (r + 1) := by (first | assumption | (simp only [z_nat, z_lit, ← Int32.ofInt_add, ← Int32.ofInt_sub, ← Int32.ofInt_mul]; exact congrArg Int32.ofInt (by omega)) | (simp only [z_nat, z_lit, ← Int32.ofInt_add, ← Int32.ofInt_sub, ← Int32.ofInt_mul]; done) | exact congrArg Int32.ofInt (by omega) | rfl)) : q_C q_mt (L, xs, q_shp) E nX8_isFailed (d + 1) 0 0 [.ref 257, .int (a), .int (b)] M Q := by
  subst ha hb
  have h6 := g.R.e6
  have h7 := g.R.r6
  have hs := (g.R.bs he hr).2.2.2.2.2.1
  refine w_in 90 [] ?_
  refine k2_slotOf e r ?_
  refine ⟨16 * (6 * e + r) + 1, _, by (first | assumption | (simp only [z_nat, z_lit, ← Int32.ofInt_add, ← Int32.ofInt_sub, ← Int32.ofInt_mul]; exact congrArg Int32.ofInt (by omega)) | (simp only [z_nat, z_lit, ← Int32.ofInt_add, ← Int32.ofInt_sub, ← Int32.ofInt_mul]; done) | exact congrArg Int32.ofInt (by omega) | rfl), by (dsimp only; omega), (g.sl (show 6 * e + r < 36 by omega)).1, ?_⟩
  exact z_ne (n (540 + (6 * e + r))) 1 (fun h => ⟨z_0, h0 (by omega)⟩) (fun h => ⟨z_1, h1 h⟩)
set_option maxRecDepth 100000 in
set_option maxHeartbeats 4000000 in
theorem k2_isIn_257 (g : g_Z 257 M t n) {a : Int32} (e : Nat) (he : e < t 8 0) (h1 : inE n e = true → Q (some (.int 1)) M) (h0 : inE n e = false → Q (some (.int 0)) M) (ha : a = nI e := by (first | assumption | (simp only [z_nat, z_lit, ← Int32.ofInt_add, ← Int32.ofInt_sub, ← Int32.ofInt_mul]; exact congrArg Int32.ofInt (by omega)) | (simp only [z_nat, z_lit, ← Int32.ofInt_add, ← Int32.ofInt_sub, ← Int32.ofInt_mul]; done) | exact congrArg Int32.ofInt (by omega) | rfl)) : q_C q_mt (L, xs, q_shp) E nX6_isIn (d) 0 0 [.ref 265, .int (a)] M Q := by
  subst ha
  have h6 := g.R.e6
  have hs := (g.R.bn.2.1 e he).1
  unfold inE at h1 h0
  refine w_in 90 [] ?_
  refine ⟨e, _, by (first | assumption | (simp only [z_nat, z_lit, ← Int32.ofInt_add, ← Int32.ofInt_sub, ← Int32.ofInt_mul]; exact congrArg Int32.ofInt (by omega)) | (simp only [z_nat, z_lit, ← Int32.ofInt_add, ← Int32.ofInt_sub, ← Int32.ofInt_mul]; done) | exact congrArg Int32.ofInt (by omega) | rfl), by (dsimp only; omega), g.st he, ?_⟩
  exact z_ne (n (612 + e)) 0 (fun h => ⟨z_0, h0 (decide_eq_false h)⟩) (fun h => ⟨z_1, h1 (decide_eq_true h)⟩)
set_option maxRecDepth 100000 in
set_option maxHeartbeats 4000000 in
theorem k2_countIn_257 (g : g_Z 257 M t n) (hQ : Q (some (.int (nI (inN t n)))) M) : q_C q_mt (L, xs, q_shp) E nX6_countIn (d + 1) 0 0 [.ref 265] M Q := by
  have h6 := g.R.e6
  have W := lp_up (W := fun k => ∀ u v, u = nI (fb_ct (inE n) k) → v = nI k → q_G q_mt (L, xs, q_shp) E nX6_countIn (d + 1) 0 0 (q_Q (L, xs, q_shp) E Q) 4 [some (.ref 265), some (.int (u)), some (.int (v))] [] M) (t 8 0) ?_ ?_ 0 (Nat.zero_le _)
  · refine w_in 90 [4] ?_
    exact W _ _ rfl rfl
  · rintro u v rfl rfl
    refine w_at 90 [4] ?_
    refine ⟨nI (t 8 0), g.eN, ?_⟩
    exact z_le (t 8 0) (t 8 0) (fun h => ⟨_, rfl, hQ⟩) (fun h => by omega)
  · rintro k hk ih u v rfl rfl
    have hc := fb_ct_le (inE n) k
    refine w_at 90 [4] ?_
    refine ⟨nI (t 8 0), g.eN, ?_⟩
    refine z_le (t 8 0) k (fun h => by omega) (fun h => ?_)
    refine k2_isIn_257 g.Z k hk (fun h1 => br_f (by decide) ?_) (fun h1 => br_t (by decide) ?_)
    · exact ih _ _ (by rw [ct_t h1]; (first | assumption | (simp only [z_nat, z_lit, ← Int32.ofInt_add, ← Int32.ofInt_sub, ← Int32.ofInt_mul]; exact congrArg Int32.ofInt (by omega)) | (simp only [z_nat, z_lit, ← Int32.ofInt_add, ← Int32.ofInt_sub, ← Int32.ofInt_mul]; done) | exact congrArg Int32.ofInt (by omega) | rfl)) (by (first | assumption | (simp only [z_nat, z_lit, ← Int32.ofInt_add, ← Int32.ofInt_sub, ← Int32.ofInt_mul]; exact congrArg Int32.ofInt (by omega)) | (simp only [z_nat, z_lit, ← Int32.ofInt_add, ← Int32.ofInt_sub, ← Int32.ofInt_mul]; done) | exact congrArg Int32.ofInt (by omega) | rfl))
    · exact ih _ _ (by rw [ct_f h1]) (by (first | assumption | (simp only [z_nat, z_lit, ← Int32.ofInt_add, ← Int32.ofInt_sub, ← Int32.ofInt_mul]; exact congrArg Int32.ofInt (by omega)) | (simp only [z_nat, z_lit, ← Int32.ofInt_add, ← Int32.ofInt_sub, ← Int32.ofInt_mul]; done) | exact congrArg Int32.ofInt (by omega) | rfl))
set_option maxRecDepth 100000 in
set_option maxHeartbeats 4000000 in
theorem k2_standingOf_257 (g : g_Z 257 M t n) {a : Int32} (e : Nat) (he : e < t 8 0) (hQ : Q (some (.int (Int32.ofInt (rch n e)))) M) (ha : a = nI e := by (first | assumption | (simp only [z_nat, z_lit, ← Int32.ofInt_add, ← Int32.ofInt_sub, ← Int32.ofInt_mul]; exact congrArg Int32.ofInt (by omega)) | (simp only [z_nat, z_lit, ← Int32.ofInt_add, ← Int32.ofInt_sub, ← Int32.ofInt_mul]; done) | exact congrArg Int32.ofInt (by omega) | rfl)) : q_C q_mt (L, xs, q_shp) E nX6_standingOf (d) 0 0 [.ref 265, .int (a)] M Q := by
  subst ha
  have h6 := g.R.e6
  have hs := (g.R.bn.2.1 e he).1
  unfold rch at hQ
  refine w_in 90 [] ?_
  refine ⟨e, _, by (first | assumption | (simp only [z_nat, z_lit, ← Int32.ofInt_add, ← Int32.ofInt_sub, ← Int32.ofInt_mul]; exact congrArg Int32.ofInt (by omega)) | (simp only [z_nat, z_lit, ← Int32.ofInt_add, ← Int32.ofInt_sub, ← Int32.ofInt_mul]; done) | exact congrArg Int32.ofInt (by omega) | rfl), by (dsimp only; omega), g.st he, ?_⟩
  refine z_ne (n (612 + e)) 7 (fun h => ?_) (fun h => ?_)
  · refine z_ne (n (612 + e)) 0 (fun h2 => ?_) (fun h2 => ?_)
    · rw [if_neg h2, if_neg h] at hQ
      exact ⟨_, rfl, hQ⟩
    · rw [if_pos h2] at hQ
      exact ⟨_, rfl, hQ⟩
  · rw [if_neg (by omega), if_pos h] at hQ
    exact ⟨_, rfl, hQ⟩
set_option maxRecDepth 100000 in
set_option maxHeartbeats 4000000 in
theorem k2_isAhead_257 (g : g_Z 257 M t n) {a b : Int32} (o e : Nat) (ho : o < t 8 0) (he : e < t 8 0) (h1 : ahd n (toF t n) o e = true → Q (some (.int 1)) M) (h0 : ahd n (toF t n) o e = false → Q (some (.int 0)) M) (ha : a = nI o := by (first | assumption | (simp only [z_nat, z_lit, ← Int32.ofInt_add, ← Int32.ofInt_sub, ← Int32.ofInt_mul]; exact congrArg Int32.ofInt (by omega)) | (simp only [z_nat, z_lit, ← Int32.ofInt_add, ← Int32.ofInt_sub, ← Int32.ofInt_mul]; done) | exact congrArg Int32.ofInt (by omega) | rfl)) (hb : b = nI e := by (first | assumption | (simp only [z_nat, z_lit, ← Int32.ofInt_add, ← Int32.ofInt_sub, ← Int32.ofInt_mul]; exact congrArg Int32.ofInt (by omega)) | (simp only [z_nat, z_lit, ← Int32.ofInt_add, ← Int32.ofInt_sub, ← Int32.ofInt_mul]; done) | exact congrArg Int32.ofInt (by omega) | rfl)) : q_C q_mt (L, xs, q_shp) E nX6_isAhead (d + 1) 0 0 [.ref 265, .int (a), .int (b)] M Q := by
  subst ha hb
  have h6 := g.R.e6
  have b1 := rch_b (g.R.bn.2.1 e he).1
  have b2 := rch_b (g.R.bn.2.1 o ho).1
  have b3 := toE_c g.R (dr := t 1 0) (bar := -1) he
  have b4 := toE_c g.R (dr := t 1 0) (bar := -1) ho
  rw [ahd_t] at h1
  rw [ahd_f] at h0
  refine w_in 90 [] ?_
  refine k2_standingOf_257 g.Z o ho ?_
  refine k2_standingOf_257 g.Z e he ?_
  refine z_eq (rch n o) (rch n e) (fun h => ?_) (fun h => ?_)
  · refine ⟨o, _, by (first | assumption | (simp only [z_nat, z_lit, ← Int32.ofInt_add, ← Int32.ofInt_sub, ← Int32.ofInt_mul]; exact congrArg Int32.ofInt (by omega)) | (simp only [z_nat, z_lit, ← Int32.ofInt_add, ← Int32.ofInt_sub, ← Int32.ofInt_mul]; done) | exact congrArg Int32.ofInt (by omega) | rfl), by (dsimp only; omega), g.to ho, ?_⟩
    refine ⟨e, _, by (first | assumption | (simp only [z_nat, z_lit, ← Int32.ofInt_add, ← Int32.ofInt_sub, ← Int32.ofInt_mul]; exact congrArg Int32.ofInt (by omega)) | (simp only [z_nat, z_lit, ← Int32.ofInt_add, ← Int32.ofInt_sub, ← Int32.ofInt_mul]; done) | exact congrArg Int32.ofInt (by omega) | rfl), by (dsimp only; omega), g.to he, ?_⟩
    exact z_le (toE t n o (t 1 0) (-1)) (toE t n e (t 1 0) (-1)) (fun h2 => ⟨z_0, h0 (fun z => z.elim (fun z => by omega) (fun z => absurd (show toE t n e (t 1 0) (-1) < toE t n o (t 1 0) (-1) from z.2) (by omega)))⟩) (fun h2 => ⟨z_1, h1 (Or.inr ⟨h, h2⟩)⟩)
  · exact z_le (rch n o) (rch n e) (fun h2 => ⟨z_0, h0 (fun z => by rcases z with z | z <;> omega)⟩) (fun h2 => ⟨z_1, h1 (Or.inl h2)⟩)
set_option maxRecDepth 100000 in
set_option maxHeartbeats 4000000 in
theorem k2_rankOf_257 (g : g_Z 257 M t n) {a : Int32} (e : Nat) (he : e < t 8 0) (hQ : Q (some (.int (nI (rkN t n (toF t n) e)))) M) (ha : a = nI e := by (first | assumption | (simp only [z_nat, z_lit, ← Int32.ofInt_add, ← Int32.ofInt_sub, ← Int32.ofInt_mul]; exact congrArg Int32.ofInt (by omega)) | (simp only [z_nat, z_lit, ← Int32.ofInt_add, ← Int32.ofInt_sub, ← Int32.ofInt_mul]; done) | exact congrArg Int32.ofInt (by omega) | rfl)) : q_C q_mt (L, xs, q_shp) E nX6_rankOf (d + 2) 0 0 [.ref 265, .int (a)] M Q := by
  subst ha
  have h6 := g.R.e6
  have W := lp_up (W := fun k => ∀ u v, u = nI (1 + fb_ct (fun o => ahd n (toF t n) o e) k) → v = nI k → q_G q_mt (L, xs, q_shp) E nX6_rankOf (d + 2) 0 0 (q_Q (L, xs, q_shp) E Q) 4 [some (.ref 265), some (.int (nI e)), some (.int (u)), some (.int (v))] [] M) (t 8 0) ?_ ?_ 0 (Nat.zero_le _)
  · refine w_in 90 [4] ?_
    exact W _ _ rfl rfl
  · rintro u v rfl rfl
    refine w_at 90 [4] ?_
    refine ⟨nI (t 8 0), g.eN, ?_⟩
    exact z_le (t 8 0) (t 8 0) (fun h => ⟨_, rfl, hQ⟩) (fun h => by omega)
  · rintro k hk ih u v rfl rfl
    have hc := fb_ct_le (fun o => ahd n (toF t n) o e) k
    refine w_at 90 [4] ?_
    refine ⟨nI (t 8 0), g.eN, ?_⟩
    refine z_le (t 8 0) k (fun h => by omega) (fun h => ?_)
    refine k2_isAhead_257 g.Z k e hk he (fun h1 => br_f (by decide) ?_) (fun h1 => br_t (by decide) ?_)
    · exact ih _ _ (by rw [ct_t (p := fun o => ahd n (toF t n) o e) h1]; (first | assumption | (simp only [z_nat, z_lit, ← Int32.ofInt_add, ← Int32.ofInt_sub, ← Int32.ofInt_mul]; exact congrArg Int32.ofInt (by omega)) | (simp only [z_nat, z_lit, ← Int32.ofInt_add, ← Int32.ofInt_sub, ← Int32.ofInt_mul]; done) | exact congrArg Int32.ofInt (by omega) | rfl)) (by (first | assumption | (simp only [z_nat, z_lit, ← Int32.ofInt_add, ← Int32.ofInt_sub, ← Int32.ofInt_mul]; exact congrArg Int32.ofInt (by omega)) | (simp only [z_nat, z_lit, ← Int32.ofInt_add, ← Int32.ofInt_sub, ← Int32.ofInt_mul]; done) | exact congrArg Int32.ofInt (by omega) | rfl))
    · exact ih _ _ (by rw [ct_f (p := fun o => ahd n (toF t n) o e) h1]) (by (first | assumption | (simp only [z_nat, z_lit, ← Int32.ofInt_add, ← Int32.ofInt_sub, ← Int32.ofInt_mul]; exact congrArg Int32.ofInt (by omega)) | (simp only [z_nat, z_lit, ← Int32.ofInt_add, ← Int32.ofInt_sub, ← Int32.ofInt_mul]; done) | exact congrArg Int32.ofInt (by omega) | rfl))
set_option maxRecDepth 100000 in
set_option maxHeartbeats 4000000 in
theorem k2_countMarks (g : g_Z 43 M t n) {a : Int32} (e r : Nat) (he : e < t 8 0) (hr : r < t 0 0) (hQ : Q (some (.int (nI (mkN t n e r)))) M) (ha : a = nI (16 * (6 * e + r)) := by (first | assumption | (simp only [z_nat, z_lit, ← Int32.ofInt_add, ← Int32.ofInt_sub, ← Int32.ofInt_mul]; exact congrArg Int32.ofInt (by omega)) | (simp only [z_nat, z_lit, ← Int32.ofInt_add, ← Int32.ofInt_sub, ← Int32.ofInt_mul]; done) | exact congrArg Int32.ofInt (by omega) | rfl)) : q_C q_mt (L, xs, q_shp) E nX8_countMarks (d) 0 0 [.ref 43, .int (a)] M Q := by
  subst ha
  have h6 := g.R.e6
  have h7 := g.R.r6
  have h11 := g.R.j11
  have hb := (g.R.bs he hr).2.1
  have eN : fb_ct (mkd n e r) 11 = mkN t n e r := ct_eq h11 (fun _ _ => rfl) (fun i h1 h2 => by
    unfold mkd
    rw [decide_eq_true]
    · rfl
    · exact Classical.byContradiction (fun z => by have := ((hb i h2).2.2 z).1; omega))
  rw [← eN] at hQ
  have W := lp_up (W := fun k => ∀ u v, u = nI (fb_ct (mkd n e r) k) → v = nI k → q_G q_mt (L, xs, q_shp) E nX8_countMarks (d) 0 0 (q_Q (L, xs, q_shp) E Q) 4 [some (.ref 43), some (.int (nI (16 * (6 * e + r)))), some (.int (u)), some (.int (v))] [] M) 11 ?_ ?_ 0 (Nat.zero_le _)
  · refine w_in 90 [4] ?_
    exact W _ _ rfl rfl
  · rintro u v rfl rfl
    refine w_at 90 [4] ?_
    exact z_le 11 (11 : Nat) (fun h => ⟨_, rfl, hQ⟩) (fun h => by omega)
  · rintro k hk ih u v rfl rfl
    have hc := fb_ct_le (mkd n e r) k
    have hm := hb k hk
    refine w_at 90 [4] ?_
    refine z_le 11 k (fun h => by omega) (fun h => ?_)
    refine ⟨16 * (6 * e + r) + 5 + k, _, by (first | assumption | (simp only [z_nat, z_lit, ← Int32.ofInt_add, ← Int32.ofInt_sub, ← Int32.ofInt_mul]; exact congrArg Int32.ofInt (by omega)) | (simp only [z_nat, z_lit, ← Int32.ofInt_add, ← Int32.ofInt_sub, ← Int32.ofInt_mul]; done) | exact congrArg Int32.ofInt (by omega) | rfl), by (dsimp only; omega), g.mk (show 6 * e + r < 36 by omega) hk, ?_⟩
    refine z_eq (mk n e r k) (-1) (fun h1 => ?_) (fun h1 => ?_)
    · exact ih _ _ (by rw [ct_f (p := mkd n e r) (by unfold mkd; rw [decide_eq_true h1]; rfl)]) (by (first | assumption | (simp only [z_nat, z_lit, ← Int32.ofInt_add, ← Int32.ofInt_sub, ← Int32.ofInt_mul]; exact congrArg Int32.ofInt (by omega)) | (simp only [z_nat, z_lit, ← Int32.ofInt_add, ← Int32.ofInt_sub, ← Int32.ofInt_mul]; done) | exact congrArg Int32.ofInt (by omega) | rfl))
    · exact ih _ _ (by rw [ct_t (p := mkd n e r) (by unfold mkd; rw [decide_eq_false h1]; rfl)]; (first | assumption | (simp only [z_nat, z_lit, ← Int32.ofInt_add, ← Int32.ofInt_sub, ← Int32.ofInt_mul]; exact congrArg Int32.ofInt (by omega)) | (simp only [z_nat, z_lit, ← Int32.ofInt_add, ← Int32.ofInt_sub, ← Int32.ofInt_mul]; done) | exact congrArg Int32.ofInt (by omega) | rfl)) (by (first | assumption | (simp only [z_nat, z_lit, ← Int32.ofInt_add, ← Int32.ofInt_sub, ← Int32.ofInt_mul]; exact congrArg Int32.ofInt (by omega)) | (simp only [z_nat, z_lit, ← Int32.ofInt_add, ← Int32.ofInt_sub, ← Int32.ofInt_mul]; done) | exact congrArg Int32.ofInt (by omega) | rfl))
set_option maxRecDepth 100000 in
set_option maxHeartbeats 4000000 in
theorem k2_countMarks_257 (g : g_Z 257 M t n) {a : Int32} (e r : Nat) (he : e < t 8 0) (hr : r < t 0 0) (hQ : Q (some (.int (nI (mkN t n e r)))) M) (ha : a = nI (16 * (6 * e + r)) := by (first | assumption | (simp only [z_nat, z_lit, ← Int32.ofInt_add, ← Int32.ofInt_sub, ← Int32.ofInt_mul]; exact congrArg Int32.ofInt (by omega)) | (simp only [z_nat, z_lit, ← Int32.ofInt_add, ← Int32.ofInt_sub, ← Int32.ofInt_mul]; done) | exact congrArg Int32.ofInt (by omega) | rfl)) : q_C q_mt (L, xs, q_shp) E nX8_countMarks (d) 0 0 [.ref 257, .int (a)] M Q := by
  subst ha
  have h6 := g.R.e6
  have h7 := g.R.r6
  have h11 := g.R.j11
  have hb := (g.R.bs he hr).2.1
  have eN : fb_ct (mkd n e r) 11 = mkN t n e r := ct_eq h11 (fun _ _ => rfl) (fun i h1 h2 => by
    unfold mkd
    rw [decide_eq_true]
    · rfl
    · exact Classical.byContradiction (fun z => by have := ((hb i h2).2.2 z).1; omega))
  rw [← eN] at hQ
  have W := lp_up (W := fun k => ∀ u v, u = nI (fb_ct (mkd n e r) k) → v = nI k → q_G q_mt (L, xs, q_shp) E nX8_countMarks (d) 0 0 (q_Q (L, xs, q_shp) E Q) 4 [some (.ref 257), some (.int (nI (16 * (6 * e + r)))), some (.int (u)), some (.int (v))] [] M) 11 ?_ ?_ 0 (Nat.zero_le _)
  · refine w_in 90 [4] ?_
    exact W _ _ rfl rfl
  · rintro u v rfl rfl
    refine w_at 90 [4] ?_
    exact z_le 11 (11 : Nat) (fun h => ⟨_, rfl, hQ⟩) (fun h => by omega)
  · rintro k hk ih u v rfl rfl
    have hc := fb_ct_le (mkd n e r) k
    have hm := hb k hk
    refine w_at 90 [4] ?_
    refine z_le 11 k (fun h => by omega) (fun h => ?_)
    refine ⟨16 * (6 * e + r) + 5 + k, _, by (first | assumption | (simp only [z_nat, z_lit, ← Int32.ofInt_add, ← Int32.ofInt_sub, ← Int32.ofInt_mul]; exact congrArg Int32.ofInt (by omega)) | (simp only [z_nat, z_lit, ← Int32.ofInt_add, ← Int32.ofInt_sub, ← Int32.ofInt_mul]; done) | exact congrArg Int32.ofInt (by omega) | rfl), by (dsimp only; omega), g.mk (show 6 * e + r < 36 by omega) hk, ?_⟩
    refine z_eq (mk n e r k) (-1) (fun h1 => ?_) (fun h1 => ?_)
    · exact ih _ _ (by rw [ct_f (p := mkd n e r) (by unfold mkd; rw [decide_eq_true h1]; rfl)]) (by (first | assumption | (simp only [z_nat, z_lit, ← Int32.ofInt_add, ← Int32.ofInt_sub, ← Int32.ofInt_mul]; exact congrArg Int32.ofInt (by omega)) | (simp only [z_nat, z_lit, ← Int32.ofInt_add, ← Int32.ofInt_sub, ← Int32.ofInt_mul]; done) | exact congrArg Int32.ofInt (by omega) | rfl))
    · exact ih _ _ (by rw [ct_t (p := mkd n e r) (by unfold mkd; rw [decide_eq_false h1]; rfl)]; (first | assumption | (simp only [z_nat, z_lit, ← Int32.ofInt_add, ← Int32.ofInt_sub, ← Int32.ofInt_mul]; exact congrArg Int32.ofInt (by omega)) | (simp only [z_nat, z_lit, ← Int32.ofInt_add, ← Int32.ofInt_sub, ← Int32.ofInt_mul]; done) | exact congrArg Int32.ofInt (by omega) | rfl)) (by (first | assumption | (simp only [z_nat, z_lit, ← Int32.ofInt_add, ← Int32.ofInt_sub, ← Int32.ofInt_mul]; exact congrArg Int32.ofInt (by omega)) | (simp only [z_nat, z_lit, ← Int32.ofInt_add, ← Int32.ofInt_sub, ← Int32.ofInt_mul]; done) | exact congrArg Int32.ofInt (by omega) | rfl))
set_option maxRecDepth 100000 in
set_option maxHeartbeats 4000000 in
theorem k2_entrantAt (g : g_A 43 M t n) {a : Int32} (i : Int) (hi : -2147483648 ≤ i ∧ i < 2147483648) (h1 : ∀ e, e < t 8 0 → (plN t n (toF t n) e : Int) = i → (∀ o, o < e → ¬ (plN t n (toF t n) o : Int) = i) → Q (some (.int (nI e))) M) (h0 : (∀ o, o < t 8 0 → ¬ (plN t n (toF t n) o : Int) = i) → Q (some (.int (Int32.ofInt (-1)))) M) (ha : a = Int32.ofInt i := by (first | assumption | (simp only [z_nat, z_lit, ← Int32.ofInt_add, ← Int32.ofInt_sub, ← Int32.ofInt_mul]; exact congrArg Int32.ofInt (by omega)) | (simp only [z_nat, z_lit, ← Int32.ofInt_add, ← Int32.ofInt_sub, ← Int32.ofInt_mul]; done) | exact congrArg Int32.ofInt (by omega) | rfl)) : q_C q_mt (L, xs, q_shp) E nX6_entrantAt (d + 3) 0 0 [.ref 242, .int (a)] M Q := by
  subst ha
  have h6 := g.R.e6
  have hrk : ∀ e, rkN t n (toF t n) e ≤ 7 := fun e => by
    have := fb_ct_le (fun o => ahd n (toF t n) o e) (t 8 0)
    unfold rkN
    omega
  have W := lp_up (W := fun k => (∀ o, o < k → ¬ (plN t n (toF t n) o : Int) = i) → ∀ v x y z, v = nI k → q_G q_mt (L, xs, q_shp) E nX6_entrantAt (d + 3) 0 0 (q_Q (L, xs, q_shp) E Q) 2 [some (.ref 242), some (.int (Int32.ofInt i)), some (.int (v)), x, y, z] [] M) (t 8 0) ?_ ?_ 0 (Nat.zero_le _)
  · refine w_in 90 [2] ?_
    exact W (fun o ho => by omega) _ _ _ _ rfl
  · rintro hno v x y z rfl
    refine w_at 90 [2, 27] ?_
    refine ⟨nI (t 8 0), g.eN, ?_⟩
    exact z_le (t 8 0) (t 8 0) (fun h => ⟨_, rfl, h0 hno⟩) (fun h => by omega)
  · rintro k hk ih hno v x y z rfl
    have W2 := lp_up (W := fun m => ∀ u w, u = nI (rkN t n (toF t n) k - 1 + fb_ct (fun o => decide (rkN t n (toF t n) o = rkN t n (toF t n) k)) m) → w = nI m → q_G q_mt (L, xs, q_shp) E nX6_entrantAt (d + 3) 0 0 (q_Q (L, xs, q_shp) E Q) 27 [some (.ref 242), some (.int (Int32.ofInt i)), some (.int (nI k)), some (.int (nI (rkN t n (toF t n) k))), some (.int (u)), some (.int (w))] [] M) k ?_ ?_ 0 (Nat.zero_le _)
    · refine w_at 90 [2, 27] ?_
      refine ⟨nI (t 8 0), g.eN, ?_⟩
      refine z_le (t 8 0) k (fun h => by omega) (fun h => ?_)
      refine k2_rankOf_43 g.Z k hk ?_
      refine W2 _ _ ?_ rfl
      have h1 : 1 ≤ rkN t n (toF t n) k := by unfold rkN; omega
      rw [show fb_ct (fun o => decide (rkN t n (toF t n) o = rkN t n (toF t n) k)) 0 = 0 from rfl]
      (first | assumption | (simp only [z_nat, z_lit, ← Int32.ofInt_add, ← Int32.ofInt_sub, ← Int32.ofInt_mul]; exact congrArg Int32.ofInt (by omega)) | (simp only [z_nat, z_lit, ← Int32.ofInt_add, ← Int32.ofInt_sub, ← Int32.ofInt_mul]; done) | exact congrArg Int32.ofInt (by omega) | rfl)
    · rintro u w rfl rfl
      have hc := fb_ct_le (fun o => decide (rkN t n (toF t n) o = rkN t n (toF t n) k)) k
      have hr := hrk k
      refine w_at 90 [2, 27] ?_
      refine z_le k k (fun h => ?_) (fun h => by omega)
      refine z_ne (plN t n (toF t n) k) i (fun h2 => ?_) (fun h2 => ⟨_, rfl, h1 k hk h2 hno⟩) (ha := by unfold plN; omega)
      refine ih (fun o ho => ?_) _ _ _ _ (by (first | assumption | (simp only [z_nat, z_lit, ← Int32.ofInt_add, ← Int32.ofInt_sub, ← Int32.ofInt_mul]; exact congrArg Int32.ofInt (by omega)) | (simp only [z_nat, z_lit, ← Int32.ofInt_add, ← Int32.ofInt_sub, ← Int32.ofInt_mul]; done) | exact congrArg Int32.ofInt (by omega) | rfl))
      by_cases q : o = k
      · subst q
        exact h2
      · exact hno o (by omega)
    · rintro m hm ih2 u w rfl rfl
      have hc := fb_ct_le (fun o => decide (rkN t n (toF t n) o = rkN t n (toF t n) k)) m
      have hr := hrk k
      have hr2 := hrk m
      refine w_at 90 [2, 27] ?_
      refine z_le k m (fun h => by omega) (fun h => ?_)
      refine k2_rankOf_43 g.Z m (by omega) ?_
      refine z_ne (rkN t n (toF t n) m) (rkN t n (toF t n) k) (fun h2 => ?_) (fun h2 => ?_)
      · exact ih2 _ _ (by rw [ct_f (p := fun o => decide (rkN t n (toF t n) o = rkN t n (toF t n) k)) (decide_eq_false (by omega))]) (by (first | assumption | (simp only [z_nat, z_lit, ← Int32.ofInt_add, ← Int32.ofInt_sub, ← Int32.ofInt_mul]; exact congrArg Int32.ofInt (by omega)) | (simp only [z_nat, z_lit, ← Int32.ofInt_add, ← Int32.ofInt_sub, ← Int32.ofInt_mul]; done) | exact congrArg Int32.ofInt (by omega) | rfl))
      · exact ih2 _ _ (by rw [ct_t (p := fun o => decide (rkN t n (toF t n) o = rkN t n (toF t n) k)) (decide_eq_true (by omega))]; (first | assumption | (simp only [z_nat, z_lit, ← Int32.ofInt_add, ← Int32.ofInt_sub, ← Int32.ofInt_mul]; exact congrArg Int32.ofInt (by omega)) | (simp only [z_nat, z_lit, ← Int32.ofInt_add, ← Int32.ofInt_sub, ← Int32.ofInt_mul]; done) | exact congrArg Int32.ofInt (by omega) | rfl)) (by (first | assumption | (simp only [z_nat, z_lit, ← Int32.ofInt_add, ← Int32.ofInt_sub, ← Int32.ofInt_mul]; exact congrArg Int32.ofInt (by omega)) | (simp only [z_nat, z_lit, ← Int32.ofInt_add, ← Int32.ofInt_sub, ← Int32.ofInt_mul]; done) | exact congrArg Int32.ofInt (by omega) | rfl))
end CS
