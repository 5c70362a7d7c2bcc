/-! the reference's small questions -/
section RG
variable {L : Nat} {xs : Nat → Int32} {E : q_E} {d : Nat} {M : q_M} {t : q_T} {n : sN} {Q : Option Value → q_M → Prop} {P : q_M → Prop}
set_option maxRecDepth 100000 in
set_option maxHeartbeats 4000000 in
theorem k_has {a b : Int32} (x : Int32) (k : Nat) (hk : k < 32) (h1 : bt x k = true → Q (some (.int 1)) M) (h0 : bt x k = false → Q (some (.int 0)) M) (ha : a = x := by (first | assumption | (simp only [z_nat, z_lit, ← Int32.ofInt_add, ← Int32.ofInt_sub, ← Int32.ofInt_mul]; exact congrArg Int32.ofInt (by omega)) | (simp only [z_nat, z_lit, ← Int32.ofInt_add, ← Int32.ofInt_sub, ← Int32.ofInt_mul]; done) | exact congrArg Int32.ofInt (by omega) | rfl)) (hb : b = nI k := by (first | assumption | (simp only [z_nat, z_lit, ← Int32.ofInt_add, ← Int32.ofInt_sub, ← Int32.ofInt_mul]; exact congrArg Int32.ofInt (by omega)) | (simp only [z_nat, z_lit, ← Int32.ofInt_add, ← Int32.ofInt_sub, ← Int32.ofInt_mul]; done) | exact congrArg Int32.ofInt (by omega) | rfl)) : q_C q_mt (L, xs, q_shp) E nX12_has (d) 0 0 [.int (a), .int (b)] M Q := by
  subst ha hb
  have e : (a >>> (nI k &&& 31) &&& Int32.ofInt 1 = Int32.ofInt 1) ↔ bt a k = true := by
    have e1 : bt (a >>> (nI k &&& 31) &&& Int32.ofInt 1) 0 = bt a k := by
      rw [b_and, b_sshr k hk a (by omega), if_pos (by omega), Nat.add_zero]
      have : bt (Int32.ofInt 1) 0 = true := by decide
      rw [this, Bool.and_true]
    constructor
    · intro h
      rw [h] at e1
      rw [← e1]
      decide
    · intro h
      apply b_ext
      intro i hi
      cases i with
      | zero => rw [e1, h]; decide
      | succ i =>
        have : ∀ i, i < 32 → ¬ i = 0 → bt (Int32.ofInt 1) i = false := by decide
        rw [b_and, this (i + 1) hi (by omega), Bool.and_false]
  refine w_in 90 [] ?_
  refine bn_2 (fun h => ⟨z_0, h0 ?_⟩) (fun h => ⟨z_1, h1 (e.mp h)⟩)
  cases hb : bt a k with
  | false => rfl
  | true => exact absurd (e.mpr hb) h
set_option maxRecDepth 100000 in
set_option maxHeartbeats 4000000 in
theorem k_lesser {x y : Int32} (a b : Int) (ha : -2147483648 ≤ a ∧ a < 2147483648) (hb : -2147483648 ≤ b ∧ b < 2147483648) (hQ : Q (some (.int (Int32.ofInt (min a b)))) M) (hx : x = Int32.ofInt a := by (first | assumption | (simp only [z_nat, z_lit, ← Int32.ofInt_add, ← Int32.ofInt_sub, ← Int32.ofInt_mul]; exact congrArg Int32.ofInt (by omega)) | (simp only [z_nat, z_lit, ← Int32.ofInt_add, ← Int32.ofInt_sub, ← Int32.ofInt_mul]; done) | exact congrArg Int32.ofInt (by omega) | rfl)) (hy : y = Int32.ofInt b := by (first | assumption | (simp only [z_nat, z_lit, ← Int32.ofInt_add, ← Int32.ofInt_sub, ← Int32.ofInt_mul]; exact congrArg Int32.ofInt (by omega)) | (simp only [z_nat, z_lit, ← Int32.ofInt_add, ← Int32.ofInt_sub, ← Int32.ofInt_mul]; done) | exact congrArg Int32.ofInt (by omega) | rfl)) : q_C q_mt (L, xs, q_shp) E nX12_lesser (d) 0 0 [.int (x), .int (y)] M Q := by
  subst hx hy
  refine w_in 90 [] ?_
  refine z_le b a (fun h => ?_) (fun h => ?_)
  · refine ⟨_, rfl, ?_⟩
    rw [Int.min_eq_right h] at hQ
    exact hQ
  · refine ⟨_, rfl, ?_⟩
    rw [Int.min_eq_left (by omega)] at hQ
    exact hQ
def clp (a : Int) : Int := if a < 0 then 0 else if 20 < a then 20 else a
set_option maxRecDepth 100000 in
set_option maxHeartbeats 4000000 in
theorem k_clipped {x : Int32} (a : Int) (ha : -2147483648 ≤ a ∧ a < 2147483648) (hQ : Q (some (.int (Int32.ofInt (clp a)))) M) (hx : x = Int32.ofInt a := by (first | assumption | (simp only [z_nat, z_lit, ← Int32.ofInt_add, ← Int32.ofInt_sub, ← Int32.ofInt_mul]; exact congrArg Int32.ofInt (by omega)) | (simp only [z_nat, z_lit, ← Int32.ofInt_add, ← Int32.ofInt_sub, ← Int32.ofInt_mul]; done) | exact congrArg Int32.ofInt (by omega) | rfl)) : q_C q_mt (L, xs, q_shp) E nX12_clipped (d) 0 0 [.int (x)] M Q := by
  subst hx
  unfold clp at hQ
  refine w_in 90 [] ?_
  refine z_le 0 a (fun h => ?_) (fun h => ?_)
  · rw [if_neg (by omega)] at hQ
    refine z_le a 20 (fun h2 => ?_) (fun h2 => ?_)
    · rw [if_neg (by omega)] at hQ
      exact ⟨_, rfl, hQ⟩
    · rw [if_pos h2] at hQ
      exact ⟨_, rfl, hQ⟩
  · rw [if_pos h] at hQ
    exact ⟨_, rfl, hQ⟩
set_option maxRecDepth 100000 in
set_option maxHeartbeats 4000000 in
theorem k_isPair (g : g_R M t n) {a : Int32} (e : Nat) (he : e < t 8 0) (h1 : t 9 e = 1 → Q (some (.int 1)) M) (h0 : ¬ t 9 e = 1 → Q (some (.int 0)) M) (ha : a = nI e := by (first | assumption | (simp only [z_nat, z_lit, ← Int32.ofInt_add, ← Int32.ofInt_sub, ← Int32.ofInt_mul]; exact congrArg Int32.ofInt (by omega)) | (simp only [z_nat, z_lit, ← Int32.ofInt_add, ← Int32.ofInt_sub, ← Int32.ofInt_mul]; done) | exact congrArg Int32.ofInt (by omega) | rfl)) : q_C q_mt (L, xs, q_shp) E nX12_isPair (d) 0 0 [.ref 271, .int (a)] M Q := by
  subst ha
  have h6 := g.e6
  have hb := g.be he
  refine w_in 90 [] ?_
  refine ⟨50 + 2 * e, nI (t 9 e), by (first | assumption | (simp only [z_nat, z_lit, ← Int32.ofInt_add, ← Int32.ofInt_sub, ← Int32.ofInt_mul]; exact congrArg Int32.ofInt (by omega)) | (simp only [z_nat, z_lit, ← Int32.ofInt_add, ← Int32.ofInt_sub, ← Int32.ofInt_mul]; done) | exact congrArg Int32.ofInt (by omega) | rfl), by (dsimp only; omega), (g.en he).1, ?_⟩
  exact z_ne (t 9 e) 1 (fun h => ⟨z_0, h0 (by omega)⟩) (fun h => ⟨z_1, h1 (by omega)⟩)
set_option maxRecDepth 100000 in
set_option maxHeartbeats 4000000 in
theorem k_groupOf (g : g_R M t n) {a : Int32} (i : Nat) (hi : i < t 5 0) (hQ : Q (some (.int (nI (t 6 i)))) M) (ha : a = nI i := by (first | assumption | (simp only [z_nat, z_lit, ← Int32.ofInt_add, ← Int32.ofInt_sub, ← Int32.ofInt_mul]; exact congrArg Int32.ofInt (by omega)) | (simp only [z_nat, z_lit, ← Int32.ofInt_add, ← Int32.ofInt_sub, ← Int32.ofInt_mul]; done) | exact congrArg Int32.ofInt (by omega) | rfl)) : q_C q_mt (L, xs, q_shp) E nX12_groupOf (d) 0 0 [.ref 271, .int (a)] M Q := by
  subst ha
  have h6 := g.d10
  refine w_in 90 [] ?_
  refine ⟨30 + 2 * i, nI (t 6 i), by (first | assumption | (simp only [z_nat, z_lit, ← Int32.ofInt_add, ← Int32.ofInt_sub, ← Int32.ofInt_mul]; exact congrArg Int32.ofInt (by omega)) | (simp only [z_nat, z_lit, ← Int32.ofInt_add, ← Int32.ofInt_sub, ← Int32.ofInt_mul]; done) | exact congrArg Int32.ofInt (by omega) | rfl), by (dsimp only; omega), (g.di hi).1, ?_⟩
  exact ⟨_, rfl, hQ⟩
set_option maxRecDepth 100000 in
set_option maxHeartbeats 4000000 in
theorem k_degreeOf (g : g_R M t n) {a : Int32} (i : Nat) (hi : i < t 5 0) (hQ : Q (some (.int (nI (t 7 i)))) M) (ha : a = nI i := by (first | assumption | (simp only [z_nat, z_lit, ← Int32.ofInt_add, ← Int32.ofInt_sub, ← Int32.ofInt_mul]; exact congrArg Int32.ofInt (by omega)) | (simp only [z_nat, z_lit, ← Int32.ofInt_add, ← Int32.ofInt_sub, ← Int32.ofInt_mul]; done) | exact congrArg Int32.ofInt (by omega) | rfl)) : q_C q_mt (L, xs, q_shp) E nX12_degreeOf (d) 0 0 [.ref 271, .int (a)] M Q := by
  subst ha
  have h6 := g.d10
  refine w_in 90 [] ?_
  refine ⟨31 + 2 * i, nI (t 7 i), by (first | assumption | (simp only [z_nat, z_lit, ← Int32.ofInt_add, ← Int32.ofInt_sub, ← Int32.ofInt_mul]; exact congrArg Int32.ofInt (by omega)) | (simp only [z_nat, z_lit, ← Int32.ofInt_add, ← Int32.ofInt_sub, ← Int32.ofInt_mul]; done) | exact congrArg Int32.ofInt (by omega) | rfl), by (dsimp only; omega), (g.di hi).2, ?_⟩
  exact ⟨_, rfl, hQ⟩
set_option maxRecDepth 100000 in
set_option maxHeartbeats 4000000 in
theorem k_sortOf (g : g_R M t n) {a : Int32} (j : Nat) (hj : j < t 2 0) (hQ : Q (some (.int (nI (t 4 j)))) M) (ha : a = nI j := by (first | assumption | (simp only [z_nat, z_lit, ← Int32.ofInt_add, ← Int32.ofInt_sub, ← Int32.ofInt_mul]; exact congrArg Int32.ofInt (by omega)) | (simp only [z_nat, z_lit, ← Int32.ofInt_add, ← Int32.ofInt_sub, ← Int32.ofInt_mul]; done) | exact congrArg Int32.ofInt (by omega) | rfl)) : q_C q_mt (L, xs, q_shp) E nX12_sortOf (d) 0 0 [.ref 271, .int (a)] M Q := by
  subst ha
  have h6 := g.j11
  refine w_in 90 [] ?_
  refine ⟨9 + 2 * j, nI (t 4 j), by (first | assumption | (simp only [z_nat, z_lit, ← Int32.ofInt_add, ← Int32.ofInt_sub, ← Int32.ofInt_mul]; exact congrArg Int32.ofInt (by omega)) | (simp only [z_nat, z_lit, ← Int32.ofInt_add, ← Int32.ofInt_sub, ← Int32.ofInt_mul]; done) | exact congrArg Int32.ofInt (by omega) | rfl), by (dsimp only; omega), (g.ju hj).2, ?_⟩
  exact ⟨_, rfl, hQ⟩
set_option maxRecDepth 100000 in
set_option maxHeartbeats 4000000 in
theorem k_judges (g : g_R M t n) {a b : Int32} (j e : Nat) (hj : j < t 2 0) (he : e < t 8 0) (h1 : onP t j e = true → Q (some (.int 1)) M) (h0 : onP t j e = false → Q (some (.int 0)) M) (ha : a = nI j := by (first | assumption | (simp only [z_nat, z_lit, ← Int32.ofInt_add, ← Int32.ofInt_sub, ← Int32.ofInt_mul]; exact congrArg Int32.ofInt (by omega)) | (simp only [z_nat, z_lit, ← Int32.ofInt_add, ← Int32.ofInt_sub, ← Int32.ofInt_mul]; done) | exact congrArg Int32.ofInt (by omega) | rfl)) (hb : b = nI e := by (first | assumption | (simp only [z_nat, z_lit, ← Int32.ofInt_add, ← Int32.ofInt_sub, ← Int32.ofInt_mul]; exact congrArg Int32.ofInt (by omega)) | (simp only [z_nat, z_lit, ← Int32.ofInt_add, ← Int32.ofInt_sub, ← Int32.ofInt_mul]; done) | exact congrArg Int32.ofInt (by omega) | rfl)) : q_C q_mt (L, xs, q_shp) E nX12_judges (d + 1) 0 0 [.ref 271, .int (a), .int (b)] M Q := by
  subst ha hb
  have h4 := g.bj hj
  unfold onP at h1 h0
  refine w_in 90 [] ?_
  refine k_isPair g e he (fun h => ?_) (fun h => ?_)
  · refine k_sortOf g j hj ?_
    refine z_le (t 4 j) 0 (fun h2 => ?_) (fun h2 => ?_)
    · refine bn_t (by decide) ⟨z_0, h0 ?_⟩
      rw [decide_eq_true h, decide_eq_false (by omega)]; rfl
    · refine bn_f (by decide) ⟨z_1, h1 ?_⟩
      rw [decide_eq_true h, decide_eq_true (by omega)]; rfl
  · refine k_sortOf g j hj ?_
    refine z_le (t 4 j) 0 (fun h2 => ?_) (fun h2 => ?_)
    · refine bn_f (by decide) ⟨z_1, h1 ?_⟩
      rw [decide_eq_false h, decide_eq_false (by omega)]; rfl
    · refine bn_t (by decide) ⟨z_0, h0 ?_⟩
      rw [decide_eq_false h, decide_eq_true (by omega)]; rfl
/-- how many are of an entrant's panel -/
def pnN (t : q_T) (e : Nat) : Nat := fb_ct (fun j => onP t j e) (t 2 0)
theorem ct_le11 (g : g_R M t n) (p : Nat → Bool) {k : Nat} (h : k ≤ t 2 0) : fb_ct p k ≤ 11 := Nat.le_trans (fb_ct_le p k) (Nat.le_trans h g.j11)
set_option maxRecDepth 100000 in
set_option maxHeartbeats 4000000 in
theorem k_judgesMany (g : g_R M t n) {a : Int32} (e : Nat) (he : e < t 8 0) (hQ : Q (some (.int (nI (pnN t e)))) M) (ha : a = nI e := by (first | assumption | (simp only [z_nat, z_lit, ← Int32.ofInt_add, ← Int32.ofInt_sub, ← Int32.ofInt_mul]; exact congrArg Int32.ofInt (by omega)) | (simp only [z_nat, z_lit, ← Int32.ofInt_add, ← Int32.ofInt_sub, ← Int32.ofInt_mul]; done) | exact congrArg Int32.ofInt (by omega) | rfl)) : q_C q_mt (L, xs, q_shp) E nX12_judgesMany (d + 2) 0 0 [.ref 271, .int (a)] M Q := by
  subst ha
  have h11 := g.j11
  have W := lp_up (W := fun k => ∀ u v, u = nI (fb_ct (fun j => onP t j e) k) → v = nI k → q_G q_mt (L, xs, q_shp) E nX12_judgesMany (d + 2) 0 0 (q_Q (L, xs, q_shp) E Q) 4 [some (.ref 271), some (.int (nI e)), some (.int (u)), some (.int (v))] [] M) (t 2 0) ?_ ?_ 0 (Nat.zero_le _)
  · refine w_in 90 [4] ?_
    exact W _ _ rfl rfl
  · rintro u v rfl rfl
    refine w_at 90 [4] ?_
    refine ⟨2, nI (t 2 0), by (first | assumption | (simp only [z_nat, z_lit, ← Int32.ofInt_add, ← Int32.ofInt_sub, ← Int32.ofInt_mul]; exact congrArg Int32.ofInt (by omega)) | (simp only [z_nat, z_lit, ← Int32.ofInt_add, ← Int32.ofInt_sub, ← Int32.ofInt_mul]; done) | exact congrArg Int32.ofInt (by omega) | rfl), by (dsimp only; omega), g.R2, ?_⟩
    refine z_le (t 2 0) (t 2 0) (fun h => ⟨_, rfl, hQ⟩) (fun h => by omega)
  · rintro k hk ih u v rfl rfl
    have hc := ct_le11 g (fun j => onP t j e) (Nat.le_of_lt hk)
    refine w_at 90 [4] ?_
    refine ⟨2, nI (t 2 0), by (first | assumption | (simp only [z_nat, z_lit, ← Int32.ofInt_add, ← Int32.ofInt_sub, ← Int32.ofInt_mul]; exact congrArg Int32.ofInt (by omega)) | (simp only [z_nat, z_lit, ← Int32.ofInt_add, ← Int32.ofInt_sub, ← Int32.ofInt_mul]; done) | exact congrArg Int32.ofInt (by omega) | rfl), by (dsimp only; omega), g.R2, ?_⟩
    refine z_le (t 2 0) k (fun h => by omega) (fun h => ?_)
    refine k_judges g k e hk he (fun h1 => br_f (by decide) ?_) (fun h1 => br_t (by decide) ?_)
    · exact ih _ _ (by rw [ct_t (p := fun j => onP t j e) h1]; (first | assumption | (simp only [z_nat, z_lit, ← Int32.ofInt_add, ← Int32.ofInt_sub, ← Int32.ofInt_mul]; exact congrArg Int32.ofInt (by omega)) | (simp only [z_nat, z_lit, ← Int32.ofInt_add, ← Int32.ofInt_sub, ← Int32.ofInt_mul]; done) | exact congrArg Int32.ofInt (by omega) | rfl)) (by (first | assumption | (simp only [z_nat, z_lit, ← Int32.ofInt_add, ← Int32.ofInt_sub, ← Int32.ofInt_mul]; exact congrArg Int32.ofInt (by omega)) | (simp only [z_nat, z_lit, ← Int32.ofInt_add, ← Int32.ofInt_sub, ← Int32.ofInt_mul]; done) | exact congrArg Int32.ofInt (by omega) | rfl))
    · exact ih _ _ (by rw [ct_f (p := fun j => onP t j e) h1]; (first | assumption | (simp only [z_nat, z_lit, ← Int32.ofInt_add, ← Int32.ofInt_sub, ← Int32.ofInt_mul]; exact congrArg Int32.ofInt (by omega)) | (simp only [z_nat, z_lit, ← Int32.ofInt_add, ← Int32.ofInt_sub, ← Int32.ofInt_mul]; done) | exact congrArg Int32.ofInt (by omega) | rfl)) (by (first | assumption | (simp only [z_nat, z_lit, ← Int32.ofInt_add, ← Int32.ofInt_sub, ← Int32.ofInt_mul]; exact congrArg Int32.ofInt (by omega)) | (simp only [z_nat, z_lit, ← Int32.ofInt_add, ← Int32.ofInt_sub, ← Int32.ofInt_mul]; done) | exact congrArg Int32.ofInt (by omega) | rfl))
end RG
