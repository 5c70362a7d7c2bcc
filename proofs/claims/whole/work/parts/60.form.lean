/-! points by form; the calls points, total, worth, look, board, marked, needs, expected, goes -/
def apt (t : q_T) (a : Int) (i : Nat) : Int := a * 15 * (t 7 i : Int)
def faw (t : q_T) (e i : Nat) : Int := clp ((t 12 (6 * e + (t 6 i - 1)) : Int) - ((t 7 i : Int) - 20).tdiv 5)
def fpt (t : q_T) (e i : Nat) : Int := apt t (faw t e i) i
def fta (t : q_T) (n : sN) (e r : Nat) : Int := if n (576 + (6 * e + r)) = 1 then 0 else fpt t e (n (6 * e + r)).toNat
def ftN (t : q_T) (n : sN) (e k : Nat) : Int := toE t n e (t 1 0) (-1) + fb_si (fta t n e) k
theorem apt_b {t : q_T} {a : Int} {i : Nat} (ha : 0 ≤ a ∧ a ≤ 20) (hd : t 7 i ≤ 60) : 0 ≤ apt t a i ∧ apt t a i ≤ 18000 := by
  unfold apt
  have h1 : 0 ≤ a * 15 := by omega
  have h2 : a * 15 ≤ 300 := by omega
  have h3 : (0 : Int) ≤ (t 7 i : Int) := Int.natCast_nonneg _
  refine ⟨Int.mul_nonneg h1 h3, ?_⟩
  have h4 := Int.mul_le_mul h2 (show (t 7 i : Int) ≤ 60 by omega) h3 (by decide)
  omega
theorem faw_b {t : q_T} {e i : Nat} : 0 ≤ faw t e i ∧ faw t e i ≤ 20 := clp_le _
theorem fdv : ∀ k : Nat, k < 61 → 10 ≤ k → (nI k - Int32.ofInt 20) / Int32.ofInt 5 = Int32.ofInt (((k : Int) - 20).tdiv 5) := by decide +kernel
theorem fdb : ∀ k : Nat, k < 61 → 10 ≤ k → -2 ≤ ((k : Int) - 20).tdiv 5 ∧ ((k : Int) - 20).tdiv 5 ≤ 8 := by decide +kernel
theorem fta_b {c : Nat} {M : q_M} {t : q_T} {n : sN} (g : g_A c M t n) {e r : Nat} (he : e < t 8 0) (hr : r < t 0 0) : 0 ≤ fta t n e r ∧ fta t n e r ≤ 18000 := by
  have hs := (g.R.bs he hr).1
  unfold fta
  split
  · omega
  · exact apt_b faw_b (g.R.bd (show (n (6 * e + r)).toNat < t 5 0 by omega)).2.2.2
theorem ftN_b {c : Nat} {M : q_M} {t : q_T} {n : sN} (g : g_A c M t n) {e k : Nat} (he : e < t 8 0) (hk : k ≤ t 0 0) : 0 ≤ ftN t n e k ∧ ftN t n e k ≤ 216000 := by
  have h1 := toE_b g.R (dr := t 1 0) (bar := -1) he
  have h2 := si_b (f := fta t n e) (c := 18000) (k := k) (fun r hr => fta_b g he (by omega))
  have h6 := g.R.r6
  unfold ftN
  omega
/-- what is known of who is at the board -/
def b_D (t : q_T) (n : sN) : Prop := (n 633 = 0 ∨ n 633 = 1) ∧ (t 0 0 = 0 → n 633 = 0) ∧ (isB t n → ∃ e r, b_B t n e r ∧ inE n e = true)
theorem brd_no {t : q_T} {n : sN} (h : ¬ isB t n) : brd t n = -1 := by
  unfold brd
  rw [if_pos]
  unfold isB at h
  by_cases q : t 0 0 = 0
  · exact Or.inl q
  · exact Or.inr (Classical.byContradiction (fun z => h ⟨q, z⟩))
theorem brd_at {t : q_T} {n : sN} {e r : Nat} (h : b_B t n e r) : brd t n = e := by
  unfold brd
  rw [if_neg (fun z => z.elim h.1.1 h.1.2)]
  exact h.2.2.2.2.2.2
section FM
variable {L : Nat} {xs : Nat → Int32} {E : q_E} {d : Nat} {M : q_M} {t : q_T} {n : sN} {Q : Option Value → q_M → Prop} {P : q_M → Prop}
set_option maxRecDepth 100000 in
set_option maxHeartbeats 4000000 in
theorem k2_pointsAlike {c : Nat} (g : g_Z c M t n) {a b : Int32} (i : Nat) (w : Int) (hi : i < t 5 0) (hQ : Q (some (.int (Int32.ofInt (apt t w i)))) M) (ha : a = nI i := by (first | assumption | (simp only [z_nat, z_lit, ← Int32.ofInt_add, ← Int32.ofInt_sub, ← Int32.ofInt_mul]; exact congrArg Int32.ofInt (by omega)) | (simp only [z_nat, z_lit, ← Int32.ofInt_add, ← Int32.ofInt_sub, ← Int32.ofInt_mul]; done) | exact congrArg Int32.ofInt (by omega) | rfl)) (hb : b = Int32.ofInt w := by (first | assumption | (simp only [z_nat, z_lit, ← Int32.ofInt_add, ← Int32.ofInt_sub, ← Int32.ofInt_mul]; exact congrArg Int32.ofInt (by omega)) | (simp only [z_nat, z_lit, ← Int32.ofInt_add, ← Int32.ofInt_sub, ← Int32.ofInt_mul]; done) | exact congrArg Int32.ofInt (by omega) | rfl)) : q_C q_mt (L, xs, q_shp) E nX2_pointsAlike (d) 0 0 [.ref 6, .int (a), .int (b)] M Q := by
  subst ha hb
  have h6 := g.R.d10
  refine w_in 90 [] ?_
  refine ⟨i, _, by (first | assumption | (simp only [z_nat, z_lit, ← Int32.ofInt_add, ← Int32.ofInt_sub, ← Int32.ofInt_mul]; exact congrArg Int32.ofInt (by omega)) | (simp only [z_nat, z_lit, ← Int32.ofInt_add, ← Int32.ofInt_sub, ← Int32.ofInt_mul]; done) | exact congrArg Int32.ofInt (by omega) | rfl), by (dsimp only; omega), (g.di hi).2, ?_⟩
  refine ⟨_, ?_, hQ⟩
  unfold apt
  (first | assumption | (simp only [z_nat, z_lit, ← Int32.ofInt_add, ← Int32.ofInt_sub, ← Int32.ofInt_mul]; exact congrArg Int32.ofInt (by omega)) | (simp only [z_nat, z_lit, ← Int32.ofInt_add, ← Int32.ofInt_sub, ← Int32.ofInt_mul]; done) | exact congrArg Int32.ofInt (by omega) | rfl)
set_option maxRecDepth 100000 in
set_option maxHeartbeats 4000000 in
theorem k2_awardByForm {c : Nat} (g : g_Z c M t n) {a b : Int32} (e i : Nat) (he : e < t 8 0) (hi : i < t 5 0) (hQ : Q (some (.int (Int32.ofInt (faw t e i)))) M) (ha : a = nI e := by (first | assumption | (simp only [z_nat, z_lit, ← Int32.ofInt_add, ← Int32.ofInt_sub, ← Int32.ofInt_mul]; exact congrArg Int32.ofInt (by omega)) | (simp only [z_nat, z_lit, ← Int32.ofInt_add, ← Int32.ofInt_sub, ← Int32.ofInt_mul]; done) | exact congrArg Int32.ofInt (by omega) | rfl)) (hb : b = nI i := by (first | assumption | (simp only [z_nat, z_lit, ← Int32.ofInt_add, ← Int32.ofInt_sub, ← Int32.ofInt_mul]; exact congrArg Int32.ofInt (by omega)) | (simp only [z_nat, z_lit, ← Int32.ofInt_add, ← Int32.ofInt_sub, ← Int32.ofInt_mul]; done) | exact congrArg Int32.ofInt (by omega) | rfl)) : q_C q_mt (L, xs, q_shp) E nX2_awardByForm (d + 1) 0 0 [.ref 6, .int (a), .int (b)] M Q := by
  subst ha hb
  have h6 := g.R.d10
  have h7 := g.R.e6
  have hd := g.R.bd hi
  have hf := g.R.b2.1 e he (t 6 i - 1) (by omega)
  have hq := fdb (t 7 i) (by omega) hd.2.2.1
  refine w_in 90 [] ?_
  refine ⟨i, _, by (first | assumption | (simp only [z_nat, z_lit, ← Int32.ofInt_add, ← Int32.ofInt_sub, ← Int32.ofInt_mul]; exact congrArg Int32.ofInt (by omega)) | (simp only [z_nat, z_lit, ← Int32.ofInt_add, ← Int32.ofInt_sub, ← Int32.ofInt_mul]; done) | exact congrArg Int32.ofInt (by omega) | rfl), by (dsimp only; omega), (g.di hi).1, ?_⟩
  refine ⟨6 * e + (t 6 i - 1), _, by (first | assumption | (simp only [z_nat, z_lit, ← Int32.ofInt_add, ← Int32.ofInt_sub, ← Int32.ofInt_mul]; exact congrArg Int32.ofInt (by omega)) | (simp only [z_nat, z_lit, ← Int32.ofInt_add, ← Int32.ofInt_sub, ← Int32.ofInt_mul]; done) | exact congrArg Int32.ofInt (by omega) | rfl), by (dsimp only; omega), g.fo he (show t 6 i - 1 < 6 by omega), ?_⟩
  refine ⟨i, _, by (first | assumption | (simp only [z_nat, z_lit, ← Int32.ofInt_add, ← Int32.ofInt_sub, ← Int32.ofInt_mul]; exact congrArg Int32.ofInt (by omega)) | (simp only [z_nat, z_lit, ← Int32.ofInt_add, ← Int32.ofInt_sub, ← Int32.ofInt_mul]; done) | exact congrArg Int32.ofInt (by omega) | rfl), by (dsimp only; omega), (g.di hi).2, ?_⟩
  refine And.intro (by decide) ?_
  rw [fdv (t 7 i) (by omega) hd.2.2.1]
  have e1 : nI (t 12 (6 * e + (t 6 i - 1))) - Int32.ofInt (((t 7 i : Int) - 20).tdiv 5) = Int32.ofInt ((t 12 (6 * e + (t 6 i - 1)) : Int) - ((t 7 i : Int) - 20).tdiv 5) := by (first | assumption | (simp only [z_nat, z_lit, ← Int32.ofInt_add, ← Int32.ofInt_sub, ← Int32.ofInt_mul]; exact congrArg Int32.ofInt (by omega)) | (simp only [z_nat, z_lit, ← Int32.ofInt_add, ← Int32.ofInt_sub, ← Int32.ofInt_mul]; done) | exact congrArg Int32.ofInt (by omega) | rfl)
  refine ⟨_, ?_, hQ⟩
  unfold faw clp
  rw [e1]
  have zt : ∀ x y : Int, (-2147483648 ≤ x ∧ x < 2147483648) → (-2147483648 ≤ y ∧ y < 2147483648) → (Int32.ofInt x < Int32.ofInt y ↔ x < y) := fun x y hx hy => by rw [Int32.lt_iff_toInt_lt, z_toInt hx, z_toInt hy]
  by_cases q : (t 12 (6 * e + (t 6 i - 1)) : Int) - ((t 7 i : Int) - 20).tdiv 5 < 20
  · rw [if_pos ((zt _ 20 (by omega) (by omega)).mpr q)]
    by_cases q2 : 0 < (t 12 (6 * e + (t 6 i - 1)) : Int) - ((t 7 i : Int) - 20).tdiv 5
    · rw [if_pos ((zt 0 _ (by omega) (by omega)).mpr q2), if_neg (by omega), if_neg (by omega)]
    · rw [if_neg (fun z => q2 ((zt 0 _ (by omega) (by omega)).mp z))]
      by_cases q3 : (t 12 (6 * e + (t 6 i - 1)) : Int) - ((t 7 i : Int) - 20).tdiv 5 < 0
      · rw [if_pos q3]
      · rw [if_neg q3, if_neg (by omega)]
        exact congrArg Int32.ofInt (by omega)
  · rw [if_neg (fun z => q ((zt _ 20 (by omega) (by omega)).mp z)), if_pos (show Int32.ofInt 0 < Int32.ofInt 20 by decide), if_neg (by omega)]
    by_cases q4 : 20 < (t 12 (6 * e + (t 6 i - 1)) : Int) - ((t 7 i : Int) - 20).tdiv 5
    · rw [if_pos q4]
    · rw [if_neg q4, show (t 12 (6 * e + (t 6 i - 1)) : Int) - ((t 7 i : Int) - 20).tdiv 5 = 20 by omega]
set_option maxRecDepth 100000 in
set_option maxHeartbeats 4000000 in
theorem k2_pointsByForm {c : Nat} (g : g_Z c M t n) {a b : Int32} (e i : Nat) (he : e < t 8 0) (hi : i < t 5 0) (hQ : Q (some (.int (Int32.ofInt (fpt t e i)))) M) (ha : a = nI e := by (first | assumption | (simp only [z_nat, z_lit, ← Int32.ofInt_add, ← Int32.ofInt_sub, ← Int32.ofInt_mul]; exact congrArg Int32.ofInt (by omega)) | (simp only [z_nat, z_lit, ← Int32.ofInt_add, ← Int32.ofInt_sub, ← Int32.ofInt_mul]; done) | exact congrArg Int32.ofInt (by omega) | rfl)) (hb : b = nI i := by (first | assumption | (simp only [z_nat, z_lit, ← Int32.ofInt_add, ← Int32.ofInt_sub, ← Int32.ofInt_mul]; exact congrArg Int32.ofInt (by omega)) | (simp only [z_nat, z_lit, ← Int32.ofInt_add, ← Int32.ofInt_sub, ← Int32.ofInt_mul]; done) | exact congrArg Int32.ofInt (by omega) | rfl)) : q_C q_mt (L, xs, q_shp) E nX2_pointsByForm (d + 2) 0 0 [.ref 6, .int (a), .int (b)] M Q := by
  subst ha hb
  refine w_in 90 [] ?_
  refine k2_awardByForm g.Z e i he hi ?_
  exact k2_pointsAlike g.Z i (faw t e i) hi ⟨_, rfl, hQ⟩
set_option maxRecDepth 100000 in
set_option maxHeartbeats 4000000 in
theorem k_alikePoints {a b : Int32} (w : Int) (i : Nat) (hQ : Q (some (.int (Int32.ofInt (apt t w i)))) M) (ha : a = Int32.ofInt w := by (first | assumption | (simp only [z_nat, z_lit, ← Int32.ofInt_add, ← Int32.ofInt_sub, ← Int32.ofInt_mul]; exact congrArg Int32.ofInt (by omega)) | (simp only [z_nat, z_lit, ← Int32.ofInt_add, ← Int32.ofInt_sub, ← Int32.ofInt_mul]; done) | exact congrArg Int32.ofInt (by omega) | rfl)) (hb : b = nI (t 7 i) := by (first | assumption | (simp only [z_nat, z_lit, ← Int32.ofInt_add, ← Int32.ofInt_sub, ← Int32.ofInt_mul]; exact congrArg Int32.ofInt (by omega)) | (simp only [z_nat, z_lit, ← Int32.ofInt_add, ← Int32.ofInt_sub, ← Int32.ofInt_mul]; done) | exact congrArg Int32.ofInt (by omega) | rfl)) : q_C q_mt (L, xs, q_shp) E nX12_alikePoints (d) 0 0 [.int (a), .int (b)] M Q := by
  subst ha hb
  refine w_in 90 [] ?_
  refine ⟨_, ?_, hQ⟩
  unfold apt
  (first | assumption | (simp only [z_nat, z_lit, ← Int32.ofInt_add, ← Int32.ofInt_sub, ← Int32.ofInt_mul]; exact congrArg Int32.ofInt (by omega)) | (simp only [z_nat, z_lit, ← Int32.ofInt_add, ← Int32.ofInt_sub, ← Int32.ofInt_mul]; done) | exact congrArg Int32.ofInt (by omega) | rfl)
set_option maxRecDepth 100000 in
set_option maxHeartbeats 4000000 in
theorem k_formAward (g : g_R M t n) {a b : Int32} (e i : Nat) (he : e < t 8 0) (hi : i < t 5 0) (hQ : Q (some (.int (Int32.ofInt (faw t e i)))) M) (ha : a = nI e := by (first | assumption | (simp only [z_nat, z_lit, ← Int32.ofInt_add, ← Int32.ofInt_sub, ← Int32.ofInt_mul]; exact congrArg Int32.ofInt (by omega)) | (simp only [z_nat, z_lit, ← Int32.ofInt_add, ← Int32.ofInt_sub, ← Int32.ofInt_mul]; done) | exact congrArg Int32.ofInt (by omega) | rfl)) (hb : b = nI i := by (first | assumption | (simp only [z_nat, z_lit, ← Int32.ofInt_add, ← Int32.ofInt_sub, ← Int32.ofInt_mul]; exact congrArg Int32.ofInt (by omega)) | (simp only [z_nat, z_lit, ← Int32.ofInt_add, ← Int32.ofInt_sub, ← Int32.ofInt_mul]; done) | exact congrArg Int32.ofInt (by omega) | rfl)) : q_C q_mt (L, xs, q_shp) E nX12_formAward (d + 1) 0 0 [.ref 271, .int (a), .int (b)] M Q := by
  subst ha hb
  have h6 := g.d10
  have h7 := g.e6
  have hd := g.bd hi
  have hf := g.b2.1 e he (t 6 i - 1) (by omega)
  have hq := fdb (t 7 i) (by omega) hd.2.2.1
  unfold faw at hQ
  refine w_in 90 [] ?_
  refine k_groupOf g i hi ?_
  refine ⟨98 + (6 * e + (t 6 i - 1)), _, by (first | assumption | (simp only [z_nat, z_lit, ← Int32.ofInt_add, ← Int32.ofInt_sub, ← Int32.ofInt_mul]; exact congrArg Int32.ofInt (by omega)) | (simp only [z_nat, z_lit, ← Int32.ofInt_add, ← Int32.ofInt_sub, ← Int32.ofInt_mul]; done) | exact congrArg Int32.ofInt (by omega) | rfl), by (dsimp only; omega), g.fo he (show t 6 i - 1 < 6 by omega), ?_⟩
  refine k_degreeOf g i hi ?_
  refine And.intro (by decide) ?_
  rw [fdv (t 7 i) (by omega) hd.2.2.1]
  exact k_clipped ((t 12 (6 * e + (t 6 i - 1)) : Int) - ((t 7 i : Int) - 20).tdiv 5) (by omega) ⟨_, rfl, hQ⟩
set_option maxRecDepth 100000 in
set_option maxHeartbeats 4000000 in
theorem k_formPoints (g : g_R M t n) {a b : Int32} (e i : Nat) (he : e < t 8 0) (hi : i < t 5 0) (hQ : Q (some (.int (Int32.ofInt (fpt t e i)))) M) (ha : a = nI e := by (first | assumption | (simp only [z_nat, z_lit, ← Int32.ofInt_add, ← Int32.ofInt_sub, ← Int32.ofInt_mul]; exact congrArg Int32.ofInt (by omega)) | (simp only [z_nat, z_lit, ← Int32.ofInt_add, ← Int32.ofInt_sub, ← Int32.ofInt_mul]; done) | exact congrArg Int32.ofInt (by omega) | rfl)) (hb : b = nI i := by (first | assumption | (simp only [z_nat, z_lit, ← Int32.ofInt_add, ← Int32.ofInt_sub, ← Int32.ofInt_mul]; exact congrArg Int32.ofInt (by omega)) | (simp only [z_nat, z_lit, ← Int32.ofInt_add, ← Int32.ofInt_sub, ← Int32.ofInt_mul]; done) | exact congrArg Int32.ofInt (by omega) | rfl)) : q_C q_mt (L, xs, q_shp) E nX12_formPoints (d + 2) 0 0 [.ref 271, .int (a), .int (b)] M Q := by
  subst ha hb
  refine w_in 90 [] ?_
  refine k_formAward g e i he hi ?_
  refine k_degreeOf g i hi ?_
  exact k_alikePoints (faw t e i) i ⟨_, rfl, hQ⟩
theorem dv_i {c : Nat} (g : g_Z c M t n) {e r : Nat} (he : e < t 8 0) (hr : r < t 0 0) : Int32.ofInt (n (6 * e + r)) = nI (n (6 * e + r)).toNat ∧ (n (6 * e + r)).toNat < t 5 0 := by
  have hs := (g.R.bs he hr).1
  refine ⟨?_, by omega⟩
  rw [z_nat]
  exact congrArg Int32.ofInt (by omega)
set_option maxRecDepth 100000 in
set_option maxHeartbeats 4000000 in
theorem k2_totalByForm (g : g_A 43 M t n) {a b : Int32} (e k : Nat) (he : e < t 8 0) (hk : k ≤ t 0 0) (hQ : Q (some (.int (Int32.ofInt (ftN t n e k)))) M) (ha : a = nI e := by (first | assumption | (simp only [z_nat, z_lit, ← Int32.ofInt_add, ← Int32.ofInt_sub, ← Int32.ofInt_mul]; exact congrArg Int32.ofInt (by omega)) | (simp only [z_nat, z_lit, ← Int32.ofInt_add, ← Int32.ofInt_sub, ← Int32.ofInt_mul]; done) | exact congrArg Int32.ofInt (by omega) | rfl)) (hb : b = nI k := by (first | assumption | (simp only [z_nat, z_lit, ← Int32.ofInt_add, ← Int32.ofInt_sub, ← Int32.ofInt_mul]; exact congrArg Int32.ofInt (by omega)) | (simp only [z_nat, z_lit, ← Int32.ofInt_add, ← Int32.ofInt_sub, ← Int32.ofInt_mul]; done) | exact congrArg Int32.ofInt (by omega) | rfl)) : q_C q_mt (L, xs, q_shp) E nX4_totalByForm (d + 3) 0 0 [.ref 256, .int (a), .int (b)] M Q := by
  subst ha hb
  have h6 := g.R.e6
  have h7 := g.R.r6
  have W := lp_up (W := fun r => ∀ u v, u = Int32.ofInt (ftN t n e r) → v = nI (r + 1) → q_G q_mt (L, xs, q_shp) E nX4_totalByForm (d + 3) 0 0 (q_Q (L, xs, q_shp) E Q) 13 [some (.ref 256), some (.int (nI e)), some (.int (nI k)), some (.int (u)), some (.int (v))] [] M) k ?_ ?_ 0 (Nat.zero_le _)
  · refine w_in 90 [13] ?_
    refine ⟨e, _, by (first | assumption | (simp only [z_nat, z_lit, ← Int32.ofInt_add, ← Int32.ofInt_sub, ← Int32.ofInt_mul]; exact congrArg Int32.ofInt (by omega)) | (simp only [z_nat, z_lit, ← Int32.ofInt_add, ← Int32.ofInt_sub, ← Int32.ofInt_mul]; done) | exact congrArg Int32.ofInt (by omega) | rfl), by (dsimp only; omega), g.to he, ?_⟩
    refine W _ _ ?_ rfl
    unfold ftN
    rw [show fb_si (fta t n e) 0 = 0 from rfl]
    (first | assumption | (simp only [z_nat, z_lit, ← Int32.ofInt_add, ← Int32.ofInt_sub, ← Int32.ofInt_mul]; exact congrArg Int32.ofInt (by omega)) | (simp only [z_nat, z_lit, ← Int32.ofInt_add, ← Int32.ofInt_sub, ← Int32.ofInt_mul]; done) | exact congrArg Int32.ofInt (by omega) | rfl)
  · rintro u v rfl rfl
    refine w_at 90 [13] ?_
    exact z_lt k ((k + 1 : Nat) : Int) (fun h => ⟨_, rfl, hQ⟩) (fun h => by omega)
  · rintro r hr ih u v rfl rfl
    have hdi := dv_i g.Z he (show r < t 0 0 by omega)
    refine w_at 90 [13] ?_
    refine z_lt k ((r + 1 : Nat) : Int) (fun h => by omega) (fun h => ?_)
    have hp := ptE_b g.R (dr := t 1 0) (bar := -1) he (show r < t 0 0 by omega)
    refine k2_pointsOf_43 g.Z e r he (by omega) (fun h1 => ?_) (fun h1 => ?_)
    · refine z_le 0 (ptE t n e r (t 1 0) (-1)) (fun _ => ?_) (fun h2 => by omega)
      refine ih _ _ ?_ (by (first | assumption | (simp only [z_nat, z_lit, ← Int32.ofInt_add, ← Int32.ofInt_sub, ← Int32.ofInt_mul]; exact congrArg Int32.ofInt (by omega)) | (simp only [z_nat, z_lit, ← Int32.ofInt_add, ← Int32.ofInt_sub, ← Int32.ofInt_mul]; done) | exact congrArg Int32.ofInt (by omega) | rfl))
      unfold ftN
      rw [fb_si_succ, show fta t n e r = 0 from if_pos h1, Int.add_zero]
    · refine z_le 0 (-1) (fun h2 => by omega) (fun _ => ?_)
      refine k2_cellOf e r ?_
      refine ⟨6 * e + r, _, by (first | assumption | (simp only [z_nat, z_lit, ← Int32.ofInt_add, ← Int32.ofInt_sub, ← Int32.ofInt_mul]; exact congrArg Int32.ofInt (by omega)) | (simp only [z_nat, z_lit, ← Int32.ofInt_add, ← Int32.ofInt_sub, ← Int32.ofInt_mul]; done) | exact congrArg Int32.ofInt (by omega) | rfl), by (dsimp only; omega), (g.li he (show r < t 0 0 by omega)).trans hdi.1, ?_⟩
      refine k2_pointsByForm g.Z e _ he hdi.2 ?_
      refine ih _ _ ?_ (by (first | assumption | (simp only [z_nat, z_lit, ← Int32.ofInt_add, ← Int32.ofInt_sub, ← Int32.ofInt_mul]; exact congrArg Int32.ofInt (by omega)) | (simp only [z_nat, z_lit, ← Int32.ofInt_add, ← Int32.ofInt_sub, ← Int32.ofInt_mul]; done) | exact congrArg Int32.ofInt (by omega) | rfl))
      unfold ftN
      rw [fb_si_succ, show fta t n e r = fpt t e (n (6 * e + r)).toNat from if_neg (by omega)]
      (first | assumption | (simp only [z_nat, z_lit, ← Int32.ofInt_add, ← Int32.ofInt_sub, ← Int32.ofInt_mul]; exact congrArg Int32.ofInt (by omega)) | (simp only [z_nat, z_lit, ← Int32.ofInt_add, ← Int32.ofInt_sub, ← Int32.ofInt_mul]; done) | exact congrArg Int32.ofInt (by omega) | rfl)
set_option maxRecDepth 100000 in
set_option maxHeartbeats 4000000 in
theorem k_formTotal (g : g_A 43 M t n) {a b : Int32} (e k : Nat) (he : e < t 8 0) (hk : k ≤ t 0 0) (hQ : ∀ M', q_fs [293] fD M M' → Q (some (.int (Int32.ofInt (ftN t n e k)))) M') (ha : a = nI e := by (first | assumption | (simp only [z_nat, z_lit, ← Int32.ofInt_add, ← Int32.ofInt_sub, ← Int32.ofInt_mul]; exact congrArg Int32.ofInt (by omega)) | (simp only [z_nat, z_lit, ← Int32.ofInt_add, ← Int32.ofInt_sub, ← Int32.ofInt_mul]; done) | exact congrArg Int32.ofInt (by omega) | rfl)) (hb : b = nI k := by (first | assumption | (simp only [z_nat, z_lit, ← Int32.ofInt_add, ← Int32.ofInt_sub, ← Int32.ofInt_mul]; exact congrArg Int32.ofInt (by omega)) | (simp only [z_nat, z_lit, ← Int32.ofInt_add, ← Int32.ofInt_sub, ← Int32.ofInt_mul]; done) | exact congrArg Int32.ofInt (by omega) | rfl)) : q_C q_mt (L, xs, q_shp) E nX12_formTotal (d + 8) 0 0 [.ref 271, .int (a), .int (b)] M Q := by
  subst ha hb
  have h6 := g.R.e6
  have h7 := g.R.r6
  have W := lp_m (W := fun r M' => ∀ u v, u = Int32.ofInt (ftN t n e r) → v = nI (r + 1) → q_G q_mt (L, xs, q_shp) E nX12_formTotal (d + 8) 0 0 (q_Q (L, xs, q_shp) E Q) 9 [some (.ref 271), some (.int (nI e)), some (.int (nI k)), some (.int (u)), some (.int (v))] [] M') (J := fun r M' => q_fs [293] fD M M') k ?_ ?_ 0
  · refine w_in 90 [9] ?_
    refine k_totalOf g.R e he (fun M' hf => ?_)
    refine W M' (Nat.zero_le _) hf _ _ ?_ rfl
    unfold ftN
    rw [show fb_si (fta t n e) 0 = 0 from rfl]
    (first | assumption | (simp only [z_nat, z_lit, ← Int32.ofInt_add, ← Int32.ofInt_sub, ← Int32.ofInt_mul]; exact congrArg Int32.ofInt (by omega)) | (simp only [z_nat, z_lit, ← Int32.ofInt_add, ← Int32.ofInt_sub, ← Int32.ofInt_mul]; done) | exact congrArg Int32.ofInt (by omega) | rfl)
  · rintro M' hf u v rfl rfl
    refine w_at 90 [9] ?_
    exact z_lt k ((k + 1 : Nat) : Int) (fun h => ⟨_, rfl, hQ M' hf⟩) (fun h => by omega)
  · rintro r M' hr hf ih u v rfl rfl
    have hdi := dv_i g.Z he (show r < t 0 0 by omega)
    have g' := g.R.fs hf
    refine w_at 90 [9] ?_
    refine z_lt k ((r + 1 : Nat) : Int) (fun h => by omega) (fun h => ?_)
    refine k_isGiven g' e r he (by omega) (fun h1 => br_f (by decide) ?_) (fun h1 => br_t (by decide) ?_)
    · refine ih M' hf _ _ ?_ (by (first | assumption | (simp only [z_nat, z_lit, ← Int32.ofInt_add, ← Int32.ofInt_sub, ← Int32.ofInt_mul]; exact congrArg Int32.ofInt (by omega)) | (simp only [z_nat, z_lit, ← Int32.ofInt_add, ← Int32.ofInt_sub, ← Int32.ofInt_mul]; done) | exact congrArg Int32.ofInt (by omega) | rfl))
      unfold ftN
      rw [fb_si_succ, show fta t n e r = 0 from if_pos h1]
      (first | assumption | (simp only [z_nat, z_lit, ← Int32.ofInt_add, ← Int32.ofInt_sub, ← Int32.ofInt_mul]; exact congrArg Int32.ofInt (by omega)) | (simp only [z_nat, z_lit, ← Int32.ofInt_add, ← Int32.ofInt_sub, ← Int32.ofInt_mul]; done) | exact congrArg Int32.ofInt (by omega) | rfl)
    · refine k_diveOf g' e r he (by omega) ?_
      refine k_formPoints g' e _ he hdi.2 ?_ (hb := hdi.1)
      refine ih M' hf _ _ ?_ (by (first | assumption | (simp only [z_nat, z_lit, ← Int32.ofInt_add, ← Int32.ofInt_sub, ← Int32.ofInt_mul]; exact congrArg Int32.ofInt (by omega)) | (simp only [z_nat, z_lit, ← Int32.ofInt_add, ← Int32.ofInt_sub, ← Int32.ofInt_mul]; done) | exact congrArg Int32.ofInt (by omega) | rfl))
      unfold ftN
      rw [fb_si_succ, show fta t n e r = fpt t e (n (6 * e + r)).toNat from if_neg (by omega)]
      (first | assumption | (simp only [z_nat, z_lit, ← Int32.ofInt_add, ← Int32.ofInt_sub, ← Int32.ofInt_mul]; exact congrArg Int32.ofInt (by omega)) | (simp only [z_nat, z_lit, ← Int32.ofInt_add, ← Int32.ofInt_sub, ← Int32.ofInt_mul]; done) | exact congrArg Int32.ofInt (by omega) | rfl)
end FM
