/-! what a law says of a set of dives and one more -/
def gsB (t : q_T) (S x k j : Nat) : Bool := decide (j = t 6 x) || decide (0 < fb_ct (fun o => S.testBit o && decide (t 6 o = j)) k)
def fct (t : q_T) (S x pr : Nat) (f : Nat) : Nat := if f = 0 then t 0 0 else if f = 1 then fb_ct (fun j => S.testBit j) 11 + 1 else if f = 2 then t 6 x else if f = 3 then t 7 x else if f = 4 then t 7 x + fb_sm (fun o => if S.testBit o = true then t 7 o else 0) (t 5 0) else if f = 5 then 1 + fb_ct (fun o => S.testBit o && decide (t 6 o = t 6 x)) (t 5 0) else if f = 6 then fb_ct (fun j => gsB t S x (t 5 0) j) 11 else pr
def fcL (t : q_T) (S x pr : Nat) (f : Nat) : Int64 := Int64.ofInt (fct t S x pr f)
/-- whether law l is so -/
def lwS (t : q_T) (l S x pr : Nat) : Bool := lwB (t (19 + l)) (t 18 l) (fcL t S x pr)
theorem b_one {i j : Nat} (hj : j < 32) (hi : i < 32) : bt ((1 : Int32) <<< (nI j &&& 31)) i = decide (i = j) := by
  have := b_set (x := 0) hj hi
  rw [Int32.zero_or, b_0, Bool.false_or] at this
  exact this
theorem gsB_s {t : q_T} {S x k j : Nat} : gsB t S x (k + 1) j = (gsB t S x k j || (S.testBit k && decide (t 6 k = j))) := by
  unfold gsB
  cases q : (S.testBit k && decide (t 6 k = j)) with
  | true => rw [ct_t (p := fun o => S.testBit o && decide (t 6 o = j)) q, decide_eq_true (Nat.succ_pos _), Bool.or_true, Bool.or_true]
  | false => rw [ct_f (p := fun o => S.testBit o && decide (t 6 o = j)) q, Bool.or_false]
theorem gsB_b {t : q_T} {S x k j : Nat} (hx : t 6 x ≤ 6) (hk : ∀ o, o < k → t 6 o ≤ 6) (hj : 6 < j) : gsB t S x k j = false := by
  unfold gsB
  rw [decide_eq_false (by omega), Bool.false_or]
  have : fb_ct (fun o => S.testBit o && decide (t 6 o = j)) k = 0 := fb_ct_zero.mpr (fun o ho => by
    rw [decide_eq_false (by have := hk o ho; omega), Bool.and_false])
  rw [this]
  rfl
theorem bt_S {S j : Nat} (hS : S < 1024) (hj : j < 32) : bt (nI S) j = (decide (j < 11) && S.testBit j) := by
  rw [bt_nat hj]
  by_cases q : j < 11
  · rw [decide_eq_true q, Bool.true_and]
  · rw [decide_eq_false q, Bool.false_and]
    exact Nat.testBit_lt_two_pow (Nat.lt_of_lt_of_le hS (Nat.pow_le_pow_right (n := 2) (by decide) (show 10 ≤ j by omega)))
theorem sm_le {f : Nat → Nat} {c : Nat} : ∀ {k : Nat}, (∀ i, i < k → f i ≤ c) → fb_sm f k ≤ c * k
  | 0, _ => Nat.le_refl _
  | k + 1, h => by
    have a := sm_le (k := k) (fun i hi => h i (by omega))
    have b := h k (by omega)
    rw [fb_sm_succ, Nat.mul_add]
    omega
theorem q_m1 {s : Nat} (h : 1 ≤ s) : nI s + Int32.ofInt (-1) = nI (s - 1) := by
  rw [z_nat, z_nat, ← Int32.ofInt_add]
  exact congrArg Int32.ofInt (by omega)
theorem q_m2 {s : Nat} (h : 2 ≤ s) : nI s + Int32.ofInt (-1) - Int32.ofInt 1 = nI (s - 2) := by
  rw [q_m1 (by omega), z_nat, z_nat, ← Int32.ofInt_sub]
  exact congrArg Int32.ofInt (by omega)
section L2
variable {L : Nat} {xs : Nat → Int32} {E : q_E} {d : Nat} {M : q_M} {t : q_T} {n : sN} {Q : Option Value → q_M → Prop} {P : q_M → Prop}
set_option maxRecDepth 100000 in
set_option maxHeartbeats 4000000 in
theorem k2_gather (g : g_Z 43 M t n) {a b c : Int32} (S x pr : Nat) (hS : S < 1024) (hx : x < t 5 0) (hp : pr ≤ 1) (hQ : ∀ M', q_fs [245] [] M M' → (∀ f, f < 8 → M'.2 245 f = fcL t S x pr f) → Q none M') (ha : a = nI S := by (first | assumption | (simp only [z_nat, z_lit, ← Int32.ofInt_add, ← Int32.ofInt_sub, ← Int32.ofInt_mul]; exact congrArg Int32.ofInt (by omega)) | (simp only [z_nat, z_lit, ← Int32.ofInt_add, ← Int32.ofInt_sub, ← Int32.ofInt_mul]; done) | exact congrArg Int32.ofInt (by omega) | rfl)) (hb : b = nI x := by (first | assumption | (simp only [z_nat, z_lit, ← Int32.ofInt_add, ← Int32.ofInt_sub, ← Int32.ofInt_mul]; exact congrArg Int32.ofInt (by omega)) | (simp only [z_nat, z_lit, ← Int32.ofInt_add, ← Int32.ofInt_sub, ← Int32.ofInt_mul]; done) | exact congrArg Int32.ofInt (by omega) | rfl)) (hc : c = nI pr := by (first | assumption | (simp only [z_nat, z_lit, ← Int32.ofInt_add, ← Int32.ofInt_sub, ← Int32.ofInt_mul]; exact congrArg Int32.ofInt (by omega)) | (simp only [z_nat, z_lit, ← Int32.ofInt_add, ← Int32.ofInt_sub, ← Int32.ofInt_mul]; done) | exact congrArg Int32.ofInt (by omega) | rfl)) : q_C q_mt (L, xs, q_shp) E nX10_gather (d + 1) 0 0 [.ref 244, .int (a), .int (b), .int (c)] M Q := by
  subst ha hb hc
  have h10 := g.R.d10
  have h6 := g.R.r6
  have bx := g.R.bd hx
  have W := lp_up (W := fun k => ∀ s u w v, s = nI (t 7 x + fb_sm (fun o => if S.testBit o = true then t 7 o else 0) k) → u = nI (1 + fb_ct (fun o => S.testBit o && decide (t 6 o = t 6 x)) k) → (∀ j, j < 32 → bt w j = gsB t S x k j) → v = nI k → q_G q_mt (L, xs, q_shp) E nX10_gather (d + 1) 0 0 (q_Q (L, xs, q_shp) E Q) 34 [some (.ref 244), some (.int (nI S)), some (.int (nI x)), some (.int (nI pr)), some (.int (nI (t 6 x))), some (.int (s)), some (.int (u)), some (.int (w)), some (.int (v))] [] M) (t 5 0) ?_ ?_ 0 (Nat.zero_le _)
  · refine w_in 90 [34] ?_
    refine ⟨x, _, by (first | assumption | (simp only [z_nat, z_lit, ← Int32.ofInt_add, ← Int32.ofInt_sub, ← Int32.ofInt_mul]; exact congrArg Int32.ofInt (by omega)) | (simp only [z_nat, z_lit, ← Int32.ofInt_add, ← Int32.ofInt_sub, ← Int32.ofInt_mul]; done) | exact congrArg Int32.ofInt (by omega) | rfl), by (dsimp only; omega), (g.di hx).1, ?_⟩
    refine ⟨x, _, by (first | assumption | (simp only [z_nat, z_lit, ← Int32.ofInt_add, ← Int32.ofInt_sub, ← Int32.ofInt_mul]; exact congrArg Int32.ofInt (by omega)) | (simp only [z_nat, z_lit, ← Int32.ofInt_add, ← Int32.ofInt_sub, ← Int32.ofInt_mul]; done) | exact congrArg Int32.ofInt (by omega) | rfl), by (dsimp only; omega), (g.di hx).2, ?_⟩
    refine W _ _ _ _ rfl rfl (fun j hj => ?_) rfl
    refine (b_one (by omega) hj).trans ?_
    unfold gsB
    rw [show fb_ct (fun o => S.testBit o && decide (t 6 o = j)) 0 = 0 from rfl, decide_eq_false (p := 0 < 0) (by omega), Bool.or_false]
  · rintro s u w v rfl rfl hw rfl
    have ssm : fb_sm (fun o => if S.testBit o = true then t 7 o else 0) (t 5 0) ≤ 60 * t 5 0 := sm_le (fun o ho => by
      have := g.R.bd ho
      split <;> omega)
    have sct := fb_ct_le (fun o => S.testBit o && decide (t 6 o = t 6 x)) (t 5 0)
    have pct := fb_ct_le (fun j => S.testBit j) 11
    have gct := fb_ct_le (fun j => gsB t S x (t 5 0) j) 11
    have eb : bcF (nI S) = nI (fb_ct (fun j => S.testBit j) 11) := bc_ok (fun j hj => bt_S hS hj)
    have eg : bcF w = nI (fb_ct (fun j => gsB t S x (t 5 0) j) 11) := bc_ok (fun j hj => by
      rw [hw j hj]
      by_cases q : j < 11
      · rw [decide_eq_true q, Bool.true_and]
      · rw [decide_eq_false q, Bool.false_and]
        exact gsB_b bx.2.1 (fun o ho => (g.R.bd ho).2.1) (by omega))
    refine w_at 90 [34] ?_
    refine ⟨_, g.dN, ?_⟩
    refine z_le (t 5 0) (t 5 0) (fun _ => ?_) (fun h => by omega)
    refine ⟨_, g.ro, ?_⟩
    refine ⟨0, _, by (first | assumption | (simp only [z_nat, z_lit, ← Int32.ofInt_add, ← Int32.ofInt_sub, ← Int32.ofInt_mul]; exact congrArg Int32.ofInt (by omega)) | (simp only [z_nat, z_lit, ← Int32.ofInt_add, ← Int32.ofInt_sub, ← Int32.ofInt_mul]; done) | exact congrArg Int32.ofInt (by omega) | rfl), by (dsimp only; omega), rfl, ?_⟩
    refine p_bitCount ?_
    rw [eb]
    refine ⟨1, _, by (first | assumption | (simp only [z_nat, z_lit, ← Int32.ofInt_add, ← Int32.ofInt_sub, ← Int32.ofInt_mul]; exact congrArg Int32.ofInt (by omega)) | (simp only [z_nat, z_lit, ← Int32.ofInt_add, ← Int32.ofInt_sub, ← Int32.ofInt_mul]; done) | exact congrArg Int32.ofInt (by omega) | rfl), by (dsimp only; omega), rfl, ?_⟩
    refine ⟨2, _, by (first | assumption | (simp only [z_nat, z_lit, ← Int32.ofInt_add, ← Int32.ofInt_sub, ← Int32.ofInt_mul]; exact congrArg Int32.ofInt (by omega)) | (simp only [z_nat, z_lit, ← Int32.ofInt_add, ← Int32.ofInt_sub, ← Int32.ofInt_mul]; done) | exact congrArg Int32.ofInt (by omega) | rfl), by (dsimp only; omega), rfl, ?_⟩
    refine ⟨x, _, by (first | assumption | (simp only [z_nat, z_lit, ← Int32.ofInt_add, ← Int32.ofInt_sub, ← Int32.ofInt_mul]; exact congrArg Int32.ofInt (by omega)) | (simp only [z_nat, z_lit, ← Int32.ofInt_add, ← Int32.ofInt_sub, ← Int32.ofInt_mul]; done) | exact congrArg Int32.ofInt (by omega) | rfl), by (dsimp only; omega), (g.di hx).2, ?_⟩
    refine ⟨3, _, by (first | assumption | (simp only [z_nat, z_lit, ← Int32.ofInt_add, ← Int32.ofInt_sub, ← Int32.ofInt_mul]; exact congrArg Int32.ofInt (by omega)) | (simp only [z_nat, z_lit, ← Int32.ofInt_add, ← Int32.ofInt_sub, ← Int32.ofInt_mul]; done) | exact congrArg Int32.ofInt (by omega) | rfl), by (dsimp only; omega), rfl, ?_⟩
    refine ⟨4, _, by (first | assumption | (simp only [z_nat, z_lit, ← Int32.ofInt_add, ← Int32.ofInt_sub, ← Int32.ofInt_mul]; exact congrArg Int32.ofInt (by omega)) | (simp only [z_nat, z_lit, ← Int32.ofInt_add, ← Int32.ofInt_sub, ← Int32.ofInt_mul]; done) | exact congrArg Int32.ofInt (by omega) | rfl), by (dsimp only; omega), rfl, ?_⟩
    refine ⟨5, _, by (first | assumption | (simp only [z_nat, z_lit, ← Int32.ofInt_add, ← Int32.ofInt_sub, ← Int32.ofInt_mul]; exact congrArg Int32.ofInt (by omega)) | (simp only [z_nat, z_lit, ← Int32.ofInt_add, ← Int32.ofInt_sub, ← Int32.ofInt_mul]; done) | exact congrArg Int32.ofInt (by omega) | rfl), by (dsimp only; omega), rfl, ?_⟩
    refine p_bitCount ?_
    rw [eg]
    refine ⟨6, _, by (first | assumption | (simp only [z_nat, z_lit, ← Int32.ofInt_add, ← Int32.ofInt_sub, ← Int32.ofInt_mul]; exact congrArg Int32.ofInt (by omega)) | (simp only [z_nat, z_lit, ← Int32.ofInt_add, ← Int32.ofInt_sub, ← Int32.ofInt_mul]; done) | exact congrArg Int32.ofInt (by omega) | rfl), by (dsimp only; omega), rfl, ?_⟩
    refine ⟨7, _, by (first | assumption | (simp only [z_nat, z_lit, ← Int32.ofInt_add, ← Int32.ofInt_sub, ← Int32.ofInt_mul]; exact congrArg Int32.ofInt (by omega)) | (simp only [z_nat, z_lit, ← Int32.ofInt_add, ← Int32.ofInt_sub, ← Int32.ofInt_mul]; done) | exact congrArg Int32.ofInt (by omega) | rfl), by (dsimp only; omega), rfl, ?_⟩
    refine hQ _ q_fs.rf.s2.s2.s2.s2.s2.s2.s2.s2 (fun f hf => ?_)
    have tL : ∀ k : Nat, k < 100000 → (nI k).toInt64 = Int64.ofInt (k : Int) := fun k hk => by rw [z_nat, y_i2l (by omega)]
    unfold fcL fct
    obtain rfl | rfl | rfl | rfl | rfl | rfl | rfl | rfl : f = 0 ∨ f = 1 ∨ f = 2 ∨ f = 3 ∨ f = 4 ∨ f = 5 ∨ f = 6 ∨ f = 7 := by omega
    · rw [q_sl_n (by decide), q_sl_n (by decide), q_sl_n (by decide), q_sl_n (by decide), q_sl_n (by decide), q_sl_n (by decide), q_sl_n (by decide), q_sl_s, tL _ (by omega), if_pos rfl]
    · rw [q_sl_n (by decide), q_sl_n (by decide), q_sl_n (by decide), q_sl_n (by decide), q_sl_n (by decide), q_sl_n (by decide), q_sl_s, if_neg (by decide), if_pos rfl]
      rw [show nI (fb_ct (fun j => S.testBit j) 11) + Int32.ofInt 1 = nI (fb_ct (fun j => S.testBit j) 11 + 1) by (first | assumption | (simp only [z_nat, z_lit, ← Int32.ofInt_add, ← Int32.ofInt_sub, ← Int32.ofInt_mul]; exact congrArg Int32.ofInt (by omega)) | (simp only [z_nat, z_lit, ← Int32.ofInt_add, ← Int32.ofInt_sub, ← Int32.ofInt_mul]; done) | exact congrArg Int32.ofInt (by omega) | rfl), tL _ (by omega)]
    · rw [q_sl_n (by decide), q_sl_n (by decide), q_sl_n (by decide), q_sl_n (by decide), q_sl_n (by decide), q_sl_s, tL _ (by omega), if_neg (by decide), if_neg (by decide), if_pos rfl]
    · rw [q_sl_n (by decide), q_sl_n (by decide), q_sl_n (by decide), q_sl_n (by decide), q_sl_s, tL _ (by omega), if_neg (by decide), if_neg (by decide), if_neg (by decide), if_pos rfl]
    · rw [q_sl_n (by decide), q_sl_n (by decide), q_sl_n (by decide), q_sl_s, tL _ (by omega), if_neg (by decide), if_neg (by decide), if_neg (by decide), if_neg (by decide), if_pos rfl]
    · rw [q_sl_n (by decide), q_sl_n (by decide), q_sl_s, tL _ (by omega), if_neg (by decide), if_neg (by decide), if_neg (by decide), if_neg (by decide), if_neg (by decide), if_pos rfl]
    · rw [q_sl_n (by decide), q_sl_s, tL _ (by omega), if_neg (by decide), if_neg (by decide), if_neg (by decide), if_neg (by decide), if_neg (by decide), if_neg (by decide), if_pos rfl]
    · rw [q_sl_s, tL _ (by omega), if_neg (by decide), if_neg (by decide), if_neg (by decide), if_neg (by decide), if_neg (by decide), if_neg (by decide), if_neg (by decide)]
  · rintro k hk ih s u w v rfl rfl hw rfl
    have bk := g.R.bd hk
    have ssm : fb_sm (fun o => if S.testBit o = true then t 7 o else 0) k ≤ 60 * k := sm_le (fun o ho => by
      have := g.R.bd (show o < t 5 0 by omega)
      split <;> omega)
    have sct := fb_ct_le (fun o => S.testBit o && decide (t 6 o = t 6 x)) k
    have eb := b_at (x := nI S) (j := k) (by omega)
    rw [bt_nat (by omega)] at eb
    refine w_at 90 [34] ?_
    refine ⟨_, g.dN, ?_⟩
    refine z_le (t 5 0) k (fun h => by omega) (fun _ => ?_)
    by_cases q : S.testBit k = true
    · rw [if_pos q] at eb
      refine z_ne 1 1 (fun z => absurd rfl z) (fun _ => ?_) (hx := eb)
      refine ⟨k, _, by (first | assumption | (simp only [z_nat, z_lit, ← Int32.ofInt_add, ← Int32.ofInt_sub, ← Int32.ofInt_mul]; exact congrArg Int32.ofInt (by omega)) | (simp only [z_nat, z_lit, ← Int32.ofInt_add, ← Int32.ofInt_sub, ← Int32.ofInt_mul]; done) | exact congrArg Int32.ofInt (by omega) | rfl), by (dsimp only; omega), (g.di hk).2, ?_⟩
      refine ⟨k, _, by (first | assumption | (simp only [z_nat, z_lit, ← Int32.ofInt_add, ← Int32.ofInt_sub, ← Int32.ofInt_mul]; exact congrArg Int32.ofInt (by omega)) | (simp only [z_nat, z_lit, ← Int32.ofInt_add, ← Int32.ofInt_sub, ← Int32.ofInt_mul]; done) | exact congrArg Int32.ofInt (by omega) | rfl), by (dsimp only; omega), (g.di hk).1, ?_⟩
      have nx : ∀ (w' : Int32), w' = w ||| ((1 : Int32) <<< (nI (t 6 k) &&& 31)) → ∀ j, j < 32 → bt w' j = gsB t S x (k + 1) j := fun w' e j hj => by
        rw [e, b_set (by omega) hj, hw j hj, gsB_s, q, Bool.true_and]
        congr 1
        exact decide_eq_decide.mpr ⟨fun z => z.symm, fun z => z.symm⟩
      refine z_ne (t 6 k) (t 6 x) (fun h1 => ?_) (fun h1 => ?_)
      · refine ⟨k, _, by (first | assumption | (simp only [z_nat, z_lit, ← Int32.ofInt_add, ← Int32.ofInt_sub, ← Int32.ofInt_mul]; exact congrArg Int32.ofInt (by omega)) | (simp only [z_nat, z_lit, ← Int32.ofInt_add, ← Int32.ofInt_sub, ← Int32.ofInt_mul]; done) | exact congrArg Int32.ofInt (by omega) | rfl), by (dsimp only; omega), (g.di hk).1, ?_⟩
        refine ih _ _ _ _ ?_ ?_ (nx _ rfl) (by (first | assumption | (simp only [z_nat, z_lit, ← Int32.ofInt_add, ← Int32.ofInt_sub, ← Int32.ofInt_mul]; exact congrArg Int32.ofInt (by omega)) | (simp only [z_nat, z_lit, ← Int32.ofInt_add, ← Int32.ofInt_sub, ← Int32.ofInt_mul]; done) | exact congrArg Int32.ofInt (by omega) | rfl))
        · rw [fb_sm_succ, if_pos q]
          (first | assumption | (simp only [z_nat, z_lit, ← Int32.ofInt_add, ← Int32.ofInt_sub, ← Int32.ofInt_mul]; exact congrArg Int32.ofInt (by omega)) | (simp only [z_nat, z_lit, ← Int32.ofInt_add, ← Int32.ofInt_sub, ← Int32.ofInt_mul]; done) | exact congrArg Int32.ofInt (by omega) | rfl)
        · rw [ct_f (p := fun o => S.testBit o && decide (t 6 o = t 6 x)) (by rw [decide_eq_false (by omega), Bool.and_false])]
          (first | assumption | (simp only [z_nat, z_lit, ← Int32.ofInt_add, ← Int32.ofInt_sub, ← Int32.ofInt_mul]; exact congrArg Int32.ofInt (by omega)) | (simp only [z_nat, z_lit, ← Int32.ofInt_add, ← Int32.ofInt_sub, ← Int32.ofInt_mul]; done) | exact congrArg Int32.ofInt (by omega) | rfl)
      · refine ⟨k, _, by (first | assumption | (simp only [z_nat, z_lit, ← Int32.ofInt_add, ← Int32.ofInt_sub, ← Int32.ofInt_mul]; exact congrArg Int32.ofInt (by omega)) | (simp only [z_nat, z_lit, ← Int32.ofInt_add, ← Int32.ofInt_sub, ← Int32.ofInt_mul]; done) | exact congrArg Int32.ofInt (by omega) | rfl), by (dsimp only; omega), (g.di hk).1, ?_⟩
        refine ih _ _ _ _ ?_ ?_ (nx _ rfl) (by (first | assumption | (simp only [z_nat, z_lit, ← Int32.ofInt_add, ← Int32.ofInt_sub, ← Int32.ofInt_mul]; exact congrArg Int32.ofInt (by omega)) | (simp only [z_nat, z_lit, ← Int32.ofInt_add, ← Int32.ofInt_sub, ← Int32.ofInt_mul]; done) | exact congrArg Int32.ofInt (by omega) | rfl))
        · rw [fb_sm_succ, if_pos q]
          (first | assumption | (simp only [z_nat, z_lit, ← Int32.ofInt_add, ← Int32.ofInt_sub, ← Int32.ofInt_mul]; exact congrArg Int32.ofInt (by omega)) | (simp only [z_nat, z_lit, ← Int32.ofInt_add, ← Int32.ofInt_sub, ← Int32.ofInt_mul]; done) | exact congrArg Int32.ofInt (by omega) | rfl)
        · rw [ct_t (p := fun o => S.testBit o && decide (t 6 o = t 6 x)) (by rw [q, decide_eq_true (by omega)]; rfl)]
          (first | assumption | (simp only [z_nat, z_lit, ← Int32.ofInt_add, ← Int32.ofInt_sub, ← Int32.ofInt_mul]; exact congrArg Int32.ofInt (by omega)) | (simp only [z_nat, z_lit, ← Int32.ofInt_add, ← Int32.ofInt_sub, ← Int32.ofInt_mul]; done) | exact congrArg Int32.ofInt (by omega) | rfl)
    · rw [if_neg q] at eb
      have q : S.testBit k = false := by simpa using q
      refine z_ne 0 1 (fun _ => ?_) (fun z => by omega) (hx := eb)
      refine ih _ _ _ _ ?_ ?_ (fun j hj => ?_) (by (first | assumption | (simp only [z_nat, z_lit, ← Int32.ofInt_add, ← Int32.ofInt_sub, ← Int32.ofInt_mul]; exact congrArg Int32.ofInt (by omega)) | (simp only [z_nat, z_lit, ← Int32.ofInt_add, ← Int32.ofInt_sub, ← Int32.ofInt_mul]; done) | exact congrArg Int32.ofInt (by omega) | rfl))
      · rw [fb_sm_succ, if_neg (by rw [q]; decide)]
        rfl
      · rw [ct_f (p := fun o => S.testBit o && decide (t 6 o = t 6 x)) (by rw [q]; rfl)]
      · rw [gsB_s, q, Bool.false_and, Bool.or_false]
        exact hw j hj
theorem isVal_t {c : Nat} : isVal c = true ↔ 1000 ≤ c ∨ c ≤ 8 := by unfold isVal; simp
theorem isVal_f {c : Nat} : isVal c = false ↔ ¬ (1000 ≤ c ∨ c ≤ 8) := by
  rw [← isVal_t]
  cases isVal c <;> simp
-- the class's law over the gathered facts
set_option maxRecDepth 100000 in
set_option maxHeartbeats 4000000 in
theorem k2_isSoL (wl : g_W M t) (bl : b_L t) {F : Nat → Int64} (hF : ∀ f, f < 8 → M.2 245 f = F f) {a : Int32} (l : Nat) (hl : l < t 17 0) (h1 : ∀ M', q_fs [20] [] M M' → lwB (t (19 + l)) (t 18 l) F = true → Q (some (.int 1)) M') (h0 : ∀ M', q_fs [20] [] M M' → lwB (t (19 + l)) (t 18 l) F = false → Q (some (.int 0)) M') (ha : a = nI l := by (first | assumption | (simp only [z_nat, z_lit, ← Int32.ofInt_add, ← Int32.ofInt_sub, ← Int32.ofInt_mul]; exact congrArg Int32.ofInt (by omega)) | (simp only [z_nat, z_lit, ← Int32.ofInt_add, ← Int32.ofInt_sub, ← Int32.ofInt_mul]; done) | exact congrArg Int32.ofInt (by omega) | rfl)) : q_C q_mt (L, xs, q_shp) E nX1_isSo (d + 1) 0 0 [.ref 17, .int (a), .ref 245] M Q := by
  subst ha
  have l6 := bl.1
  obtain ⟨b255, ok⟩ := bl.2.2 l hl
  have wl1 := wl.2 l hl
  have hE := bl.at hl
  have W := lp_m (W := fun i M' => ∀ u v x, u = nI (sd (t (19 + l)) i) → v = nI (lawE t l + i) → q_G q_mt (L, xs, q_shp) E nX1_isSo (d + 1) 0 0 (q_Q (L, xs, q_shp) E Q) 20 [some (.ref 17), some (.int (nI l)), some (.ref 245), some (.int (u)), some (.int (v)), x] [] M') (J := fun i M' => q_fs [20] [] M M' ∧ ∀ p, p < sd (t (19 + l)) i → M'.2 20 p = evS (t (19 + l)) F i p) (t 18 l) ?_ ?_ 0 M (Nat.zero_le _) ⟨q_fs.rf, fun p hp => absurd hp (Nat.not_lt_zero _)⟩
  · refine w_in 90 [20] ?_
    by_cases q : l = 0
    · subst q
      refine z_ne (0 : Nat) 0 (fun z => by omega) (fun _ => ?_)
      exact W _ _ _ rfl rfl
    · have wp := (wl.2 (l - 1) (by omega)).1
      rw [show l - 1 + 1 = l by omega] at wp
      refine z_ne (l : Int) 0 (fun _ => ?_) (fun z => by omega)
      refine ⟨l - 1, _, by (first | assumption | (simp only [z_nat, z_lit, ← Int32.ofInt_add, ← Int32.ofInt_sub, ← Int32.ofInt_mul]; exact congrArg Int32.ofInt (by omega)) | (simp only [z_nat, z_lit, ← Int32.ofInt_add, ← Int32.ofInt_sub, ← Int32.ofInt_mul]; done) | exact congrArg Int32.ofInt (by omega) | rfl), by (dsimp only; omega), wp, ?_⟩
      exact W _ _ _ rfl rfl
  · rintro M' ⟨hf, hm⟩ u v x rfl rfl
    have e19 : M'.1 19 l = nI (lawE t l + t 18 l) := by
      rw [hf.c1 19, wl1.1, lawE_s]
    have s1 := ok.2
    have s64 := sd_b ok (t 18 l) (Nat.le_refl _)
    have e20 := hm 0 (by omega)
    refine w_at 90 [20] ?_
    refine ⟨l, _, by (first | assumption | (simp only [z_nat, z_lit, ← Int32.ofInt_add, ← Int32.ofInt_sub, ← Int32.ofInt_mul]; exact congrArg Int32.ofInt (by omega)) | (simp only [z_nat, z_lit, ← Int32.ofInt_add, ← Int32.ofInt_sub, ← Int32.ofInt_mul]; done) | exact congrArg Int32.ofInt (by omega) | rfl), by (dsimp only; omega), e19, ?_⟩
    refine z_le ((lawE t l + t 18 l : Nat) : Int) ((lawE t l + t 18 l : Nat) : Int) (fun _ => ?_) (fun z => by omega)
    refine z_le (sd (t (19 + l)) (t 18 l)) 0 (fun z => by omega) (fun _ => ?_)
    refine ⟨0, _, by (first | assumption | (simp only [z_nat, z_lit, ← Int32.ofInt_add, ← Int32.ofInt_sub, ← Int32.ofInt_mul]; exact congrArg Int32.ofInt (by omega)) | (simp only [z_nat, z_lit, ← Int32.ofInt_add, ← Int32.ofInt_sub, ← Int32.ofInt_mul]; done) | exact congrArg Int32.ofInt (by omega) | rfl), by (dsimp only; omega), e20, ?_⟩
    refine ⟨fun z => ⟨z_0, h0 M' hf (decide_eq_false (fun w => z ((lg_cmp_eq _ _).mpr w)))⟩, fun z => ⟨z_1, h1 M' hf (decide_eq_true ((lg_cmp_eq _ _).mp z))⟩⟩
  · rintro i M' hi ⟨hf, hm⟩ ih u v x rfl rfl
    have e19 : M'.1 19 l = nI (lawE t l + t 18 l) := by
      rw [hf.c1 19, wl1.1, lawE_s]
    have e18 : M'.1 18 (lawE t l + i) = nI (cS (t (19 + l) i)) := by
      rw [hf.c1 18]
      exact (wl1.2.2 i hi).1
    obtain ⟨c1, c2, c3, c4⟩ := ok.1 i hi
    have s64 := sd_b ok i (Nat.le_of_lt hi)
    have es : sd (t (19 + l)) (i + 1) = if isVal (t (19 + l) i) then sd (t (19 + l)) i + 1 else if t (19 + l) i = 30 then sd (t (19 + l)) i else sd (t (19 + l)) i - 1 := rfl
    generalize hcd : t (19 + l) i = c at *
    refine w_at 90 [20] ?_
    refine ⟨l, _, by (first | assumption | (simp only [z_nat, z_lit, ← Int32.ofInt_add, ← Int32.ofInt_sub, ← Int32.ofInt_mul]; exact congrArg Int32.ofInt (by omega)) | (simp only [z_nat, z_lit, ← Int32.ofInt_add, ← Int32.ofInt_sub, ← Int32.ofInt_mul]; done) | exact congrArg Int32.ofInt (by omega) | rfl), by (dsimp only; omega), e19, ?_⟩
    refine z_le ((lawE t l + t 18 l : Nat) : Int) ((lawE t l + i : Nat) : Int) (fun z => by omega) (fun _ => ?_)
    refine ⟨lawE t l + i, _, by (first | assumption | (simp only [z_nat, z_lit, ← Int32.ofInt_add, ← Int32.ofInt_sub, ← Int32.ofInt_mul]; exact congrArg Int32.ofInt (by omega)) | (simp only [z_nat, z_lit, ← Int32.ofInt_add, ← Int32.ofInt_sub, ← Int32.ofInt_mul]; done) | exact congrArg Int32.ofInt (by omega) | rfl), by (dsimp only; omega), e18, ?_⟩
    by_cases qv : isVal c = true
    · rw [if_pos qv] at es
      have s63 := c2 qv
      have qv' := isVal_t.mp qv
      have ev : ∀ p, evS (t (19 + l)) F (i + 1) p = if p = sd (t (19 + l)) i then vlC F c else evS (t (19 + l)) F i p := fun p => by
        show (if isVal (t (19 + l) i) then _ else _) = _
        rw [hcd, if_pos qv]
      by_cases q9 : 1000 ≤ c
      · have hc9 : c ≤ 10999 := by
          rcases c1 with z | z | z <;> omega
        have ecs : cS c = c - 1000 := if_pos q9
        rw [ecs]
        refine z_le 20000 ((c - 1000 : Nat) : Int) (fun z => by omega) (fun _ => ?_)
        refine z_le 64 (sd (t (19 + l)) i) (fun z => by omega) (fun _ => ?_)
        refine z_le 10000 ((c - 1000 : Nat) : Int) (fun z => by omega) (fun _ => ?_)
        refine ⟨sd (t (19 + l)) i, _, by (first | assumption | (simp only [z_nat, z_lit, ← Int32.ofInt_add, ← Int32.ofInt_sub, ← Int32.ofInt_mul]; exact congrArg Int32.ofInt (by omega)) | (simp only [z_nat, z_lit, ← Int32.ofInt_add, ← Int32.ofInt_sub, ← Int32.ofInt_mul]; done) | exact congrArg Int32.ofInt (by omega) | rfl), by (dsimp only; omega), rfl, ?_⟩
        refine ih _ ⟨hf.s2, fun p hp => ?_⟩ _ _ _ (by rw [es]; (first | assumption | (simp only [z_nat, z_lit, ← Int32.ofInt_add, ← Int32.ofInt_sub, ← Int32.ofInt_mul]; exact congrArg Int32.ofInt (by omega)) | (simp only [z_nat, z_lit, ← Int32.ofInt_add, ← Int32.ofInt_sub, ← Int32.ofInt_mul]; done) | exact congrArg Int32.ofInt (by omega) | rfl)) (by (first | assumption | (simp only [z_nat, z_lit, ← Int32.ofInt_add, ← Int32.ofInt_sub, ← Int32.ofInt_mul]; exact congrArg Int32.ofInt (by omega)) | (simp only [z_nat, z_lit, ← Int32.ofInt_add, ← Int32.ofInt_sub, ← Int32.ofInt_mul]; done) | exact congrArg Int32.ofInt (by omega) | rfl))
        rw [es] at hp
        rw [ev p]
        by_cases z : p = sd (t (19 + l)) i
        · rw [if_pos z, z, q_sl_s]
          unfold vlC
          rw [if_pos q9, z_nat, y_i2l (by omega)]
          exact congrArg Int64.ofInt (by omega)
        · rw [if_neg z, q_sl_n z]
          exact hm p (by omega)
      · have hc8 : 1 ≤ c ∧ c ≤ 8 := by
          rcases c1 with z | z | z <;> omega
        have ecs : cS c = 9999 + c := by
          unfold cS
          rw [if_neg q9, if_pos hc8.2]
        have eF : M'.2 245 (c - 1) = F (c - 1) := by
          rw [hf.c2 245]
          exact hF (c - 1) (by omega)
        rw [ecs]
        refine z_le 20000 ((9999 + c : Nat) : Int) (fun z => by omega) (fun _ => ?_)
        refine z_le 64 (sd (t (19 + l)) i) (fun z => by omega) (fun _ => ?_)
        refine z_le 10000 ((9999 + c : Nat) : Int) (fun _ => ?_) (fun z => by omega)
        refine ⟨c - 1, _, by (first | assumption | (simp only [z_nat, z_lit, ← Int32.ofInt_add, ← Int32.ofInt_sub, ← Int32.ofInt_mul]; exact congrArg Int32.ofInt (by omega)) | (simp only [z_nat, z_lit, ← Int32.ofInt_add, ← Int32.ofInt_sub, ← Int32.ofInt_mul]; done) | exact congrArg Int32.ofInt (by omega) | rfl), by (dsimp only; omega), eF, ?_⟩
        refine ⟨sd (t (19 + l)) i, _, by (first | assumption | (simp only [z_nat, z_lit, ← Int32.ofInt_add, ← Int32.ofInt_sub, ← Int32.ofInt_mul]; exact congrArg Int32.ofInt (by omega)) | (simp only [z_nat, z_lit, ← Int32.ofInt_add, ← Int32.ofInt_sub, ← Int32.ofInt_mul]; done) | exact congrArg Int32.ofInt (by omega) | rfl), by (dsimp only; omega), rfl, ?_⟩
        refine ih _ ⟨hf.s2, fun p hp => ?_⟩ _ _ _ (by rw [es]; (first | assumption | (simp only [z_nat, z_lit, ← Int32.ofInt_add, ← Int32.ofInt_sub, ← Int32.ofInt_mul]; exact congrArg Int32.ofInt (by omega)) | (simp only [z_nat, z_lit, ← Int32.ofInt_add, ← Int32.ofInt_sub, ← Int32.ofInt_mul]; done) | exact congrArg Int32.ofInt (by omega) | rfl)) (by (first | assumption | (simp only [z_nat, z_lit, ← Int32.ofInt_add, ← Int32.ofInt_sub, ← Int32.ofInt_mul]; exact congrArg Int32.ofInt (by omega)) | (simp only [z_nat, z_lit, ← Int32.ofInt_add, ← Int32.ofInt_sub, ← Int32.ofInt_mul]; done) | exact congrArg Int32.ofInt (by omega) | rfl))
        rw [es] at hp
        rw [ev p]
        by_cases z : p = sd (t (19 + l)) i
        · rw [if_pos z, z, q_sl_s]
          unfold vlC
          rw [if_neg q9]
        · rw [if_neg z, q_sl_n z]
          exact hm p (by omega)
    · have qv : isVal c = false := by simpa using qv
      have qv' := isVal_f.mp qv
      rw [if_neg (by rw [qv]; decide)] at es
      have hc30 : 20 ≤ c ∧ c ≤ 30 := by
        rcases c1 with z | z | z <;> omega
      by_cases q30 : c = 30
      · rw [if_pos q30] at es
        have s1 := c3 q30
        have ev : ∀ p, evS (t (19 + l)) F (i + 1) p = if p = sd (t (19 + l)) i - 1 then 1 - evS (t (19 + l)) F i p else evS (t (19 + l)) F i p := fun p => by
          show (if isVal (t (19 + l) i) then _ else if t (19 + l) i = 30 then _ else _) = _
          rw [hcd, if_neg (by rw [qv]; decide), if_pos q30]
        have ecs : cS c = 20002 := by rw [q30]; rfl
        have e20 := hm (sd (t (19 + l)) i - 1) (by omega)
        rw [ecs]
        refine z_le 20000 ((20002 : Nat) : Int) (fun _ => ?_) (fun z => by omega)
        refine z_ne ((20002 : Nat) : Int) 20002 (fun z => absurd rfl z) (fun _ => ?_)
        refine z_le (sd (t (19 + l)) i) 0 (fun z => by omega) (fun _ => ?_)
        refine ⟨sd (t (19 + l)) i - 1, _, by (first | assumption | (simp only [z_nat, z_lit, ← Int32.ofInt_add, ← Int32.ofInt_sub, ← Int32.ofInt_mul]; exact congrArg Int32.ofInt (by omega)) | (simp only [z_nat, z_lit, ← Int32.ofInt_add, ← Int32.ofInt_sub, ← Int32.ofInt_mul]; done) | exact congrArg Int32.ofInt (by omega) | rfl), by (dsimp only; omega), e20, ?_⟩
        refine ⟨sd (t (19 + l)) i - 1, _, by (first | assumption | (simp only [z_nat, z_lit, ← Int32.ofInt_add, ← Int32.ofInt_sub, ← Int32.ofInt_mul]; exact congrArg Int32.ofInt (by omega)) | (simp only [z_nat, z_lit, ← Int32.ofInt_add, ← Int32.ofInt_sub, ← Int32.ofInt_mul]; done) | exact congrArg Int32.ofInt (by omega) | rfl), by (dsimp only; omega), rfl, ?_⟩
        refine ih _ ⟨hf.s2, fun p hp => ?_⟩ _ _ _ (by rw [es]) (by (first | assumption | (simp only [z_nat, z_lit, ← Int32.ofInt_add, ← Int32.ofInt_sub, ← Int32.ofInt_mul]; exact congrArg Int32.ofInt (by omega)) | (simp only [z_nat, z_lit, ← Int32.ofInt_add, ← Int32.ofInt_sub, ← Int32.ofInt_mul]; done) | exact congrArg Int32.ofInt (by omega) | rfl))
        rw [es] at hp
        rw [ev p]
        by_cases z : p = sd (t (19 + l)) i - 1
        · rw [if_pos z, z, q_sl_s]
          rfl
        · rw [if_neg z, q_sl_n z]
          exact hm p (by omega)
      · rw [if_neg q30] at es
        have s2 := c4 qv q30
        have ev : ∀ p, evS (t (19 + l)) F (i + 1) p = if p = sd (t (19 + l)) i - 2 then jn c (evS (t (19 + l)) F i (sd (t (19 + l)) i - 2)) (evS (t (19 + l)) F i (sd (t (19 + l)) i - 1)) else evS (t (19 + l)) F i p := fun p => by
          show (if isVal (t (19 + l) i) then _ else if t (19 + l) i = 30 then _ else (if p = _ then jn (t (19 + l) i) _ _ else _)) = _
          rw [hcd, if_neg (by rw [qv]; decide), if_neg q30]
        have csb : 20000 ≤ cS c ∧ cS c ≤ 20062 ∧ ¬ cS c = 20002 := by
          obtain rfl | rfl | rfl | rfl | rfl | rfl | rfl | rfl | rfl | rfl : c = 20 ∨ c = 21 ∨ c = 22 ∨ c = 23 ∨ c = 24 ∨ c = 25 ∨ c = 26 ∨ c = 27 ∨ c = 28 ∨ c = 29 := by omega
          all_goals decide
        have ea := hm (sd (t (19 + l)) i - 2) (by omega)
        have eb := hm (sd (t (19 + l)) i - 1) (by omega)
        refine z_le 20000 (cS c) (fun _ => ?_) (fun z => by omega)
        refine z_ne (cS c) 20002 (fun _ => ?_) (fun z => by omega)
        refine z_le (sd (t (19 + l)) i) 1 (fun z => by omega) (fun _ => ?_)
        refine ⟨sd (t (19 + l)) i - 2, _, q_m2 (by omega), by (dsimp only; omega), ea, ?_⟩
        refine ⟨sd (t (19 + l)) i - 1, _, q_m1 (by omega), by (dsimp only; omega), eb, ?_⟩
        refine k2_join c (by omega) ?_ (ha := rfl)
        refine ⟨sd (t (19 + l)) i - 2, _, q_m2 (by omega), by (dsimp only; omega), rfl, ?_⟩
        refine ih _ ⟨hf.s2, fun p hp => ?_⟩ _ _ _ (by rw [es]; exact q_m1 (by omega)) (by (first | assumption | (simp only [z_nat, z_lit, ← Int32.ofInt_add, ← Int32.ofInt_sub, ← Int32.ofInt_mul]; exact congrArg Int32.ofInt (by omega)) | (simp only [z_nat, z_lit, ← Int32.ofInt_add, ← Int32.ofInt_sub, ← Int32.ofInt_mul]; done) | exact congrArg Int32.ofInt (by omega) | rfl))
        rw [es] at hp
        rw [ev p]
        by_cases z : p = sd (t (19 + l)) i - 2
        · rw [if_pos z, z, q_sl_s]
        · rw [if_neg z, q_sl_n z]
          exact hm p (by omega)
end L2
