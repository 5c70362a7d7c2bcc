/-! orders: which dives stay, the class's side -/
/-- a set out of the places that don't stay -/
def poL (f : Nat → Bool) (ro : Nat → Nat) : Nat → Nat
  | 0 => 0
  | k + 1 => if f k = true then poL f ro k else poL f ro k ||| 2 ^ ro k
theorem poL_b {f : Nat → Bool} {ro : Nat → Nat} : ∀ {k : Nat}, (∀ p, p < k → ro p < 10) → poL f ro k < 2 ^ 10
  | 0, _ => (by decide : 0 < 2 ^ 10)
  | k + 1, h => by
    have a := poL_b (f := f) (k := k) (fun p hp => h p (by omega))
    show (if f k = true then poL f ro k else poL f ro k ||| 2 ^ ro k) < _
    split
    · exact a
    · exact or_b a (h k (by omega))
theorem poL_t {f : Nat → Bool} {ro : Nat → Nat} {x : Nat} : ∀ {k : Nat}, (poL f ro k).testBit x = true ↔ ∃ q, q < k ∧ f q = false ∧ ro q = x
  | 0 => ⟨fun z => (by rw [show poL f ro 0 = 0 from rfl, Nat.zero_testBit] at z; cases z), fun ⟨q, hq, _⟩ => absurd hq (Nat.not_lt_zero _)⟩
  | k + 1 => by
    have ih := poL_t (f := f) (ro := ro) (x := x) (k := k)
    show (if f k = true then poL f ro k else poL f ro k ||| 2 ^ ro k).testBit x = true ↔ _
    by_cases h : f k = true
    · rw [if_pos h]
      refine ⟨fun z => ?_, fun ⟨q, hq, h1, h2⟩ => ?_⟩
      · obtain ⟨q, hq, h1, h2⟩ := ih.mp z
        exact ⟨q, by omega, h1, h2⟩
      · refine ih.mpr ⟨q, ?_, h1, h2⟩
        by_cases w : q = k
        · rw [w, h] at h1
          cases h1
        · omega
    · rw [if_neg h, Nat.testBit_or, Nat.testBit_two_pow, Bool.or_eq_true, decide_eq_true_iff]
      refine ⟨fun z => ?_, fun ⟨q, hq, h1, h2⟩ => ?_⟩
      · rcases z with z | z
        · obtain ⟨q, hq, h1, h2⟩ := ih.mp z
          exact ⟨q, by omega, h1, h2⟩
        · exact ⟨k, by omega, Bool.eq_false_iff.mpr h, z⟩
      · by_cases w : q = k
        · right
          rw [← w, h2]
        · exact Or.inl (ih.mpr ⟨q, by omega, h1, h2⟩)
section OR
variable {L : Nat} {xs : Nat → Int32} {E : q_E} {d : Nat} {M : q_M} {t : q_T} {n : sN} {Q : Option Value → q_M → Prop} {P : q_M → Prop}
/-- a dive that stays where it is -/
def fxB (t : q_T) (n : sN) (e p : Nat) : Bool := decide (n (576 + (6 * e + p)) = 1 ∨ ((¬ t 0 0 = 0 ∧ ¬ n 633 = 1) ∧ bE n = e ∧ bR n = p))
theorem fxB_t {e p : Nat} : fxB t n e p = true ↔ (n (576 + (6 * e + p)) = 1 ∨ (isB t n ∧ bE n = e ∧ bR n = p)) := decide_eq_true_iff
theorem fxB_f {e p : Nat} (h : ¬ n (576 + (6 * e + p)) = 1) (h' : ¬ (isB t n ∧ bE n = e ∧ bR n = p)) : fxB t n e p = false := Bool.eq_false_iff.mpr (fun z => (fxB_t.mp z).elim h h')
/-- what may stand where, what counts -/
def alO (t : q_T) (n : sN) (e p x : Nat) : Bool := if fxB t n e p = true then decide (x = roE n e p) else (poL (fxB t n e) (roE n e) (t 0 0)).testBit x
def wtO (n : sN) (e un p : Nat) : Bool := decide (n (576 + (6 * e + p)) = 0 ∧ p + 1 ≤ un)
theorem wtO_t {e un p : Nat} : wtO n e un p = true ↔ (n (576 + (6 * e + p)) = 0 ∧ p + 1 ≤ un) := decide_eq_true_iff
set_option maxRecDepth 100000 in
set_option maxHeartbeats 4000000 in
theorem k2_isFixed (g : g_Z 43 M t n) (hJ : b_J t n) {a b : Int32} (e r : Nat) (he : e < t 8 0) (hr : r < t 0 0) (h1 : fxB t n e r = true → Q (some (.int 1)) M) (h0 : fxB t n e r = false → Q (some (.int 0)) M) (ha : a = nI e := by (first | assumption | (simp only [z_nat, z_lit, ← Int32.ofInt_add, ← Int32.ofInt_sub, ← Int32.ofInt_mul]; exact congrArg Int32.ofInt (by omega)) | (simp only [z_nat, z_lit, ← Int32.ofInt_add, ← Int32.ofInt_sub, ← Int32.ofInt_mul]; done) | exact congrArg Int32.ofInt (by omega) | rfl)) (hb : b = nI (r + 1) := by (first | assumption | (simp only [z_nat, z_lit, ← Int32.ofInt_add, ← Int32.ofInt_sub, ← Int32.ofInt_mul]; exact congrArg Int32.ofInt (by omega)) | (simp only [z_nat, z_lit, ← Int32.ofInt_add, ← Int32.ofInt_sub, ← Int32.ofInt_mul]; done) | exact congrArg Int32.ofInt (by omega) | rfl)) : q_C q_mt (L, xs, q_shp) E nX10_isFixed (d + 2) 0 0 [.ref 244, .int (a), .int (b)] M Q := by
  subst ha hb
  have h6 := g.R.e6
  have h7 := g.R.r6
  have e1 := g.dv
  have e2 := g.rn
  have hp := ptE_c g.R (dr := t 1 0) (bar := -1) he hr
  refine w_in 90 [] ?_
  refine k2_pointsOf_43 g e r he hr (fun hg => ?_) (fun hg => ?_)
  · exact z_le 0 (ptE t n e r (t 1 0) (-1)) (fun _ => ⟨z_1, h1 (fxB_t.mpr (Or.inl hg))⟩) (fun z => by omega)
  · have no : ¬ (isB t n ∧ bE n = e ∧ bR n = r) → fxB t n e r = false := fxB_f (by omega)
    refine z_le 0 (-1) (fun z => by omega) (fun _ => ?_)
    by_cases q : isB t n
    · have hB := hJ.B h6 q
      have hbe := hB.2.1
      have h31 := hB.2.2.2.1
      have hbr := hB.2.2.1
      rw [brd_at hB] at e1
      rw [h31] at e2
      refine ⟨_, e1, ?_⟩
      refine z_ne (bE n : Int) (e : Int) (fun z => ⟨z_0, h0 (no (fun y => z (by rw [y.2.1])))⟩) (fun z => ?_)
      refine ⟨_, e2, ?_⟩
      exact z_ne ((bR n : Int) + 1) ((r + 1 : Nat) : Int) (fun y => ⟨z_0, h0 (no (fun w => y (by rw [w.2.2]; omega)))⟩) (fun y => ⟨z_1, h1 (fxB_t.mpr (Or.inr ⟨q, by omega, by omega⟩))⟩)
    · rw [brd_no q] at e1
      refine ⟨_, e1, ?_⟩
      exact z_ne (-1) (e : Int) (fun _ => ⟨z_0, h0 (no (fun y => q y.1))⟩) (fun z => by omega)
set_option maxRecDepth 100000 in
set_option maxHeartbeats 4000000 in
theorem k2_allowOrders (g : g_Z 43 M t n) (hJ : b_J t n) {a b : Int32} (e un : Nat) (he : e < t 8 0) (hun : un ≤ 6) (hQ : ∀ M', q_fs [249, 250] [] M M' → g_al M' t (alO t n e) (wtO n e un) → Q none M') (ha : a = nI e := by (first | assumption | (simp only [z_nat, z_lit, ← Int32.ofInt_add, ← Int32.ofInt_sub, ← Int32.ofInt_mul]; exact congrArg Int32.ofInt (by omega)) | (simp only [z_nat, z_lit, ← Int32.ofInt_add, ← Int32.ofInt_sub, ← Int32.ofInt_mul]; done) | exact congrArg Int32.ofInt (by omega) | rfl)) (hb : b = nI un := by (first | assumption | (simp only [z_nat, z_lit, ← Int32.ofInt_add, ← Int32.ofInt_sub, ← Int32.ofInt_mul]; exact congrArg Int32.ofInt (by omega)) | (simp only [z_nat, z_lit, ← Int32.ofInt_add, ← Int32.ofInt_sub, ← Int32.ofInt_mul]; done) | exact congrArg Int32.ofInt (by omega) | rfl)) : q_C q_mt (L, xs, q_shp) E nX10_allowOrders (d + 3) 0 0 [.ref 244, .int (a), .int (b)] M Q := by
  subst ha hb
  have h6 := g.R.e6
  have h7 := g.R.r6
  have h10 := g.R.d10
  have hd := ro_d g.R he
  have r10 : ∀ p, p < t 0 0 → roE n e p < 10 := fun p hp => by have := hd.1 p hp; omega
  have pb : ∀ k, k ≤ t 0 0 → poL (fxB t n e) (roE n e) k < 1024 := fun k hk => poL_b (fun p hp => r10 p (by omega))
  have W2 : ∀ M1, q_fs [249, 250] [] M M1 → (∀ p, p < t 0 0 → M1.1 249 p = nI (2 ^ roE n e p) ∧ M1.1 250 p = Int32.ofInt (if wtO n e un p = true then 1 else 0)) → ∀ x5 x6, q_G q_mt (L, xs, q_shp) E nX10_allowOrders (d + 3) 0 0 (q_Q (L, xs, q_shp) E Q) 115 [some (.ref 244), some (.int (nI e)), some (.int (nI un)), some (.int (nI (poL (fxB t n e) (roE n e) (t 0 0)))), some (.int (nI 1)), x5, x6] [] M1 := by
    intro M1 hf1 hm1 x5 x6
    have W := lp_m (W := fun k M' => ∀ v, v = nI (k + 1) → q_G q_mt (L, xs, q_shp) E nX10_allowOrders (d + 3) 0 0 (q_Q (L, xs, q_shp) E Q) 115 [some (.ref 244), some (.int (nI e)), some (.int (nI un)), some (.int (nI (poL (fxB t n e) (roE n e) (t 0 0)))), some (.int (v)), x5, x6] [] M') (J := fun k M' => q_fs [249, 250] [] M M' ∧ M'.1 250 = M1.1 250 ∧ ∀ p, p < t 0 0 → M'.1 249 p = if p < k ∧ fxB t n e p = false then nI (poL (fxB t n e) (roE n e) (t 0 0)) else nI (2 ^ roE n e p)) (t 0 0) ?_ ?_ 0 M1 (Nat.zero_le _) ⟨hf1, rfl, fun p hp => by rw [if_neg (fun w => Nat.not_lt_zero _ w.1)]; exact (hm1 p hp).1⟩
    · exact W _ rfl
    · rintro M' ⟨hf, h50, hm⟩ v rfl
      have g' : g_Z 43 M' t n := g.f3 hf
      refine w_at 90 [5, 91, 115] ?_
      refine ⟨_, g'.ro, ?_⟩
      refine z_lt (t 0 0) ((t 0 0 + 1 : Nat) : Int) (fun _ => hQ M' hf (fun p hp => ⟨fun x hx => ?_, by rw [h50]; exact (hm1 p hp).2⟩)) (fun z => by omega)
      rw [hm p hp]
      unfold alO
      by_cases q : fxB t n e p = true
      · rw [if_neg (fun z => by rw [q] at z; cases z.2), if_pos q, bt_nat (by omega), Nat.testBit_two_pow]
        exact decide_eq_decide.mpr ⟨fun z => z.symm, fun z => z.symm⟩
      · rw [if_pos ⟨hp, Bool.eq_false_iff.mpr q⟩, if_neg q, bt_nat (by omega)]
    · rintro k M' hk ⟨hf, h50, hm⟩ ih v rfl
      have g' : g_Z 43 M' t n := g.f3 hf
      have oth : ∀ p, ¬ p = k → (if p < k ∧ fxB t n e p = false then nI (poL (fxB t n e) (roE n e) (t 0 0)) else nI (2 ^ roE n e p)) = if p < k + 1 ∧ fxB t n e p = false then nI (poL (fxB t n e) (roE n e) (t 0 0)) else nI (2 ^ roE n e p) := fun p z => by
        by_cases y : p < k ∧ fxB t n e p = false
        · rw [if_pos y, if_pos ⟨Nat.lt_succ_of_lt y.1, y.2⟩]
        · rw [if_neg y, if_neg (fun w => y ⟨by have := w.1; omega, w.2⟩)]
      refine w_at 90 [5, 91, 115] ?_
      refine ⟨_, g'.ro, ?_⟩
      refine z_lt (t 0 0) ((k + 1 : Nat) : Int) (fun z => by omega) (fun _ => ?_)
      refine k2_isFixed g' hJ e k he hk (fun q => bn_t (by decide) ?_) (fun q => bn_f (by decide) ?_)
      · refine ih _ ⟨hf, h50, fun p hp => ?_⟩ _ (by (first | assumption | (simp only [z_nat, z_lit, ← Int32.ofInt_add, ← Int32.ofInt_sub, ← Int32.ofInt_mul]; exact congrArg Int32.ofInt (by omega)) | (simp only [z_nat, z_lit, ← Int32.ofInt_add, ← Int32.ofInt_sub, ← Int32.ofInt_mul]; done) | exact congrArg Int32.ofInt (by omega) | rfl))
        rw [hm p hp]
        by_cases z : p = k
        · rw [z, if_neg (fun w => Nat.lt_irrefl _ w.1), if_neg (fun w => by rw [q] at w; cases w.2)]
        · exact oth p z
      · refine ⟨k, _, by (first | assumption | (simp only [z_nat, z_lit, ← Int32.ofInt_add, ← Int32.ofInt_sub, ← Int32.ofInt_mul]; exact congrArg Int32.ofInt (by omega)) | (simp only [z_nat, z_lit, ← Int32.ofInt_add, ← Int32.ofInt_sub, ← Int32.ofInt_mul]; done) | exact congrArg Int32.ofInt (by omega) | rfl), by (dsimp only; omega), rfl, ?_⟩
        refine ih _ ⟨hf.s1, by exact h50, fun p hp => ?_⟩ _ (by (first | assumption | (simp only [z_nat, z_lit, ← Int32.ofInt_add, ← Int32.ofInt_sub, ← Int32.ofInt_mul]; exact congrArg Int32.ofInt (by omega)) | (simp only [z_nat, z_lit, ← Int32.ofInt_add, ← Int32.ofInt_sub, ← Int32.ofInt_mul]; done) | exact congrArg Int32.ofInt (by omega) | rfl))
        by_cases z : p = k
        · rw [z, q_si_s, if_pos ⟨Nat.lt_succ_self k, q⟩]
        · rw [q_si_n z, hm p hp]
          exact oth p z
  have W := lp_m (W := fun k M' => ∀ u v x5 x6, u = nI (poL (fxB t n e) (roE n e) k) → v = nI (k + 1) → q_G q_mt (L, xs, q_shp) E nX10_allowOrders (d + 3) 0 0 (q_Q (L, xs, q_shp) E Q) 5 [some (.ref 244), some (.int (nI e)), some (.int (nI un)), some (.int (u)), some (.int (v)), x5, x6] [] M') (J := fun k M' => q_fs [249, 250] [] M M' ∧ ∀ p, p < k → M'.1 249 p = nI (2 ^ roE n e p) ∧ M'.1 250 p = Int32.ofInt (if wtO n e un p = true then 1 else 0)) (t 0 0) ?_ ?_ 0 M (Nat.zero_le _) ⟨q_fs.rf, fun p hp => by omega⟩
  · refine w_in 90 [5, 91, 115] ?_
    exact W _ _ _ _ rfl rfl
  · rintro M' ⟨hf, hm⟩ u v x5 x6 rfl rfl
    have g' : g_Z 43 M' t n := g.f3 hf
    refine w_at 90 [5, 91, 115] ?_
    refine ⟨_, g'.ro, ?_⟩
    exact z_lt (t 0 0) ((t 0 0 + 1 : Nat) : Int) (fun _ => W2 M' hf hm _ _) (fun z => by omega)
  · rintro k M' hk ⟨hf, hm⟩ ih u v x5 x6 rfl rfl
    have g' : g_Z 43 M' t n := g.f3 hf
    have bsl := (g.R.bs he hk).1
    have hp := ptE_c g.R (dr := t 1 0) (bar := -1) he hk
    have e44 : M'.1 44 (6 * e + k) = nI (roE n e k) := by
      have a := g'.li he hk
      rw [show n (6 * e + k) = (roE n e k : Int) by show _ = (((n (6 * e + k)).toNat : Nat) : Int); omega] at a
      exact a
    have t91 : ∀ M2 x6, q_fs [249, 250] [] M M2 → (∀ p, p < k + 1 → M2.1 249 p = nI (2 ^ roE n e p) ∧ M2.1 250 p = Int32.ofInt (if wtO n e un p = true then 1 else 0)) → q_G q_mt (L, xs, q_shp) E nX10_allowOrders (d + 3) 0 0 (q_Q (L, xs, q_shp) E Q) 91 [some (.ref 244), some (.int (nI e)), some (.int (nI un)), some (.int (nI (poL (fxB t n e) (roE n e) k))), some (.int (nI (k + 1))), some (.int (((1 : Int32) <<< (nI (roE n e k) &&& 31)))), x6] [] M2 := by
      intro M2 x6 hf2 hm2
      have g2 : g_Z 43 M2 t n := g.f3 hf2
      refine w_at 90 [5, 91, 115] ?_
      refine k2_isFixed g2 hJ e k he hk (fun q => bn_t (by decide) ?_) (fun q => bn_f (by decide) ?_)
      · refine ih M2 ⟨hf2, hm2⟩ _ _ _ _ ?_ (by (first | assumption | (simp only [z_nat, z_lit, ← Int32.ofInt_add, ← Int32.ofInt_sub, ← Int32.ofInt_mul]; exact congrArg Int32.ofInt (by omega)) | (simp only [z_nat, z_lit, ← Int32.ofInt_add, ← Int32.ofInt_sub, ← Int32.ofInt_mul]; done) | exact congrArg Int32.ofInt (by omega) | rfl))
        show _ = nI (if fxB t n e k = true then _ else _)
        rw [if_pos q]
      · refine ih M2 ⟨hf2, hm2⟩ _ _ _ _ ?_ (by (first | assumption | (simp only [z_nat, z_lit, ← Int32.ofInt_add, ← Int32.ofInt_sub, ← Int32.ofInt_mul]; exact congrArg Int32.ofInt (by omega)) | (simp only [z_nat, z_lit, ← Int32.ofInt_add, ← Int32.ofInt_sub, ← Int32.ofInt_mul]; done) | exact congrArg Int32.ofInt (by omega) | rfl))
        show _ = nI (if fxB t n e k = true then _ else _)
        rw [if_neg (by rw [q]; decide)]
        exact or_nI (pb k (by omega)) (r10 k hk)
    have j91 : ∀ w : Int32, w = Int32.ofInt (if wtO n e un k = true then 1 else 0) → ∀ p, p < k + 1 → (q_si (q_si M' 249 k ((1 : Int32) <<< (nI (roE n e k) &&& 31))) 250 k w).1 249 p = nI (2 ^ roE n e p) ∧ (q_si (q_si M' 249 k ((1 : Int32) <<< (nI (roE n e k) &&& 31))) 250 k w).1 250 p = Int32.ofInt (if wtO n e un p = true then 1 else 0) := by
      rintro w rfl p hpk
      refine ⟨?_, ?_⟩
      · rw [q_si_nn (by omega)]
        by_cases z : p = k
        · rw [z, q_si_s]
          exact sh_nI _ (by have := r10 k hk; omega)
        · rw [q_si_n z]
          exact (hm p (by omega)).1
      · by_cases z : p = k
        · rw [z, q_si_s]
        · rw [q_si_n z, q_si_nn (by omega)]
          exact (hm p (by omega)).2
    have g2 : ∀ x, g_Z 43 (q_si M' 249 k x) t n := fun x => g.f3 (show q_fs [249, 250] [] M (q_si M' 249 k x) from hf.s1)
    refine w_at 90 [5, 91, 115] ?_
    refine ⟨_, g'.ro, ?_⟩
    refine z_lt (t 0 0) ((k + 1 : Nat) : Int) (fun z => by omega) (fun _ => ?_)
    refine k2_cellOf e k ?_
    refine ⟨6 * e + k, _, by (first | assumption | (simp only [z_nat, z_lit, ← Int32.ofInt_add, ← Int32.ofInt_sub, ← Int32.ofInt_mul]; exact congrArg Int32.ofInt (by omega)) | (simp only [z_nat, z_lit, ← Int32.ofInt_add, ← Int32.ofInt_sub, ← Int32.ofInt_mul]; done) | exact congrArg Int32.ofInt (by omega) | rfl), by (dsimp only; omega), e44, ?_⟩
    refine ⟨k, _, by (first | assumption | (simp only [z_nat, z_lit, ← Int32.ofInt_add, ← Int32.ofInt_sub, ← Int32.ofInt_mul]; exact congrArg Int32.ofInt (by omega)) | (simp only [z_nat, z_lit, ← Int32.ofInt_add, ← Int32.ofInt_sub, ← Int32.ofInt_mul]; done) | exact congrArg Int32.ofInt (by omega) | rfl), by (dsimp only; omega), rfl, ?_⟩
    refine k2_pointsOf_43 (g2 _) e k he hk (fun hg => ?_) (fun hg => ?_)
    · refine z_lt (ptE t n e k (t 1 0) (-1)) 0 (fun z => by omega) (fun _ => ?_)
      refine z_ne 1 0 (fun _ => ?_) (fun z => by omega)
      refine ⟨k, _, by (first | assumption | (simp only [z_nat, z_lit, ← Int32.ofInt_add, ← Int32.ofInt_sub, ← Int32.ofInt_mul]; exact congrArg Int32.ofInt (by omega)) | (simp only [z_nat, z_lit, ← Int32.ofInt_add, ← Int32.ofInt_sub, ← Int32.ofInt_mul]; done) | exact congrArg Int32.ofInt (by omega) | rfl), by (dsimp only; omega), rfl, ?_⟩
      exact t91 _ _ hf.s1.s1 (j91 _ (by rw [if_neg (fun y => by have := (wtO_t.mp y).1; omega)]))
    · refine z_lt (-1) 0 (fun _ => ?_) (fun z => by omega)
      refine z_ne 0 0 (fun z => absurd rfl z) (fun _ => ?_)
      refine z_le ((k + 1 : Nat) : Int) un (fun z => ?_) (fun z => ?_)
      · refine ⟨k, _, by (first | assumption | (simp only [z_nat, z_lit, ← Int32.ofInt_add, ← Int32.ofInt_sub, ← Int32.ofInt_mul]; exact congrArg Int32.ofInt (by omega)) | (simp only [z_nat, z_lit, ← Int32.ofInt_add, ← Int32.ofInt_sub, ← Int32.ofInt_mul]; done) | exact congrArg Int32.ofInt (by omega) | rfl), by (dsimp only; omega), rfl, ?_⟩
        exact t91 _ _ hf.s1.s1 (j91 _ (by rw [if_pos (wtO_t.mpr ⟨hg, by omega⟩)]))
      · refine ⟨k, _, by (first | assumption | (simp only [z_nat, z_lit, ← Int32.ofInt_add, ← Int32.ofInt_sub, ← Int32.ofInt_mul]; exact congrArg Int32.ofInt (by omega)) | (simp only [z_nat, z_lit, ← Int32.ofInt_add, ← Int32.ofInt_sub, ← Int32.ofInt_mul]; done) | exact congrArg Int32.ofInt (by omega) | rfl), by (dsimp only; omega), rfl, ?_⟩
        exact t91 _ _ hf.s1.s1 (j91 _ (by rw [if_neg (fun y => by have := (wtO_t.mp y).2; omega)]))
end OR
