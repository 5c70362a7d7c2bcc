/-! rows of dives as sets; the reference's laws -/
def stO (row : Nat → Nat) : Nat → Nat
  | 0 => 0
  | k + 1 => stO row k ||| 2 ^ row k
section ST
variable {row : Nat → Nat} {k D : Nat}
theorem stO_s {d : Nat} : (stO row (k + 1)).testBit d = ((stO row k).testBit d || decide (row k = d)) := by
  show (stO row k ||| 2 ^ row k).testBit d = _
  rw [Nat.testBit_or, Nat.testBit_two_pow]
theorem stO_iff {d : Nat} : (stO row k).testBit d = true ↔ ∃ p, p < k ∧ row p = d := by
  induction k with
  | zero =>
    constructor
    · intro h
      rw [show stO row 0 = 0 from rfl, Nat.zero_testBit] at h
      cases h
    · rintro ⟨p, hp, _⟩
      omega
  | succ k ih =>
    rw [stO_s, Bool.or_eq_true, ih, decide_eq_true_eq]
    constructor
    · rintro (⟨p, hp, e⟩ | e)
      · exact ⟨p, by omega, e⟩
      · exact ⟨k, by omega, e⟩
    · rintro ⟨p, hp, e⟩
      by_cases q : p = k
      · exact Or.inr (by rw [← q]; exact e)
      · exact Or.inl ⟨p, by omega, e⟩
theorem stO_b (h : ∀ p, p < k → row p < 10) : stO row k < 1024 := by
  induction k with
  | zero => show 0 < 1024; decide
  | succ k ih =>
    have a := ih (fun p hp => h p (by omega))
    have b : 2 ^ row k < 2 ^ 10 := Nat.pow_lt_pow_right (by decide) (h k (by omega))
    exact Nat.or_lt_two_pow (n := 10) a b
theorem sm_upd {f f' : Nat → Nat} {r v : Nat} : ∀ {k : Nat}, r < k → f' r = f r + v → (∀ i, i < k → ¬ i = r → f' i = f i) → fb_sm f' k = fb_sm f k + v
  | 0, h, _, _ => by omega
  | k + 1, h, h1, hn => by
    rw [fb_sm_succ, fb_sm_succ]
    by_cases q : k = r
    · rw [fb_sm_cong (fun i hi => hn i (by omega) (by omega)), q, h1]
      omega
    · rw [sm_upd (k := k) (by omega) h1 (fun i hi z => hn i (by omega) z), hn k (by omega) q]
      omega
/-- rows of unlike dives -/
def dst (row : Nat → Nat) (k D : Nat) : Prop := (∀ p, p < k → row p < D) ∧ ∀ p p', p < k → p' < k → ¬ p = p' → ¬ row p = row p'
theorem dst.le {j : Nat} (h : dst row k D) (hj : j ≤ k) : dst row j D := ⟨fun p hp => h.1 p (by omega), fun p p' a b => h.2 p p' (by omega) (by omega)⟩
theorem dst.new (h : dst row (k + 1) D) : (stO row k).testBit (row k) = false := by
  cases q : (stO row k).testBit (row k) with
  | false => rfl
  | true =>
    obtain ⟨p, hp, e⟩ := stO_iff.mp q
    exact absurd e (h.2 p k (by omega) (by omega) (by omega))
theorem stO_sum {f : Nat → Nat} (h : dst row k D) : fb_sm (fun o => if (stO row k).testBit o = true then f o else 0) D = fb_sm (fun p => f (row p)) k := by
  induction k with
  | zero =>
    have : ∀ m, fb_sm (fun o => if (stO row 0).testBit o = true then f o else 0) m = 0 := by
      intro m
      induction m with
      | zero => rfl
      | succ m ih =>
        rw [fb_sm_succ, ih, if_neg]
        rw [show stO row 0 = 0 from rfl, Nat.zero_testBit]
        decide
    exact this D
  | succ k ih =>
    rw [fb_sm_succ, ← ih (h.le (by omega))]
    refine sm_upd (r := row k) (h.1 k (by omega)) ?_ (fun i hi hne => ?_)
    · rw [stO_s, h.new, decide_eq_true rfl, if_pos (by decide), if_neg (by decide), Nat.zero_add]
    · rw [stO_s, decide_eq_false (fun z => hne z.symm), Bool.or_false]
theorem stO_ct {q : Nat → Bool} (h : dst row k D) : fb_ct (fun o => (stO row k).testBit o && q o) D = fb_ct (fun p => q (row p)) k := by
  induction k with
  | zero => exact fb_ct_zero.mpr (fun o ho => by rw [show stO row 0 = 0 from rfl, Nat.zero_testBit]; rfl)
  | succ k ih =>
    have e := ih (h.le (by omega))
    have same : ∀ i, i < D → ¬ i = row k → ((stO row (k + 1)).testBit i && q i) = ((stO row k).testBit i && q i) := fun i _ hne => by
      rw [stO_s, decide_eq_false (fun z => hne z.symm), Bool.or_false]
    cases z : q (row k) with
    | true =>
      rw [ct_t (p := fun p => q (row p)) z, ← e]
      refine ct_upd (r := row k) (h.1 k (by omega)) ?_ ?_ same
      · rw [h.new]; rfl
      · rw [stO_s, decide_eq_true rfl, Bool.or_true, z]; rfl
    | false =>
      rw [ct_f (p := fun p => q (row p)) z, ← e]
      refine fb_ct_cong (fun i hi => ?_)
      by_cases w : i = row k
      · rw [w, z, Bool.and_false, Bool.and_false]
      · exact same i hi w
theorem stO_pc (h : dst row k D) (hD : D ≤ 11) : fb_ct (fun j => (stO row k).testBit j) 11 = k := by
  have h' : dst row k 11 := ⟨fun p hp => Nat.lt_of_lt_of_le (h.1 p hp) hD, h.2⟩
  have := stO_ct (q := fun _ => true) h'
  rw [fb_ct_all.mpr (fun _ _ => rfl)] at this
  exact (fb_ct_cong (fun i _ => by rw [Bool.and_true])).trans this
theorem or_nI {S d : Nat} (hS : S < 1024) (hd : d < 10) : nI S ||| ((1 : Int32) <<< (nI d &&& 31)) = nI (S ||| 2 ^ d) := b_ext (fun i hi => by
  rw [b_set (by omega) hi, bt_nat hi, bt_nat hi, Nat.testBit_or, Nat.testBit_two_pow]
  congr 1
  exact decide_eq_decide.mpr ⟨fun z => z.symm, fun z => z.symm⟩)
end ST
/-- a row obeys at a place -/
def obey (t : q_T) (S x pr : Nat) : Prop := ∀ l, l < t 17 0 → lwS t l S x pr = true
/-- the first law that is not so -/
def isBk (t : q_T) (S x pr l : Nat) : Prop := l < t 17 0 ∧ lwS t l S x pr = false ∧ ∀ i, i < l → lwS t i S x pr = true
section LR
variable {L : Nat} {xs : Nat → Int32} {E : q_E} {d : Nat} {M : q_M} {t : q_T} {n : sN} {Q : Option Value → q_M → Prop} {P : q_M → Prop}
theorem gsB_row {row : Nat → Nat} {k j : Nat} (h : dst row (k + 1) (t 5 0)) : gsB t (stO row k) (row k) (t 5 0) j = decide (0 < fb_ct (fun p => decide (t 6 (row p) = j)) (k + 1)) := by
  unfold gsB
  rw [stO_ct (q := fun o => decide (t 6 o = j)) (h.le (by omega))]
  by_cases q : j = t 6 (row k)
  · rw [decide_eq_true q, Bool.true_or, ct_t (p := fun p => decide (t 6 (row p) = j)) (decide_eq_true q.symm), decide_eq_true (Nat.succ_pos _)]
  · rw [decide_eq_false q, Bool.false_or, ct_f (p := fun p => decide (t 6 (row p) = j)) (decide_eq_false (fun z => q z.symm))]
set_option maxRecDepth 100000 in
set_option maxHeartbeats 4000000 in
theorem k_bits2 {x : Int32} {p : Nat → Bool} (h : ∀ j, j < 32 → bt x j = (decide (j < 11) && p j)) (hQ : Q (some (.int (nI (fb_ct p 11)))) M) : q_C q_mt (L, xs, q_shp) E nX12_bits (d) 0 0 [.int (x)] M Q := by
  obtain ⟨K, hK, rfl⟩ := wb_of32 x
  have h2 : K < 2048 := by
    refine Nat.lt_pow_two_of_testBit (n := 11) K (fun i hi => ?_)
    by_cases q : i < 32
    · rw [← bt_nat q, h i q, decide_eq_false (by omega), Bool.false_and]
    · exact Nat.testBit_lt_two_pow (Nat.lt_of_lt_of_le hK (Nat.pow_le_pow_right (by decide) (by omega)))
  refine k_bits K h2 ?_
  rw [fb_ct_cong (q := p) (fun j hj => by rw [← bt_nat (by omega), h j (by omega), decide_eq_true hj, Bool.true_and])]
  exact hQ
set_option maxRecDepth 100000 in
set_option maxHeartbeats 4000000 in
theorem k_partOf (g : g_R M t n) {row : Nat → Nat} {a b e : Int32} (k c pr : Nat) (hk : k < 6) (hrow : ∀ p, p ≤ k → M.1 289 p = nI (row p)) (hd : dst row (k + 1) (t 5 0)) (hc : 1 ≤ c ∧ c ≤ 8) (hp : pr ≤ 1) (hQ : Q (some (.long (fcL t (stO row k) (row k) pr (c - 1)))) M) (ha : a = nI c := by (first | assumption | (simp only [z_nat, z_lit, ← Int32.ofInt_add, ← Int32.ofInt_sub, ← Int32.ofInt_mul]; exact congrArg Int32.ofInt (by omega)) | (simp only [z_nat, z_lit, ← Int32.ofInt_add, ← Int32.ofInt_sub, ← Int32.ofInt_mul]; done) | exact congrArg Int32.ofInt (by omega) | rfl)) (hb : b = nI pr := by (first | assumption | (simp only [z_nat, z_lit, ← Int32.ofInt_add, ← Int32.ofInt_sub, ← Int32.ofInt_mul]; exact congrArg Int32.ofInt (by omega)) | (simp only [z_nat, z_lit, ← Int32.ofInt_add, ← Int32.ofInt_sub, ← Int32.ofInt_mul]; done) | exact congrArg Int32.ofInt (by omega) | rfl)) (he : e = nI k := by (first | assumption | (simp only [z_nat, z_lit, ← Int32.ofInt_add, ← Int32.ofInt_sub, ← Int32.ofInt_mul]; exact congrArg Int32.ofInt (by omega)) | (simp only [z_nat, z_lit, ← Int32.ofInt_add, ← Int32.ofInt_sub, ← Int32.ofInt_mul]; done) | exact congrArg Int32.ofInt (by omega) | rfl)) : q_C q_mt (L, xs, q_shp) E nX12_partOf (d + 1) 0 0 [.ref 271, .int (a), .int (b), .int (e)] M Q := by
  subst ha hb he
  have h10 := g.d10
  have h6 := g.r6
  have bk := g.bd (hd.1 k (by omega))
  have W := lp_up (W := fun m => ∀ s u w v, s = nI (fb_sm (fun p => t 7 (row p)) m) → u = nI (fb_ct (fun p => decide (t 6 (row p) = t 6 (row k))) m) → (∀ j, j < 32 → bt w j = decide (0 < fb_ct (fun p => decide (t 6 (row p) = j)) m)) → v = nI m → q_G q_mt (L, xs, q_shp) E nX12_partOf (d + 1) 0 0 (q_Q (L, xs, q_shp) E Q) 24 [some (.ref 271), some (.int (nI c)), some (.int (nI pr)), some (.int (nI k)), some (.int (nI (t 6 (row k)))), some (.int (s)), some (.int (u)), some (.int (w)), some (.int (v))] [] M) (k + 1) ?_ ?_ 0 (Nat.zero_le _)
  · refine w_in 90 [24] ?_
    refine ⟨k, _, by (first | assumption | (simp only [z_nat, z_lit, ← Int32.ofInt_add, ← Int32.ofInt_sub, ← Int32.ofInt_mul]; exact congrArg Int32.ofInt (by omega)) | (simp only [z_nat, z_lit, ← Int32.ofInt_add, ← Int32.ofInt_sub, ← Int32.ofInt_mul]; done) | exact congrArg Int32.ofInt (by omega) | rfl), by (dsimp only; omega), hrow k (Nat.le_refl _), ?_⟩
    refine k_groupOf g (row k) (hd.1 k (by omega)) ?_
    exact W _ _ _ _ rfl rfl (fun j hj => b_0 j) rfl
  · rintro s u w v rfl rfl hw rfl
    have ssm : fb_sm (fun p => t 7 (row p)) (k + 1) ≤ 60 * (k + 1) := sm_le (fun p hp => (g.bd (hd.1 p hp)).2.2.2)
    have sct := fb_ct_le (fun p => decide (t 6 (row p) = t 6 (row k))) (k + 1)
    have gct := fb_ct_le (fun j => gsB t (stO row k) (row k) (t 5 0) j) 11
    have tL : ∀ m : Nat, m < 100000 → (nI m).toInt64 = Int64.ofInt (m : Int) := fun m hm => by rw [z_nat, y_i2l (by omega)]
    have e4 : t 7 (row k) + fb_sm (fun o => if (stO row k).testBit o = true then t 7 o else 0) (t 5 0) = fb_sm (fun p => t 7 (row p)) (k + 1) := by
      rw [stO_sum (hd.le (by omega)), fb_sm_succ]
      omega
    have e5 : 1 + fb_ct (fun o => (stO row k).testBit o && decide (t 6 o = t 6 (row k))) (t 5 0) = fb_ct (fun p => decide (t 6 (row p) = t 6 (row k))) (k + 1) := by
      rw [stO_ct (q := fun o => decide (t 6 o = t 6 (row k))) (hd.le (by omega)), ct_t (p := fun p => decide (t 6 (row p) = t 6 (row k))) (decide_eq_true rfl)]
      omega
    have e1 : fb_ct (fun j => (stO row k).testBit j) 11 = k := stO_pc (hd.le (by omega)) (by omega)
    have hw' : ∀ j, j < 32 → bt w j = (decide (j < 11) && gsB t (stO row k) (row k) (t 5 0) j) := fun j hj => by
      rw [hw j hj, gsB_row hd]
      by_cases q : j < 11
      · rw [decide_eq_true q, Bool.true_and]
      · rw [decide_eq_false q, Bool.false_and]
        have : fb_ct (fun p => decide (t 6 (row p) = j)) (k + 1) = 0 := fb_ct_zero.mpr (fun p hp => decide_eq_false (by have := g.bd (hd.1 p hp); omega))
        rw [this]
        rfl
    unfold fcL fct at hQ
    rw [e4, e5, e1] at hQ
    refine w_at 90 [24] ?_
    refine z_lt (k : Int) ((k + 1 : Nat) : Int) (fun _ => ?_) (fun z => by omega)
    obtain rfl | rfl | rfl | rfl | rfl | rfl | rfl | rfl : c = 1 ∨ c = 2 ∨ c = 3 ∨ c = 4 ∨ c = 5 ∨ c = 6 ∨ c = 7 ∨ c = 8 := by omega
    · refine ⟨fun z => absurd z (by decide), sw_at 0 (by decide) rfl ?_⟩
      refine ⟨0, _, by (first | assumption | (simp only [z_nat, z_lit, ← Int32.ofInt_add, ← Int32.ofInt_sub, ← Int32.ofInt_mul]; exact congrArg Int32.ofInt (by omega)) | (simp only [z_nat, z_lit, ← Int32.ofInt_add, ← Int32.ofInt_sub, ← Int32.ofInt_mul]; done) | exact congrArg Int32.ofInt (by omega) | rfl), by (dsimp only; omega), g.R0, ?_⟩
      have q1 : Q (some (.long (nI (t 0 0)).toInt64)) M := by rw [tL _ (by omega)]; exact hQ
      exact q1
    · refine ⟨fun z => absurd z (by decide), sw_at 1 (by decide) rfl ?_⟩
      have q1 : Q (some (.long (nI k + Int32.ofInt 1).toInt64)) M := by rw [show nI k + Int32.ofInt 1 = nI (k + 1) by (first | assumption | (simp only [z_nat, z_lit, ← Int32.ofInt_add, ← Int32.ofInt_sub, ← Int32.ofInt_mul]; exact congrArg Int32.ofInt (by omega)) | (simp only [z_nat, z_lit, ← Int32.ofInt_add, ← Int32.ofInt_sub, ← Int32.ofInt_mul]; done) | exact congrArg Int32.ofInt (by omega) | rfl), tL _ (by omega)]; exact hQ
      exact q1
    · refine ⟨fun z => absurd z (by decide), sw_at 2 (by decide) rfl ?_⟩
      have q1 : Q (some (.long (nI (t 6 (row k))).toInt64)) M := by rw [tL _ (by omega)]; exact hQ
      exact q1
    · refine ⟨fun z => absurd z (by decide), sw_at 3 (by decide) rfl ?_⟩
      refine ⟨k, _, by (first | assumption | (simp only [z_nat, z_lit, ← Int32.ofInt_add, ← Int32.ofInt_sub, ← Int32.ofInt_mul]; exact congrArg Int32.ofInt (by omega)) | (simp only [z_nat, z_lit, ← Int32.ofInt_add, ← Int32.ofInt_sub, ← Int32.ofInt_mul]; done) | exact congrArg Int32.ofInt (by omega) | rfl), by (dsimp only; omega), hrow k (Nat.le_refl _), ?_⟩
      refine k_degreeOf g (row k) (hd.1 k (by omega)) ?_
      have q1 : Q (some (.long (nI (t 7 (row k))).toInt64)) M := by rw [tL _ (by omega)]; exact hQ
      exact q1
    · refine ⟨fun z => absurd z (by decide), sw_at 4 (by decide) rfl ?_⟩
      have q1 : Q (some (.long (nI (fb_sm (fun p => t 7 (row p)) (k + 1))).toInt64)) M := by rw [tL _ (by omega)]; exact hQ
      exact q1
    · refine ⟨fun z => absurd z (by decide), sw_at 5 (by decide) rfl ?_⟩
      have q1 : Q (some (.long (nI (fb_ct (fun p => decide (t 6 (row p) = t 6 (row k))) (k + 1))).toInt64)) M := by rw [tL _ (by omega)]; exact hQ
      exact q1
    · refine ⟨fun z => absurd z (by decide), sw_at 6 (by decide) rfl ?_⟩
      refine k_bits2 hw' ?_
      have q1 : Q (some (.long (nI (fb_ct (fun j => gsB t (stO row k) (row k) (t 5 0) j) 11)).toInt64)) M := by rw [tL _ (by omega)]; exact hQ
      exact q1
    · refine ⟨fun _ => ?_, sw_no (by decide)⟩
      have q1 : Q (some (.long (nI pr).toInt64)) M := by rw [tL _ (by omega)]; exact hQ
      exact q1
  · rintro m hm ih s u w v rfl rfl hw rfl
    have hmk : m ≤ k := by omega
    have bm := g.bd (hd.1 m hm)
    have ssm : fb_sm (fun p => t 7 (row p)) m ≤ 60 * m := sm_le (fun p hp => (g.bd (hd.1 p (by omega))).2.2.2)
    have sct := fb_ct_le (fun p => decide (t 6 (row p) = t 6 (row k))) m
    refine w_at 90 [24] ?_
    refine z_lt (k : Int) (m : Int) (fun z => by omega) (fun _ => ?_)
    refine ⟨m, _, by (first | assumption | (simp only [z_nat, z_lit, ← Int32.ofInt_add, ← Int32.ofInt_sub, ← Int32.ofInt_mul]; exact congrArg Int32.ofInt (by omega)) | (simp only [z_nat, z_lit, ← Int32.ofInt_add, ← Int32.ofInt_sub, ← Int32.ofInt_mul]; done) | exact congrArg Int32.ofInt (by omega) | rfl), by (dsimp only; omega), hrow m hmk, ?_⟩
    refine k_degreeOf g (row m) (hd.1 m hm) ?_
    refine ⟨m, _, by (first | assumption | (simp only [z_nat, z_lit, ← Int32.ofInt_add, ← Int32.ofInt_sub, ← Int32.ofInt_mul]; exact congrArg Int32.ofInt (by omega)) | (simp only [z_nat, z_lit, ← Int32.ofInt_add, ← Int32.ofInt_sub, ← Int32.ofInt_mul]; done) | exact congrArg Int32.ofInt (by omega) | rfl), by (dsimp only; omega), hrow m hmk, ?_⟩
    refine k_groupOf g (row m) (hd.1 m hm) ?_
    have nx : ∀ (w' : Int32), w' = w ||| ((1 : Int32) <<< (nI (t 6 (row m)) &&& 31)) → ∀ j, j < 32 → bt w' j = decide (0 < fb_ct (fun p => decide (t 6 (row p) = j)) (m + 1)) := fun w' e j hj => by
      rw [e, b_set (by omega) hj, hw j hj]
      by_cases q : j = t 6 (row m)
      · rw [decide_eq_true q, Bool.or_true, ct_t (p := fun p => decide (t 6 (row p) = j)) (decide_eq_true q.symm), decide_eq_true (Nat.succ_pos _)]
      · rw [decide_eq_false q, Bool.or_false, ct_f (p := fun p => decide (t 6 (row p) = j)) (decide_eq_false (fun z => q z.symm))]
    refine z_ne (t 6 (row m)) (t 6 (row k)) (fun h1 => ?_) (fun h1 => ?_)
    · refine ⟨m, _, by (first | assumption | (simp only [z_nat, z_lit, ← Int32.ofInt_add, ← Int32.ofInt_sub, ← Int32.ofInt_mul]; exact congrArg Int32.ofInt (by omega)) | (simp only [z_nat, z_lit, ← Int32.ofInt_add, ← Int32.ofInt_sub, ← Int32.ofInt_mul]; done) | exact congrArg Int32.ofInt (by omega) | rfl), by (dsimp only; omega), hrow m hmk, ?_⟩
      refine k_groupOf g (row m) (hd.1 m hm) ?_
      refine ih _ _ _ _ (by rw [fb_sm_succ]; (first | assumption | (simp only [z_nat, z_lit, ← Int32.ofInt_add, ← Int32.ofInt_sub, ← Int32.ofInt_mul]; exact congrArg Int32.ofInt (by omega)) | (simp only [z_nat, z_lit, ← Int32.ofInt_add, ← Int32.ofInt_sub, ← Int32.ofInt_mul]; done) | exact congrArg Int32.ofInt (by omega) | rfl)) ?_ (nx _ rfl) (by (first | assumption | (simp only [z_nat, z_lit, ← Int32.ofInt_add, ← Int32.ofInt_sub, ← Int32.ofInt_mul]; exact congrArg Int32.ofInt (by omega)) | (simp only [z_nat, z_lit, ← Int32.ofInt_add, ← Int32.ofInt_sub, ← Int32.ofInt_mul]; done) | exact congrArg Int32.ofInt (by omega) | rfl))
      rw [ct_f (p := fun p => decide (t 6 (row p) = t 6 (row k))) (decide_eq_false (by omega))]
      (first | assumption | (simp only [z_nat, z_lit, ← Int32.ofInt_add, ← Int32.ofInt_sub, ← Int32.ofInt_mul]; exact congrArg Int32.ofInt (by omega)) | (simp only [z_nat, z_lit, ← Int32.ofInt_add, ← Int32.ofInt_sub, ← Int32.ofInt_mul]; done) | exact congrArg Int32.ofInt (by omega) | rfl)
    · refine ⟨m, _, by (first | assumption | (simp only [z_nat, z_lit, ← Int32.ofInt_add, ← Int32.ofInt_sub, ← Int32.ofInt_mul]; exact congrArg Int32.ofInt (by omega)) | (simp only [z_nat, z_lit, ← Int32.ofInt_add, ← Int32.ofInt_sub, ← Int32.ofInt_mul]; done) | exact congrArg Int32.ofInt (by omega) | rfl), by (dsimp only; omega), hrow m hmk, ?_⟩
      refine k_groupOf g (row m) (hd.1 m hm) ?_
      refine ih _ _ _ _ (by rw [fb_sm_succ]; (first | assumption | (simp only [z_nat, z_lit, ← Int32.ofInt_add, ← Int32.ofInt_sub, ← Int32.ofInt_mul]; exact congrArg Int32.ofInt (by omega)) | (simp only [z_nat, z_lit, ← Int32.ofInt_add, ← Int32.ofInt_sub, ← Int32.ofInt_mul]; done) | exact congrArg Int32.ofInt (by omega) | rfl)) ?_ (nx _ rfl) (by (first | assumption | (simp only [z_nat, z_lit, ← Int32.ofInt_add, ← Int32.ofInt_sub, ← Int32.ofInt_mul]; exact congrArg Int32.ofInt (by omega)) | (simp only [z_nat, z_lit, ← Int32.ofInt_add, ← Int32.ofInt_sub, ← Int32.ofInt_mul]; done) | exact congrArg Int32.ofInt (by omega) | rfl))
      rw [ct_t (p := fun p => decide (t 6 (row p) = t 6 (row k))) (decide_eq_true (by omega))]
      (first | assumption | (simp only [z_nat, z_lit, ← Int32.ofInt_add, ← Int32.ofInt_sub, ← Int32.ofInt_mul]; exact congrArg Int32.ofInt (by omega)) | (simp only [z_nat, z_lit, ← Int32.ofInt_add, ← Int32.ofInt_sub, ← Int32.ofInt_mul]; done) | exact congrArg Int32.ofInt (by omega) | rfl)
end LR
