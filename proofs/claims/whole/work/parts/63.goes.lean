/-! the call goes -/
/-- the next cut -/
def isNx (t : q_T) (n : sN) (k : Nat) : Prop := isB t n ∧ k < t 13 0 ∧ n 631 ≤ t 14 k ∧ ∀ i, i < k → (t 14 i : Int) < n 631
theorem isNx.un {t : q_T} {n : sN} {k k' : Nat} (h : isNx t n k) (h' : isNx t n k') : k = k' := by
  rcases Nat.lt_trichotomy k k' with q | q | q
  · have := h'.2.2.2 k q
    have := h.2.2.1
    omega
  · exact q
  · have := h.2.2.2 k' q
    have := h'.2.2.1
    omega
/-- how many have more -/
def gtN (f : Nat → Int) (N e : Nat) : Nat := fb_ct (fun o => decide (f e < f o)) N
/-- how many that are in have more -/
def grN (t : q_T) (n : sN) (f : Nat → Int) (e : Nat) : Nat := fb_ct (fun o => inE n o && decide (f e < f o)) (t 8 0)
def fG (t : q_T) (n : sN) (c e : Nat) : Int := if inE n e = true then ftN t n e (t 14 c) else -1
def fH (t : q_T) (n : sN) (c e : Nat) : Int := if inE n e = true then ftN t n e (t 14 c) else 0
theorem gt_gr {t : q_T} {n : sN} {f g : Nat → Int} {e : Nat} (h1 : ∀ o, o < t 8 0 → inE n o = true → f o = g o ∧ 0 ≤ f o) (h0 : ∀ o, o < t 8 0 → inE n o = false → f o = -1) (he : e < t 8 0) (hi : inE n e = true) : gtN f (t 8 0) e = grN t n g e := by
  unfold gtN grN
  have he1 := h1 e he hi
  refine ct_eq (Nat.le_refl _) (fun o ho => ?_) (fun i z1 z2 => by omega)
  cases q : inE n o with
  | true =>
    have ho1 := h1 o ho q
    rw [Bool.true_and, he1.1, ho1.1]
  | false =>
    rw [Bool.false_and, h0 o ho q]
    exact decide_eq_false (by omega)
def g_q (c a : Nat) : Bool := !((Nat.ble 6 a && Nat.ble a 23) || ((Nat.ble c a && Nat.ble a (c + 7)) || (Nat.beq a 280 || Nat.beq a 284)))
theorem g_o.of {l : List Nat} {f : List (Nat × Nat)} {c : Nat} (h : (l.all (g_q c) && f.all (fun p => g_q c p.1)) = true := by exact rfl) : g_o l f c := by
  rw [Bool.and_eq_true, List.all_eq_true, List.all_eq_true] at h
  have key : ∀ r i, g_q c r = false → q_scr l f r i = false := by
    intro r i hr
    cases q : q_scr l f r i with
    | false => rfl
    | true =>
      unfold q_scr at q
      rw [Bool.or_eq_true] at q
      rcases q with q | q
      · exact absurd ((h.1 r (q_has1_in.mp q)).symm.trans hr) (by decide)
      · exact absurd ((h.2 (r, i) (q_has2_in.mp q)).symm.trans hr) (by decide)
  refine ⟨fun k hk i => key _ i ?_, fun k hk i => key _ i ?_, fun i => key _ i ?_, fun i => key _ i ?_⟩
  · unfold g_q
    rw [Nat.ble_eq_true_of_le (show 6 ≤ 6 + k by omega), Nat.ble_eq_true_of_le (show 6 + k ≤ 23 by omega)]
    rfl
  · unfold g_q
    rw [Nat.ble_eq_true_of_le (show c ≤ c + k by omega), Nat.ble_eq_true_of_le (show c + k ≤ c + 7 by omega)]
    cases (Nat.ble 6 (c + k) && Nat.ble (c + k) 23) <;> rfl
  · unfold g_q
    cases (Nat.ble c 280 && Nat.ble 280 (c + 7)) <;> rfl
  · unfold g_q
    cases (Nat.ble c 284 && Nat.ble 284 (c + 7)) <;> rfl
section GO
variable {L : Nat} {xs : Nat → Int32} {E : q_E} {d : Nat} {M : q_M} {t : q_T} {n : sN} {Q : Option Value → q_M → Prop} {P : q_M → Prop}
set_option maxRecDepth 100000 in
set_option maxHeartbeats 4000000 in
theorem k2_findNextCut (g : g_A 43 M t n) (hD : b_D t n) (h1 : ∀ k, isNx t n k → Q (some (.int (nI k))) M) (h0 : (∀ k, ¬ isNx t n k) → Q (some (.int (Int32.ofInt (-1)))) M) : q_C q_mt (L, xs, q_shp) E nX6_findNextCut (d) 0 0 [.ref 242] M Q := by
  have e1 := g.dv
  have e2 := g.rn
  have h3 := g.R.c3
  have h6 := g.R.r6
  have h7 := g.R.e6
  by_cases q : isB t n
  · obtain ⟨e, r, hb, -⟩ := hD.2.2 q
    have he := hb.2.1
    have hr := hb.2.2.1
    have h31 := hb.2.2.2.1
    rw [brd_at hb] at e1
    have W := lp_up (W := fun k => (∀ i, i < k → (t 14 i : Int) < n 631) → ∀ v, v = nI k → q_G q_mt (L, xs, q_shp) E nX6_findNextCut (d) 0 0 (q_Q (L, xs, q_shp) E Q) 15 [some (.ref 242), some (.int (v))] [] M) (t 13 0) ?_ ?_ 0 (Nat.zero_le _)
    · refine w_in 90 [15] ?_
      refine ⟨_, e1, ?_⟩
      refine z_ne (e : Int) (-1) (fun _ => ?_) (fun z => by omega)
      exact W (fun i hi => by omega) _ rfl
    · rintro hno v rfl
      refine w_at 90 [15] ?_
      refine ⟨_, g.cN, ?_⟩
      refine z_le (t 13 0) (t 13 0) (fun h => ⟨_, rfl, h0 (fun k hk => ?_)⟩) (fun h => by omega)
      have := hno k hk.2.1
      have := hk.2.2.1
      omega
    · rintro k hk ih hno v rfl
      have hc := g.R.b2.2.1 k hk
      refine w_at 90 [15] ?_
      refine ⟨_, g.cN, ?_⟩
      refine z_le (t 13 0) k (fun h => by omega) (fun h => ?_)
      refine ⟨k, _, by (first | assumption | (simp only [z_nat, z_lit, ← Int32.ofInt_add, ← Int32.ofInt_sub, ← Int32.ofInt_mul]; exact congrArg Int32.ofInt (by omega)) | (simp only [z_nat, z_lit, ← Int32.ofInt_add, ← Int32.ofInt_sub, ← Int32.ofInt_mul]; done) | exact congrArg Int32.ofInt (by omega) | rfl), by (dsimp only; omega), (g.cu hk).1, ?_⟩
      refine ⟨_, e2, ?_⟩
      refine z_lt (t 14 k) (n 631) (fun h2 => ?_) (fun h2 => ⟨_, rfl, h1 k ⟨q, hk, h2, hno⟩⟩)
      refine ih (fun i hi => ?_) _ (by (first | assumption | (simp only [z_nat, z_lit, ← Int32.ofInt_add, ← Int32.ofInt_sub, ← Int32.ofInt_mul]; exact congrArg Int32.ofInt (by omega)) | (simp only [z_nat, z_lit, ← Int32.ofInt_add, ← Int32.ofInt_sub, ← Int32.ofInt_mul]; done) | exact congrArg Int32.ofInt (by omega) | rfl))
      by_cases q2 : i = k
      · subst q2
        exact h2
      · exact hno i (by omega)
  · rw [brd_no q] at e1
    refine w_in 90 [15] ?_
    refine ⟨_, e1, ?_⟩
    exact z_ne (-1) (-1) (fun z => absurd rfl z) (fun _ => ⟨_, rfl, h0 (fun k hk => q hk.1)⟩)
set_option maxRecDepth 100000 in
set_option maxHeartbeats 4000000 in
theorem k_nextCut (g : g_R M t n) (hD : b_D t n) (h1 : ∀ k, isNx t n k → Q (some (.int (nI k))) M) (h0 : (∀ k, ¬ isNx t n k) → Q (some (.int (Int32.ofInt (-1)))) M) : q_C q_mt (L, xs, q_shp) E nX12_nextCut (d + 1) 0 0 [.ref 271] M Q := by
  have h3 := g.c3
  have h6 := g.r6
  have h7 := g.e6
  have W := lp_up (W := fun k => (∀ i, i < k → (t 14 i : Int) < n 631) → ∀ v, v = nI k → q_G q_mt (L, xs, q_shp) E nX12_nextCut (d + 1) 0 0 (q_Q (L, xs, q_shp) E Q) 2 [some (.ref 271), some (.int (v))] [] M) (t 13 0) ?_ ?_ 0 (Nat.zero_le _)
  · refine w_in 90 [2] ?_
    exact W (fun i hi => by omega) _ rfl
  · rintro hno v rfl
    refine w_at 90 [2] ?_
    refine ⟨6, _, by (first | assumption | (simp only [z_nat, z_lit, ← Int32.ofInt_add, ← Int32.ofInt_sub, ← Int32.ofInt_mul]; exact congrArg Int32.ofInt (by omega)) | (simp only [z_nat, z_lit, ← Int32.ofInt_add, ← Int32.ofInt_sub, ← Int32.ofInt_mul]; done) | exact congrArg Int32.ofInt (by omega) | rfl), by (dsimp only; omega), g.R6, ?_⟩
    refine z_le (t 13 0) (t 13 0) (fun h => ⟨_, rfl, h0 (fun k hk => ?_)⟩) (fun h => by omega)
    have := hno k hk.2.1
    have := hk.2.2.1
    omega
  · rintro k hk ih hno v rfl
    have hc := g.b2.2.1 k hk
    have h33 := hD.1
    refine w_at 90 [2] ?_
    refine ⟨6, _, by (first | assumption | (simp only [z_nat, z_lit, ← Int32.ofInt_add, ← Int32.ofInt_sub, ← Int32.ofInt_mul]; exact congrArg Int32.ofInt (by omega)) | (simp only [z_nat, z_lit, ← Int32.ofInt_add, ← Int32.ofInt_sub, ← Int32.ofInt_mul]; done) | exact congrArg Int32.ofInt (by omega) | rfl), by (dsimp only; omega), g.R6, ?_⟩
    refine z_le (t 13 0) k (fun h => by omega) (fun h => ?_)
    refine ⟨633, _, by (first | assumption | (simp only [z_nat, z_lit, ← Int32.ofInt_add, ← Int32.ofInt_sub, ← Int32.ofInt_mul]; exact congrArg Int32.ofInt (by omega)) | (simp only [z_nat, z_lit, ← Int32.ofInt_add, ← Int32.ofInt_sub, ← Int32.ofInt_mul]; done) | exact congrArg Int32.ofInt (by omega) | rfl), by (dsimp only; omega), g.at (by omega), ?_⟩
    refine z_ne (n 633) 0 (fun h2 => ⟨_, rfl, h0 (fun k hk => by have := hk.1.2; omega)⟩) (fun h2 => ?_)
    have q : isB t n := ⟨by omega, by omega⟩
    obtain ⟨e, r, hb, -⟩ := hD.2.2 q
    have hr := hb.2.2.1
    have h31 := hb.2.2.2.1
    refine ⟨134 + 3 * k, _, by (first | assumption | (simp only [z_nat, z_lit, ← Int32.ofInt_add, ← Int32.ofInt_sub, ← Int32.ofInt_mul]; exact congrArg Int32.ofInt (by omega)) | (simp only [z_nat, z_lit, ← Int32.ofInt_add, ← Int32.ofInt_sub, ← Int32.ofInt_mul]; done) | exact congrArg Int32.ofInt (by omega) | rfl), by (dsimp only; omega), (g.cu hk).1, ?_⟩
    refine k_roundNow g ?_
    refine z_lt (t 14 k) (n 631) (fun h2 => ?_) (fun h2 => ⟨_, rfl, h1 k ⟨q, hk, h2, hno⟩⟩)
    refine ih (fun i hi => ?_) _ (by (first | assumption | (simp only [z_nat, z_lit, ← Int32.ofInt_add, ← Int32.ofInt_sub, ← Int32.ofInt_mul]; exact congrArg Int32.ofInt (by omega)) | (simp only [z_nat, z_lit, ← Int32.ofInt_add, ← Int32.ofInt_sub, ← Int32.ofInt_mul]; done) | exact congrArg Int32.ofInt (by omega) | rfl))
    by_cases q2 : i = k
    · subst q2
      exact h2
    · exact hno i (by omega)
set_option maxRecDepth 100000 in
set_option maxHeartbeats 4000000 in
theorem k2_isAmong_267 {c : Nat} (g : g_Z c M t n) {f : Nat → Int} (hf : ∀ o, o < t 8 0 → M.1 267 o = Int32.ofInt (f o) ∧ -1 ≤ f o ∧ f o ≤ 1000000) {x y : Int32} (e k : Nat) (he : e < t 8 0) (hk : k ≤ 6) (h1 : gtN f (t 8 0) e < k → Q (some (.int 1)) M) (h0 : ¬ gtN f (t 8 0) e < k → Q (some (.int 0)) M) (hx : x = nI e := by (first | assumption | (simp only [z_nat, z_lit, ← Int32.ofInt_add, ← Int32.ofInt_sub, ← Int32.ofInt_mul]; exact congrArg Int32.ofInt (by omega)) | (simp only [z_nat, z_lit, ← Int32.ofInt_add, ← Int32.ofInt_sub, ← Int32.ofInt_mul]; done) | exact congrArg Int32.ofInt (by omega) | rfl)) (hy : y = nI k := by (first | assumption | (simp only [z_nat, z_lit, ← Int32.ofInt_add, ← Int32.ofInt_sub, ← Int32.ofInt_mul]; exact congrArg Int32.ofInt (by omega)) | (simp only [z_nat, z_lit, ← Int32.ofInt_add, ← Int32.ofInt_sub, ← Int32.ofInt_mul]; done) | exact congrArg Int32.ofInt (by omega) | rfl)) : q_C q_mt (L, xs, q_shp) E nX6_isAmong (d) 0 0 [.ref 242, .ref 267, .int (x), .int (y)] M Q := by
  subst hx hy
  have h6 := g.R.e6
  have b1 := hf e he
  have W := lp_up (W := fun m => ∀ u v, u = nI (gtN f m e) → v = nI m → q_G q_mt (L, xs, q_shp) E nX6_isAmong (d) 0 0 (q_Q (L, xs, q_shp) E Q) 6 [some (.ref 242), some (.ref 267), some (.int (nI e)), some (.int (nI k)), some (.int (u)), some (.int (v))] [] M) (t 8 0) ?_ ?_ 0 (Nat.zero_le _)
  · refine w_in 90 [6] ?_
    exact W _ _ rfl rfl
  · rintro u v rfl rfl
    have hc := fb_ct_le (fun o => decide (f e < f o)) (t 8 0)
    unfold gtN at h1 h0
    refine w_at 90 [6] ?_
    refine ⟨_, g.eN, ?_⟩
    refine z_le (t 8 0) (t 8 0) (fun h => ?_) (fun h => by omega)
    exact z_le (k : Int) (fb_ct (fun o => decide (f e < f o)) (t 8 0)) (fun h => ⟨z_0, h0 (by omega)⟩) (fun h => ⟨z_1, h1 (by omega)⟩)
  · rintro m hm ih u v rfl rfl
    have hc := fb_ct_le (fun o => decide (f e < f o)) m
    have b2 := hf m hm
    refine w_at 90 [6] ?_
    refine ⟨_, g.eN, ?_⟩
    refine z_le (t 8 0) m (fun h => by omega) (fun h => ?_)
    refine ⟨m, _, by (first | assumption | (simp only [z_nat, z_lit, ← Int32.ofInt_add, ← Int32.ofInt_sub, ← Int32.ofInt_mul]; exact congrArg Int32.ofInt (by omega)) | (simp only [z_nat, z_lit, ← Int32.ofInt_add, ← Int32.ofInt_sub, ← Int32.ofInt_mul]; done) | exact congrArg Int32.ofInt (by omega) | rfl), by (dsimp only; omega), b2.1, ?_⟩
    refine ⟨e, _, by (first | assumption | (simp only [z_nat, z_lit, ← Int32.ofInt_add, ← Int32.ofInt_sub, ← Int32.ofInt_mul]; exact congrArg Int32.ofInt (by omega)) | (simp only [z_nat, z_lit, ← Int32.ofInt_add, ← Int32.ofInt_sub, ← Int32.ofInt_mul]; done) | exact congrArg Int32.ofInt (by omega) | rfl), by (dsimp only; omega), b1.1, ?_⟩
    refine z_le (f m) (f e) (fun h => ?_) (fun h => ?_)
    · exact ih _ _ (by unfold gtN; rw [ct_f (p := fun o => decide (f e < f o)) (decide_eq_false (by omega))]) (by (first | assumption | (simp only [z_nat, z_lit, ← Int32.ofInt_add, ← Int32.ofInt_sub, ← Int32.ofInt_mul]; exact congrArg Int32.ofInt (by omega)) | (simp only [z_nat, z_lit, ← Int32.ofInt_add, ← Int32.ofInt_sub, ← Int32.ofInt_mul]; done) | exact congrArg Int32.ofInt (by omega) | rfl))
    · exact ih _ _ (by unfold gtN; rw [ct_t (p := fun o => decide (f e < f o)) (decide_eq_true (by omega))]; (first | assumption | (simp only [z_nat, z_lit, ← Int32.ofInt_add, ← Int32.ofInt_sub, ← Int32.ofInt_mul]; exact congrArg Int32.ofInt (by omega)) | (simp only [z_nat, z_lit, ← Int32.ofInt_add, ← Int32.ofInt_sub, ← Int32.ofInt_mul]; done) | exact congrArg Int32.ofInt (by omega) | rfl)) (by (first | assumption | (simp only [z_nat, z_lit, ← Int32.ofInt_add, ← Int32.ofInt_sub, ← Int32.ofInt_mul]; exact congrArg Int32.ofInt (by omega)) | (simp only [z_nat, z_lit, ← Int32.ofInt_add, ← Int32.ofInt_sub, ← Int32.ofInt_mul]; done) | exact congrArg Int32.ofInt (by omega) | rfl))
set_option maxRecDepth 100000 in
set_option maxHeartbeats 4000000 in
theorem k2_isAmong_243 {c : Nat} (g : g_Z c M t n) {f : Nat → Int} (hf : ∀ o, o < t 8 0 → M.1 243 o = Int32.ofInt (f o) ∧ -1 ≤ f o ∧ f o ≤ 1000000) {x y : Int32} (e k : Nat) (he : e < t 8 0) (hk : k ≤ 6) (h1 : gtN f (t 8 0) e < k → Q (some (.int 1)) M) (h0 : ¬ gtN f (t 8 0) e < k → Q (some (.int 0)) M) (hx : x = nI e := by (first | assumption | (simp only [z_nat, z_lit, ← Int32.ofInt_add, ← Int32.ofInt_sub, ← Int32.ofInt_mul]; exact congrArg Int32.ofInt (by omega)) | (simp only [z_nat, z_lit, ← Int32.ofInt_add, ← Int32.ofInt_sub, ← Int32.ofInt_mul]; done) | exact congrArg Int32.ofInt (by omega) | rfl)) (hy : y = nI k := by (first | assumption | (simp only [z_nat, z_lit, ← Int32.ofInt_add, ← Int32.ofInt_sub, ← Int32.ofInt_mul]; exact congrArg Int32.ofInt (by omega)) | (simp only [z_nat, z_lit, ← Int32.ofInt_add, ← Int32.ofInt_sub, ← Int32.ofInt_mul]; done) | exact congrArg Int32.ofInt (by omega) | rfl)) : q_C q_mt (L, xs, q_shp) E nX6_isAmong (d) 0 0 [.ref 242, .ref 243, .int (x), .int (y)] M Q := by
  subst hx hy
  have h6 := g.R.e6
  have b1 := hf e he
  have W := lp_up (W := fun m => ∀ u v, u = nI (gtN f m e) → v = nI m → q_G q_mt (L, xs, q_shp) E nX6_isAmong (d) 0 0 (q_Q (L, xs, q_shp) E Q) 6 [some (.ref 242), some (.ref 243), some (.int (nI e)), some (.int (nI k)), some (.int (u)), some (.int (v))] [] M) (t 8 0) ?_ ?_ 0 (Nat.zero_le _)
  · refine w_in 90 [6] ?_
    exact W _ _ rfl rfl
  · rintro u v rfl rfl
    have hc := fb_ct_le (fun o => decide (f e < f o)) (t 8 0)
    unfold gtN at h1 h0
    refine w_at 90 [6] ?_
    refine ⟨_, g.eN, ?_⟩
    refine z_le (t 8 0) (t 8 0) (fun h => ?_) (fun h => by omega)
    exact z_le (k : Int) (fb_ct (fun o => decide (f e < f o)) (t 8 0)) (fun h => ⟨z_0, h0 (by omega)⟩) (fun h => ⟨z_1, h1 (by omega)⟩)
  · rintro m hm ih u v rfl rfl
    have hc := fb_ct_le (fun o => decide (f e < f o)) m
    have b2 := hf m hm
    refine w_at 90 [6] ?_
    refine ⟨_, g.eN, ?_⟩
    refine z_le (t 8 0) m (fun h => by omega) (fun h => ?_)
    refine ⟨m, _, by (first | assumption | (simp only [z_nat, z_lit, ← Int32.ofInt_add, ← Int32.ofInt_sub, ← Int32.ofInt_mul]; exact congrArg Int32.ofInt (by omega)) | (simp only [z_nat, z_lit, ← Int32.ofInt_add, ← Int32.ofInt_sub, ← Int32.ofInt_mul]; done) | exact congrArg Int32.ofInt (by omega) | rfl), by (dsimp only; omega), b2.1, ?_⟩
    refine ⟨e, _, by (first | assumption | (simp only [z_nat, z_lit, ← Int32.ofInt_add, ← Int32.ofInt_sub, ← Int32.ofInt_mul]; exact congrArg Int32.ofInt (by omega)) | (simp only [z_nat, z_lit, ← Int32.ofInt_add, ← Int32.ofInt_sub, ← Int32.ofInt_mul]; done) | exact congrArg Int32.ofInt (by omega) | rfl), by (dsimp only; omega), b1.1, ?_⟩
    refine z_le (f m) (f e) (fun h => ?_) (fun h => ?_)
    · exact ih _ _ (by unfold gtN; rw [ct_f (p := fun o => decide (f e < f o)) (decide_eq_false (by omega))]) (by (first | assumption | (simp only [z_nat, z_lit, ← Int32.ofInt_add, ← Int32.ofInt_sub, ← Int32.ofInt_mul]; exact congrArg Int32.ofInt (by omega)) | (simp only [z_nat, z_lit, ← Int32.ofInt_add, ← Int32.ofInt_sub, ← Int32.ofInt_mul]; done) | exact congrArg Int32.ofInt (by omega) | rfl))
    · exact ih _ _ (by unfold gtN; rw [ct_t (p := fun o => decide (f e < f o)) (decide_eq_true (by omega))]; (first | assumption | (simp only [z_nat, z_lit, ← Int32.ofInt_add, ← Int32.ofInt_sub, ← Int32.ofInt_mul]; exact congrArg Int32.ofInt (by omega)) | (simp only [z_nat, z_lit, ← Int32.ofInt_add, ← Int32.ofInt_sub, ← Int32.ofInt_mul]; done) | exact congrArg Int32.ofInt (by omega) | rfl)) (by (first | assumption | (simp only [z_nat, z_lit, ← Int32.ofInt_add, ← Int32.ofInt_sub, ← Int32.ofInt_mul]; exact congrArg Int32.ofInt (by omega)) | (simp only [z_nat, z_lit, ← Int32.ofInt_add, ← Int32.ofInt_sub, ← Int32.ofInt_mul]; done) | exact congrArg Int32.ofInt (by omega) | rfl))
set_option maxRecDepth 100000 in
set_option maxHeartbeats 4000000 in
theorem k2_isAmong_266 {c : Nat} (g : g_Z c M t n) {f : Nat → Int} (hf : ∀ o, o < t 8 0 → M.1 266 o = Int32.ofInt (f o) ∧ -1 ≤ f o ∧ f o ≤ 1000000) {x y : Int32} (e k : Nat) (he : e < t 8 0) (hk : k ≤ 6) (h1 : gtN f (t 8 0) e < k → Q (some (.int 1)) M) (h0 : ¬ gtN f (t 8 0) e < k → Q (some (.int 0)) M) (hx : x = nI e := by (first | assumption | (simp only [z_nat, z_lit, ← Int32.ofInt_add, ← Int32.ofInt_sub, ← Int32.ofInt_mul]; exact congrArg Int32.ofInt (by omega)) | (simp only [z_nat, z_lit, ← Int32.ofInt_add, ← Int32.ofInt_sub, ← Int32.ofInt_mul]; done) | exact congrArg Int32.ofInt (by omega) | rfl)) (hy : y = nI k := by (first | assumption | (simp only [z_nat, z_lit, ← Int32.ofInt_add, ← Int32.ofInt_sub, ← Int32.ofInt_mul]; exact congrArg Int32.ofInt (by omega)) | (simp only [z_nat, z_lit, ← Int32.ofInt_add, ← Int32.ofInt_sub, ← Int32.ofInt_mul]; done) | exact congrArg Int32.ofInt (by omega) | rfl)) : q_C q_mt (L, xs, q_shp) E nX6_isAmong (d) 0 0 [.ref 265, .ref 266, .int (x), .int (y)] M Q := by
  subst hx hy
  have h6 := g.R.e6
  have b1 := hf e he
  have W := lp_up (W := fun m => ∀ u v, u = nI (gtN f m e) → v = nI m → q_G q_mt (L, xs, q_shp) E nX6_isAmong (d) 0 0 (q_Q (L, xs, q_shp) E Q) 6 [some (.ref 265), some (.ref 266), some (.int (nI e)), some (.int (nI k)), some (.int (u)), some (.int (v))] [] M) (t 8 0) ?_ ?_ 0 (Nat.zero_le _)
  · refine w_in 90 [6] ?_
    exact W _ _ rfl rfl
  · rintro u v rfl rfl
    have hc := fb_ct_le (fun o => decide (f e < f o)) (t 8 0)
    unfold gtN at h1 h0
    refine w_at 90 [6] ?_
    refine ⟨_, g.eN, ?_⟩
    refine z_le (t 8 0) (t 8 0) (fun h => ?_) (fun h => by omega)
    exact z_le (k : Int) (fb_ct (fun o => decide (f e < f o)) (t 8 0)) (fun h => ⟨z_0, h0 (by omega)⟩) (fun h => ⟨z_1, h1 (by omega)⟩)
  · rintro m hm ih u v rfl rfl
    have hc := fb_ct_le (fun o => decide (f e < f o)) m
    have b2 := hf m hm
    refine w_at 90 [6] ?_
    refine ⟨_, g.eN, ?_⟩
    refine z_le (t 8 0) m (fun h => by omega) (fun h => ?_)
    refine ⟨m, _, by (first | assumption | (simp only [z_nat, z_lit, ← Int32.ofInt_add, ← Int32.ofInt_sub, ← Int32.ofInt_mul]; exact congrArg Int32.ofInt (by omega)) | (simp only [z_nat, z_lit, ← Int32.ofInt_add, ← Int32.ofInt_sub, ← Int32.ofInt_mul]; done) | exact congrArg Int32.ofInt (by omega) | rfl), by (dsimp only; omega), b2.1, ?_⟩
    refine ⟨e, _, by (first | assumption | (simp only [z_nat, z_lit, ← Int32.ofInt_add, ← Int32.ofInt_sub, ← Int32.ofInt_mul]; exact congrArg Int32.ofInt (by omega)) | (simp only [z_nat, z_lit, ← Int32.ofInt_add, ← Int32.ofInt_sub, ← Int32.ofInt_mul]; done) | exact congrArg Int32.ofInt (by omega) | rfl), by (dsimp only; omega), b1.1, ?_⟩
    refine z_le (f m) (f e) (fun h => ?_) (fun h => ?_)
    · exact ih _ _ (by unfold gtN; rw [ct_f (p := fun o => decide (f e < f o)) (decide_eq_false (by omega))]) (by (first | assumption | (simp only [z_nat, z_lit, ← Int32.ofInt_add, ← Int32.ofInt_sub, ← Int32.ofInt_mul]; exact congrArg Int32.ofInt (by omega)) | (simp only [z_nat, z_lit, ← Int32.ofInt_add, ← Int32.ofInt_sub, ← Int32.ofInt_mul]; done) | exact congrArg Int32.ofInt (by omega) | rfl))
    · exact ih _ _ (by unfold gtN; rw [ct_t (p := fun o => decide (f e < f o)) (decide_eq_true (by omega))]; (first | assumption | (simp only [z_nat, z_lit, ← Int32.ofInt_add, ← Int32.ofInt_sub, ← Int32.ofInt_mul]; exact congrArg Int32.ofInt (by omega)) | (simp only [z_nat, z_lit, ← Int32.ofInt_add, ← Int32.ofInt_sub, ← Int32.ofInt_mul]; done) | exact congrArg Int32.ofInt (by omega) | rfl)) (by (first | assumption | (simp only [z_nat, z_lit, ← Int32.ofInt_add, ← Int32.ofInt_sub, ← Int32.ofInt_mul]; exact congrArg Int32.ofInt (by omega)) | (simp only [z_nat, z_lit, ← Int32.ofInt_add, ← Int32.ofInt_sub, ← Int32.ofInt_mul]; done) | exact congrArg Int32.ofInt (by omega) | rfl))
set_option maxRecDepth 100000 in
set_option maxHeartbeats 4000000 in
theorem k_greaterMany (g : g_R M t n) {f : Nat → Int} (s : g_sm M t f) {a : Int32} (e : Nat) (he : e < t 8 0) (hQ : Q (some (.int (nI (grN t n f e)))) M) (ha : a = nI e := by (first | assumption | (simp only [z_nat, z_lit, ← Int32.ofInt_add, ← Int32.ofInt_sub, ← Int32.ofInt_mul]; exact congrArg Int32.ofInt (by omega)) | (simp only [z_nat, z_lit, ← Int32.ofInt_add, ← Int32.ofInt_sub, ← Int32.ofInt_mul]; done) | exact congrArg Int32.ofInt (by omega) | rfl)) : q_C q_mt (L, xs, q_shp) E nX12_greaterMany (d + 1) 0 0 [.ref 271, .int (a)] M Q := by
  subst ha
  have h6 := g.e6
  have b1 := s e he
  have W := lp_up (W := fun m => ∀ u v, u = nI (fb_ct (fun o => inE n o && decide (f e < f o)) m) → v = nI m → q_G q_mt (L, xs, q_shp) E nX12_greaterMany (d + 1) 0 0 (q_Q (L, xs, q_shp) E Q) 4 [some (.ref 271), some (.int (nI e)), some (.int (u)), some (.int (v))] [] M) (t 8 0) ?_ ?_ 0 (Nat.zero_le _)
  · refine w_in 90 [4] ?_
    exact W _ _ rfl rfl
  · rintro u v rfl rfl
    refine w_at 90 [4] ?_
    refine ⟨4, _, by (first | assumption | (simp only [z_nat, z_lit, ← Int32.ofInt_add, ← Int32.ofInt_sub, ← Int32.ofInt_mul]; exact congrArg Int32.ofInt (by omega)) | (simp only [z_nat, z_lit, ← Int32.ofInt_add, ← Int32.ofInt_sub, ← Int32.ofInt_mul]; done) | exact congrArg Int32.ofInt (by omega) | rfl), by (dsimp only; omega), g.R4, ?_⟩
    exact z_le (t 8 0) (t 8 0) (fun h => ⟨_, rfl, hQ⟩) (fun h => by omega)
  · rintro m hm ih u v rfl rfl
    have hc := fb_ct_le (fun o => inE n o && decide (f e < f o)) m
    have b2 := s m hm
    refine w_at 90 [4] ?_
    refine ⟨4, _, by (first | assumption | (simp only [z_nat, z_lit, ← Int32.ofInt_add, ← Int32.ofInt_sub, ← Int32.ofInt_mul]; exact congrArg Int32.ofInt (by omega)) | (simp only [z_nat, z_lit, ← Int32.ofInt_add, ← Int32.ofInt_sub, ← Int32.ofInt_mul]; done) | exact congrArg Int32.ofInt (by omega) | rfl), by (dsimp only; omega), g.R4, ?_⟩
    refine z_le (t 8 0) m (fun h => by omega) (fun h => ?_)
    refine k_isInStill g m hm (fun h1 => br_f (by decide) ?_) (fun h1 => br_t (by decide) ?_)
    · refine ⟨m, _, by (first | assumption | (simp only [z_nat, z_lit, ← Int32.ofInt_add, ← Int32.ofInt_sub, ← Int32.ofInt_mul]; exact congrArg Int32.ofInt (by omega)) | (simp only [z_nat, z_lit, ← Int32.ofInt_add, ← Int32.ofInt_sub, ← Int32.ofInt_mul]; done) | exact congrArg Int32.ofInt (by omega) | rfl), by (dsimp only; omega), b2.1, ?_⟩
      refine ⟨e, _, by (first | assumption | (simp only [z_nat, z_lit, ← Int32.ofInt_add, ← Int32.ofInt_sub, ← Int32.ofInt_mul]; exact congrArg Int32.ofInt (by omega)) | (simp only [z_nat, z_lit, ← Int32.ofInt_add, ← Int32.ofInt_sub, ← Int32.ofInt_mul]; done) | exact congrArg Int32.ofInt (by omega) | rfl), by (dsimp only; omega), b1.1, ?_⟩
      refine z_le (f m) (f e) (fun h => ?_) (fun h => ?_)
      · exact ih _ _ (by rw [ct_f (p := fun o => inE n o && decide (f e < f o)) (by rw [h1, decide_eq_false (by omega)]; rfl)]; (first | assumption | (simp only [z_nat, z_lit, ← Int32.ofInt_add, ← Int32.ofInt_sub, ← Int32.ofInt_mul]; exact congrArg Int32.ofInt (by omega)) | (simp only [z_nat, z_lit, ← Int32.ofInt_add, ← Int32.ofInt_sub, ← Int32.ofInt_mul]; done) | exact congrArg Int32.ofInt (by omega) | rfl)) (by (first | assumption | (simp only [z_nat, z_lit, ← Int32.ofInt_add, ← Int32.ofInt_sub, ← Int32.ofInt_mul]; exact congrArg Int32.ofInt (by omega)) | (simp only [z_nat, z_lit, ← Int32.ofInt_add, ← Int32.ofInt_sub, ← Int32.ofInt_mul]; done) | exact congrArg Int32.ofInt (by omega) | rfl))
      · exact ih _ _ (by rw [ct_t (p := fun o => inE n o && decide (f e < f o)) (by rw [h1, decide_eq_true (by omega)]; rfl)]; (first | assumption | (simp only [z_nat, z_lit, ← Int32.ofInt_add, ← Int32.ofInt_sub, ← Int32.ofInt_mul]; exact congrArg Int32.ofInt (by omega)) | (simp only [z_nat, z_lit, ← Int32.ofInt_add, ← Int32.ofInt_sub, ← Int32.ofInt_mul]; done) | exact congrArg Int32.ofInt (by omega) | rfl)) (by (first | assumption | (simp only [z_nat, z_lit, ← Int32.ofInt_add, ← Int32.ofInt_sub, ← Int32.ofInt_mul]; exact congrArg Int32.ofInt (by omega)) | (simp only [z_nat, z_lit, ← Int32.ofInt_add, ← Int32.ofInt_sub, ← Int32.ofInt_mul]; done) | exact congrArg Int32.ofInt (by omega) | rfl))
    · exact ih _ _ (by rw [ct_f (p := fun o => inE n o && decide (f e < f o)) (by rw [h1]; rfl)]; (first | assumption | (simp only [z_nat, z_lit, ← Int32.ofInt_add, ← Int32.ofInt_sub, ← Int32.ofInt_mul]; exact congrArg Int32.ofInt (by omega)) | (simp only [z_nat, z_lit, ← Int32.ofInt_add, ← Int32.ofInt_sub, ← Int32.ofInt_mul]; done) | exact congrArg Int32.ofInt (by omega) | rfl)) (by (first | assumption | (simp only [z_nat, z_lit, ← Int32.ofInt_add, ← Int32.ofInt_sub, ← Int32.ofInt_mul]; exact congrArg Int32.ofInt (by omega)) | (simp only [z_nat, z_lit, ← Int32.ofInt_add, ← Int32.ofInt_sub, ← Int32.ofInt_mul]; done) | exact congrArg Int32.ofInt (by omega) | rfl))
theorem g_A.f267 {M' : q_M} (g : g_A 43 M t n) (h : q_fs [267] [] M M') : g_A 43 M' t n := g.fs h g_o.of
set_option maxRecDepth 100000 in
set_option maxHeartbeats 4000000 in
theorem k2_wouldGoOn (g : g_A 43 M t n) {a b : Int32} (e c : Nat) (he : e < t 8 0) (hc : c < t 13 0) (hi : inE n e = true) (h1 : ∀ M', q_fs [267] [] M M' → grN t n (fH t n c) e < t 15 c → Q (some (.int 1)) M') (h0 : ∀ M', q_fs [267] [] M M' → ¬ grN t n (fH t n c) e < t 15 c → Q (some (.int 0)) M') (ha : a = nI e := by (first | assumption | (simp only [z_nat, z_lit, ← Int32.ofInt_add, ← Int32.ofInt_sub, ← Int32.ofInt_mul]; exact congrArg Int32.ofInt (by omega)) | (simp only [z_nat, z_lit, ← Int32.ofInt_add, ← Int32.ofInt_sub, ← Int32.ofInt_mul]; done) | exact congrArg Int32.ofInt (by omega) | rfl)) (hb : b = nI c := by (first | assumption | (simp only [z_nat, z_lit, ← Int32.ofInt_add, ← Int32.ofInt_sub, ← Int32.ofInt_mul]; exact congrArg Int32.ofInt (by omega)) | (simp only [z_nat, z_lit, ← Int32.ofInt_add, ← Int32.ofInt_sub, ← Int32.ofInt_mul]; done) | exact congrArg Int32.ofInt (by omega) | rfl)) : q_C q_mt (L, xs, q_shp) E nX4_wouldGoOn (d + 4) 0 0 [.ref 256, .int (a), .int (b)] M Q := by
  subst ha hb
  have h6 := g.R.e6
  have hcu := g.R.b2.2.1 c hc
  have h3 := g.R.c3
  have hE := gt_gr (t := t) (n := n) (f := fG t n c) (g := fH t n c) (e := e) (fun o ho z => by unfold fG fH; rw [if_pos z, if_pos z]; exact ⟨rfl, (ftN_b g ho (by omega)).1⟩) (fun o ho z => if_neg (by rw [z]; decide)) he hi
  rw [← hE] at h1 h0
  have W := lp_m (W := fun k M' => ∀ v, v = nI k → q_G q_mt (L, xs, q_shp) E nX4_wouldGoOn (d + 4) 0 0 (q_Q (L, xs, q_shp) E Q) 2 [some (.ref 256), some (.int (nI e)), some (.int (nI c)), some (.int (v))] [] M') (J := fun k M' => q_fs [267] [] M M' ∧ ∀ o, o < k → M'.1 267 o = Int32.ofInt (fG t n c o)) (t 8 0) ?_ ?_ 0 M (Nat.zero_le _) ⟨q_fs.rf, fun o ho => by omega⟩
  · refine w_in 90 [2] ?_
    exact W _ rfl
  · rintro M' ⟨hf, hm⟩ v rfl
    have g' := g.f267 hf
    refine w_at 90 [2] ?_
    refine ⟨_, g'.eN, ?_⟩
    refine z_le (t 8 0) (t 8 0) (fun h => ?_) (fun h => by omega)
    refine ⟨c, _, by (first | assumption | (simp only [z_nat, z_lit, ← Int32.ofInt_add, ← Int32.ofInt_sub, ← Int32.ofInt_mul]; exact congrArg Int32.ofInt (by omega)) | (simp only [z_nat, z_lit, ← Int32.ofInt_add, ← Int32.ofInt_sub, ← Int32.ofInt_mul]; done) | exact congrArg Int32.ofInt (by omega) | rfl), by (dsimp only; omega), (g'.cu hc).2.1, ?_⟩
    refine k2_isAmong_267 g'.Z (f := fG t n c) (fun o ho => ⟨hm o ho, ?_⟩) e (t 15 c) he (by omega) (fun z => ⟨z_1, h1 M' hf z⟩) (fun z => ⟨z_0, h0 M' hf z⟩)
    have hb := ftN_b g ho (show t 14 c ≤ t 0 0 by omega)
    unfold fG
    split <;> omega
  · rintro k M' hk ⟨hf, hm⟩ ih v rfl
    have g' := g.f267 hf
    refine w_at 90 [2] ?_
    refine ⟨_, g'.eN, ?_⟩
    refine z_le (t 8 0) k (fun h => by omega) (fun h => ?_)
    refine k2_isIn_43 g'.Z k hk (fun z => br_f (by decide) ?_) (fun z => br_t (by decide) ?_)
    · refine ⟨c, _, by (first | assumption | (simp only [z_nat, z_lit, ← Int32.ofInt_add, ← Int32.ofInt_sub, ← Int32.ofInt_mul]; exact congrArg Int32.ofInt (by omega)) | (simp only [z_nat, z_lit, ← Int32.ofInt_add, ← Int32.ofInt_sub, ← Int32.ofInt_mul]; done) | exact congrArg Int32.ofInt (by omega) | rfl), by (dsimp only; omega), (g'.cu hc).1, ?_⟩
      refine k2_totalByForm g' k (t 14 c) hk (by omega) ?_
      refine ⟨k, _, by (first | assumption | (simp only [z_nat, z_lit, ← Int32.ofInt_add, ← Int32.ofInt_sub, ← Int32.ofInt_mul]; exact congrArg Int32.ofInt (by omega)) | (simp only [z_nat, z_lit, ← Int32.ofInt_add, ← Int32.ofInt_sub, ← Int32.ofInt_mul]; done) | exact congrArg Int32.ofInt (by omega) | rfl), by (dsimp only; omega), rfl, ?_⟩
      refine ih _ ⟨hf.s1, fun o ho => ?_⟩ _ (by (first | assumption | (simp only [z_nat, z_lit, ← Int32.ofInt_add, ← Int32.ofInt_sub, ← Int32.ofInt_mul]; exact congrArg Int32.ofInt (by omega)) | (simp only [z_nat, z_lit, ← Int32.ofInt_add, ← Int32.ofInt_sub, ← Int32.ofInt_mul]; done) | exact congrArg Int32.ofInt (by omega) | rfl))
      by_cases q : o = k
      · rw [q, q_si_s]
        unfold fG
        rw [if_pos z]
      · rw [q_si_n q]
        exact hm o (by omega)
    · refine ⟨k, _, by (first | assumption | (simp only [z_nat, z_lit, ← Int32.ofInt_add, ← Int32.ofInt_sub, ← Int32.ofInt_mul]; exact congrArg Int32.ofInt (by omega)) | (simp only [z_nat, z_lit, ← Int32.ofInt_add, ← Int32.ofInt_sub, ← Int32.ofInt_mul]; done) | exact congrArg Int32.ofInt (by omega) | rfl), by (dsimp only; omega), rfl, ?_⟩
      refine ih _ ⟨hf.s1, fun o ho => ?_⟩ _ (by (first | assumption | (simp only [z_nat, z_lit, ← Int32.ofInt_add, ← Int32.ofInt_sub, ← Int32.ofInt_mul]; exact congrArg Int32.ofInt (by omega)) | (simp only [z_nat, z_lit, ← Int32.ofInt_add, ← Int32.ofInt_sub, ← Int32.ofInt_mul]; done) | exact congrArg Int32.ofInt (by omega) | rfl))
      by_cases q : o = k
      · rw [q, q_si_s]
        unfold fG
        rw [if_neg (by rw [z]; decide)]
      · rw [q_si_n q]
        exact hm o (by omega)
set_option maxRecDepth 100000 in
set_option maxHeartbeats 4000000 in
theorem o_goes {a : Int32} (g : g_A 43 M t n) (hD : b_D t n) (hP : ∀ M', q_fs [267, 293, 294] fD M M' → P M') : zOp L xs E nX11_goes nX12_goes (d + 10) [.int a] M P := by
  have h6 := g.R.e6
  have h3 := g.R.c3
  by_cases q : ∃ e, e < t 8 0 ∧ a = nI e
  · obtain ⟨e, he, rfl⟩ := q
    by_cases qi : inE n e = true
    · by_cases qc : ∃ k, isNx t n k
      · obtain ⟨c, hx⟩ := qc
        have hc := hx.2.1
        have hcu := g.R.b2.2.1 c hc
        have r0 : ∀ M1, g_A 43 M1 t n → ∀ Q', (∀ M', q_fs [293, 294] fD M1 M' → grN t n (fH t n c) e < t 15 c → Q' (some (.int (Int32.ofInt 1))) M') → (∀ M', q_fs [293, 294] fD M1 M' → ¬ grN t n (fH t n c) e < t 15 c → Q' (some (.int (Int32.ofInt 0))) M') → q_C q_mt (L, xs, q_shp) E nX12_goes (d + 10) 0 0 (.ref 271 :: [.int (nI e)]) M1 Q' := by
          intro M1 g1 Q' y1 y0
          have W := lp_m (W := fun k M' => ∀ v, v = nI k → q_G q_mt (L, xs, q_shp) E nX12_goes (d + 10) 0 0 (q_Q (L, xs, q_shp) E Q') 30 [some (.ref 271), some (.int (nI e)), some (.int (nI c)), some (.int v)] [] M') (J := fun k M' => q_fs [293, 294] fD M1 M' ∧ ∀ o, o < k → M'.1 294 o = Int32.ofInt (fH t n c o)) (t 8 0) ?_ ?_ 0 M1 (Nat.zero_le _) ⟨q_fs.rf, fun o ho => by omega⟩
          · refine w_in 90 [30] ?_
            refine k_nextCut g1.R hD (fun k hk => ?_) (fun z => absurd hx (z c))
            rw [hk.un hx]
            refine c_X12_isEntrant g1.R.1 g1.R.b (fun i _ _ => br_f (by decide) ?_) (fun z => absurd ⟨e, he, rfl⟩ z)
            refine k_isInStill g1.R e he (fun _ => br_f (by decide) ?_) (fun z => absurd (qi.symm.trans z) (by decide))
            refine z_ne (c : Int) (-1) (fun _ => ?_) (fun z => by omega)
            exact W _ rfl
          · rintro M' ⟨hf, hm⟩ v rfl
            have g' := g1.R.fs hf
            refine w_at 90 [30] ?_
            refine ⟨4, _, by (first | assumption | (simp only [z_nat, z_lit, ← Int32.ofInt_add, ← Int32.ofInt_sub, ← Int32.ofInt_mul]; exact congrArg Int32.ofInt (by omega)) | (simp only [z_nat, z_lit, ← Int32.ofInt_add, ← Int32.ofInt_sub, ← Int32.ofInt_mul]; done) | exact congrArg Int32.ofInt (by omega) | rfl), by (dsimp only; omega), g'.R4, ?_⟩
            refine z_le (t 8 0) (t 8 0) (fun h => ?_) (fun h => by omega)
            have hc1 := fb_ct_le (fun o => inE n o && decide (fH t n c e < fH t n c o)) (t 8 0)
            refine k_greaterMany g' (f := fH t n c) (fun o ho => ⟨hm o ho, ?_⟩) e he ?_
            · have hb := ftN_b g ho (show t 14 c ≤ t 0 0 by omega)
              unfold fH
              split <;> omega
            · refine ⟨135 + 3 * c, _, by (first | assumption | (simp only [z_nat, z_lit, ← Int32.ofInt_add, ← Int32.ofInt_sub, ← Int32.ofInt_mul]; exact congrArg Int32.ofInt (by omega)) | (simp only [z_nat, z_lit, ← Int32.ofInt_add, ← Int32.ofInt_sub, ← Int32.ofInt_mul]; done) | exact congrArg Int32.ofInt (by omega) | rfl), by (dsimp only; omega), (g'.cu hc).2.1, ?_⟩
              unfold grN at y1 y0
              exact z_le (t 15 c) (fb_ct (fun o => inE n o && decide (fH t n c e < fH t n c o)) (t 8 0)) (fun h => ⟨_, rfl, y0 M' hf (by omega)⟩) (fun h => ⟨_, rfl, y1 M' hf (by omega)⟩)
          · rintro k M' hk ⟨hf, hm⟩ ih v rfl
            have g' := g1.R.fs hf
            have g2 : g_A 43 M' t n := g1.fs hf g_o.of
            refine w_at 90 [30] ?_
            refine ⟨4, _, by (first | assumption | (simp only [z_nat, z_lit, ← Int32.ofInt_add, ← Int32.ofInt_sub, ← Int32.ofInt_mul]; exact congrArg Int32.ofInt (by omega)) | (simp only [z_nat, z_lit, ← Int32.ofInt_add, ← Int32.ofInt_sub, ← Int32.ofInt_mul]; done) | exact congrArg Int32.ofInt (by omega) | rfl), by (dsimp only; omega), g'.R4, ?_⟩
            refine z_le (t 8 0) k (fun h => by omega) (fun h => ?_)
            refine k_isInStill g' k hk (fun z => br_f (by decide) ?_) (fun z => br_t (by decide) ?_)
            · refine ⟨134 + 3 * c, _, by (first | assumption | (simp only [z_nat, z_lit, ← Int32.ofInt_add, ← Int32.ofInt_sub, ← Int32.ofInt_mul]; exact congrArg Int32.ofInt (by omega)) | (simp only [z_nat, z_lit, ← Int32.ofInt_add, ← Int32.ofInt_sub, ← Int32.ofInt_mul]; done) | exact congrArg Int32.ofInt (by omega) | rfl), by (dsimp only; omega), (g'.cu hc).1, ?_⟩
              refine k_formTotal g2 k (t 14 c) hk (by omega) (fun M2 hf2 => ?_)
              refine ⟨k, _, by (first | assumption | (simp only [z_nat, z_lit, ← Int32.ofInt_add, ← Int32.ofInt_sub, ← Int32.ofInt_mul]; exact congrArg Int32.ofInt (by omega)) | (simp only [z_nat, z_lit, ← Int32.ofInt_add, ← Int32.ofInt_sub, ← Int32.ofInt_mul]; done) | exact congrArg Int32.ofInt (by omega) | rfl), by (dsimp only; omega), rfl, ?_⟩
              have hf3 : q_fs [293, 294] fD M1 M2 := hf.tr hf2.mono
              refine ih _ ⟨hf3.s1, fun o ho => ?_⟩ _ (by (first | assumption | (simp only [z_nat, z_lit, ← Int32.ofInt_add, ← Int32.ofInt_sub, ← Int32.ofInt_mul]; exact congrArg Int32.ofInt (by omega)) | (simp only [z_nat, z_lit, ← Int32.ofInt_add, ← Int32.ofInt_sub, ← Int32.ofInt_mul]; done) | exact congrArg Int32.ofInt (by omega) | rfl))
              by_cases q : o = k
              · rw [q, q_si_s]
                unfold fH
                rw [if_pos z]
              · rw [q_si_n q, hf2.c1 294]
                exact hm o (by omega)
            · refine ⟨k, _, by (first | assumption | (simp only [z_nat, z_lit, ← Int32.ofInt_add, ← Int32.ofInt_sub, ← Int32.ofInt_mul]; exact congrArg Int32.ofInt (by omega)) | (simp only [z_nat, z_lit, ← Int32.ofInt_add, ← Int32.ofInt_sub, ← Int32.ofInt_mul]; done) | exact congrArg Int32.ofInt (by omega) | rfl), by (dsimp only; omega), rfl, ?_⟩
              refine ih _ ⟨hf.s1, fun o ho => ?_⟩ _ (by (first | assumption | (simp only [z_nat, z_lit, ← Int32.ofInt_add, ← Int32.ofInt_sub, ← Int32.ofInt_mul]; exact congrArg Int32.ofInt (by omega)) | (simp only [z_nat, z_lit, ← Int32.ofInt_add, ← Int32.ofInt_sub, ← Int32.ofInt_mul]; done) | exact congrArg Int32.ofInt (by omega) | rfl))
              by_cases q : o = k
              · rw [q, q_si_s]
                unfold fH
                rw [if_neg (by rw [z]; decide)]
              · rw [q_si_n q]
                exact hm o (by omega)
        refine w_in 90 [] ?_
        refine k2_findNextCut g hD (fun k hk => ?_) (fun z => absurd hx (z c))
        rw [hk.un hx]
        refine d_hasEntrant g.C g.R.b (fun i _ _ => br_f (by decide) ?_) (fun z => absurd ⟨e, he, rfl⟩ z)
        refine k2_isIn_43 g.Z e he (fun _ => br_f (by decide) ?_) (fun z => absurd (qi.symm.trans z) (by decide))
        refine z_ne (c : Int) (-1) (fun _ => ?_) (fun z => by omega)
        refine k2_wouldGoOn g e c he hc qi (fun M1 hf1 z => br_f (by decide) ⟨_, rfl, _, rfl, ?_⟩) (fun M1 hf1 z => br_t (by decide) ⟨_, rfl, _, rfl, ?_⟩)
        · exact r0 M1 (g.f267 hf1) _ (fun M' hf _ => ⟨rfl, hP M' (hf1.mono.tr hf.mono)⟩) (fun M' hf z2 => absurd z z2)
        · exact r0 M1 (g.f267 hf1) _ (fun M' hf z2 => absurd z2 z) (fun M' hf _ => ⟨rfl, hP M' (hf1.mono.tr hf.mono)⟩)
      · have qc2 : ∀ k, ¬ isNx t n k := fun k hk => qc ⟨k, hk⟩
        refine w_in 90 [] ?_
        refine k2_findNextCut g hD (fun k hk => absurd hk (qc2 k)) (fun _ => ?_)
        refine d_hasEntrant g.C g.R.b (fun i _ _ => br_f (by decide) ?_) (fun z => absurd ⟨e, he, rfl⟩ z)
        refine k2_isIn_43 g.Z e he (fun _ => br_f (by decide) ?_) (fun z => absurd (qi.symm.trans z) (by decide))
        refine z_ne (-1) (-1) (fun z => absurd rfl z) (fun _ => ⟨_, rfl, _, rfl, ?_⟩)
        refine w_in 90 [] ?_
        refine k_nextCut g.R hD (fun k hk => absurd hk (qc2 k)) (fun _ => ?_)
        refine c_X12_isEntrant g.R.1 g.R.b (fun i _ _ => br_f (by decide) ?_) (fun z => absurd ⟨e, he, rfl⟩ z)
        refine k_isInStill g.R e he (fun _ => br_f (by decide) ?_) (fun z => absurd (qi.symm.trans z) (by decide))
        exact z_ne (-1) (-1) (fun z => absurd rfl z) (fun _ => ⟨_, rfl, rfl, hP M q_fs.rf⟩)
    · have qi2 : inE n e = false := by simpa using qi
      have r1 : ∀ v : Int32, q_G q_mt (L, xs, q_shp) E nX12_goes (d + 10) 0 0 (q_Q (L, xs, q_shp) E (fun v' M'' => v' = some (.int (Int32.ofInt (-1))) ∧ P M'')) 5 [some (.ref 271), some (.int (nI e)), some (.int v), none] [] M := by
        intro v
        refine w_at 90 [] ?_
        refine c_X12_isEntrant g.R.1 g.R.b (fun i _ _ => br_f (by decide) ?_) (fun z => absurd ⟨e, he, rfl⟩ z)
        exact k_isInStill g.R e he (fun z => absurd z qi) (fun _ => br_t (by decide) ⟨_, rfl, rfl, hP M q_fs.rf⟩)
      have r0 : q_C q_mt (L, xs, q_shp) E nX12_goes (d + 10) 0 0 (.ref 271 :: [.int (nI e)]) M (fun v' M'' => v' = some (.int (Int32.ofInt (-1))) ∧ P M'') := by
        refine w_in 90 [5] ?_
        exact k_nextCut g.R hD (fun k hk => r1 _) (fun _ => r1 _)
      have c1 : ∀ v : Int32, q_G q_mt (L, xs, q_shp) E nX11_goes (d + 10) 0 0 (q_Q (L, xs, q_shp) E (fun v M' => ∃ a, v = some (.int a) ∧ q_C q_mt (L, xs, q_shp) E nX12_goes (d + 10) 0 0 (.ref 271 :: [.int (nI e)]) M' (fun v' M'' => v' = some (.int a) ∧ P M''))) 8 [some (.ref 2), some (.int (nI e)), some (.int v)] [] M := by
        intro v
        refine w_at 90 [] ?_
        refine d_hasEntrant g.C g.R.b (fun i _ _ => br_f (by decide) ?_) (fun z => absurd ⟨e, he, rfl⟩ z)
        exact k2_isIn_43 g.Z e he (fun z => absurd z qi) (fun _ => br_t (by decide) ⟨_, rfl, _, rfl, r0⟩)
      refine w_in 90 [8] ?_
      exact k2_findNextCut g hD (fun k hk => c1 _) (fun _ => c1 _)
  · have r1 : ∀ v : Int32, q_G q_mt (L, xs, q_shp) E nX12_goes (d + 10) 0 0 (q_Q (L, xs, q_shp) E (fun v' M'' => v' = some (.int (Int32.ofInt (-1))) ∧ P M'')) 5 [some (.ref 271), some (.int a), some (.int v), none] [] M := by
      intro v
      refine w_at 90 [] ?_
      exact c_X12_isEntrant g.R.1 g.R.b (fun i hi e => absurd ⟨i, hi, e⟩ q) (fun _ => br_t (by decide) ⟨_, rfl, rfl, hP M q_fs.rf⟩)
    have r0 : q_C q_mt (L, xs, q_shp) E nX12_goes (d + 10) 0 0 (.ref 271 :: [.int a]) M (fun v' M'' => v' = some (.int (Int32.ofInt (-1))) ∧ P M'') := by
      refine w_in 90 [5] ?_
      exact k_nextCut g.R hD (fun k hk => r1 _) (fun _ => r1 _)
    have c1 : ∀ v : Int32, q_G q_mt (L, xs, q_shp) E nX11_goes (d + 10) 0 0 (q_Q (L, xs, q_shp) E (fun v M' => ∃ a', v = some (.int a') ∧ q_C q_mt (L, xs, q_shp) E nX12_goes (d + 10) 0 0 (.ref 271 :: [.int a]) M' (fun v' M'' => v' = some (.int a') ∧ P M''))) 8 [some (.ref 2), some (.int a), some (.int v)] [] M := by
      intro v
      refine w_at 90 [] ?_
      exact d_hasEntrant g.C g.R.b (fun i hi e => absurd ⟨i, hi, e⟩ q) (fun _ => br_t (by decide) ⟨_, rfl, _, rfl, r0⟩)
    refine w_in 90 [8] ?_
    exact k2_findNextCut g hD (fun k hk => c1 _) (fun _ => c1 _)
end GO
