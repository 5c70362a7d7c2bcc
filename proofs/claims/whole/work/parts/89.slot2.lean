/-! the same acts walked -/
section S2
variable {L : Nat} {xs : Nat → Int32} {E : q_E} {d : Nat} {M : q_M} {t : q_T} {n : sN} {Q : Option Value → q_M → Prop} {P : q_M → Prop}
theorem g_R.up {k : Nat} {v : Int} {x : Int32} (g : g_R M t n) (hb : b_N t (up n k v)) (hx : x = Int32.ofInt v) : g_R (q_si M 284 k x) t (up n k v) := by
  obtain ⟨a, b, c, _⟩ := g
  refine ⟨?_, b, c.up hx, hb⟩
  unfold r_R at a ⊢
  rw [show (q_si M 284 k x).1 280 = M.1 280 from rfl]
  exact a
theorem g_R.to {M' : q_M} {m : sN} (g : g_R M t n) (h0 : M'.1 280 = M.1 280) (hn : r_N 284 0 M' m) (hb : b_N t m) : g_R M' t m := by
  obtain ⟨a, b, c, _⟩ := g
  refine ⟨?_, b, hn, hb⟩
  unfold r_R at a ⊢
  rw [h0]
  exact a
set_option maxRecDepth 100000 in
set_option maxHeartbeats 4000000 in
theorem k_isOpen (g : g_R M t n) (hJ : b_J t n) (h1 : isO t n → Q (some (.int 1)) M) (h0 : ¬ isO t n → Q (some (.int 0)) M) : q_C q_mt (L, xs, q_shp) E nX12_isOpen (d + 2) 0 0 [.ref 271] M Q := by
  have h6 := g.e6
  refine w_in 90 [] ?_
  refine k_boardOf g hJ.2.1.1 (fun q => ?_) (fun q => ?_)
  · exact z_eq (-1) (-1) (fun _ => ⟨z_0, h0 (fun z => q z.1)⟩) (fun z => absurd rfl z)
  · have hb := hJ.B h6 q
    have he := hb.2.1
    have h31 := hb.2.2.2.1
    refine ⟨bE n, bR n, hb, ?_⟩
    refine z_eq (bE n : Int) (-1) (fun z => by omega) (fun _ => ?_)
    refine k_roundNow g ?_
    exact k_hasFailed g (bE n) (bR n) he hb.2.2.1 (fun hf => bn_t (by decide) ⟨z_0, h0 (fun z => by have := z.2; omega)⟩) (fun hf => bn_f (by decide) ⟨z_1, h1 ⟨q, hf⟩⟩) (hb := by rw [h31]; rfl)
-- the board where it is ready
set_option maxRecDepth 100000 in
set_option maxHeartbeats 4000000 in
theorem k_board (g : g_R M t n) (hJ : b_J t n) (q : isB t n) (hQ : Q (some (.int (nI (bE n)))) M) : q_C q_mt (L, xs, q_shp) E nX12_boardOf (d) 0 0 [.ref 271] M Q := k_boardOf g hJ.2.1.1 (fun z => absurd q z) (fun _ => ⟨bE n, bR n, hJ.B g.e6 q, hQ⟩)
set_option maxRecDepth 100000 in
set_option maxHeartbeats 4000000 in
theorem k_noBoard (g : g_R M t n) (hJ : b_J t n) (q : ¬ isB t n) (hQ : Q (some (.int (Int32.ofInt (-1)))) M) : q_C q_mt (L, xs, q_shp) E nX12_boardOf (d) 0 0 [.ref 271] M Q := k_boardOf g hJ.2.1.1 (fun _ => hQ) (fun z => absurd z q)
set_option maxRecDepth 100000 in
set_option maxHeartbeats 4000000 in
theorem k_anyBoard (g : g_R M t n) (hJ : b_J t n) (hQ : ∀ x : Int32, Q (some (.int x)) M) : q_C q_mt (L, xs, q_shp) E nX12_boardOf (d) 0 0 [.ref 271] M Q := k_boardOf g hJ.2.1.1 (fun _ => hQ _) (fun q => ⟨bE n, bR n, hJ.B g.e6 q, hQ _⟩)
set_option maxRecDepth 100000 in
set_option maxHeartbeats 4000000 in
theorem k_markBy (g : g_R M t n) (hJ : b_J t n) {a b : Int32} (j : Nat) (w : Int) (hj : j < t 2 0) (hw : 0 ≤ w ∧ w ≤ 20) (hQ : rQ [284] [] M t (aMark t n j w) Q) (ha : a = nI j := by (first | assumption | (simp only [z_nat, z_lit, ← Int32.ofInt_add, ← Int32.ofInt_sub, ← Int32.ofInt_mul]; exact congrArg Int32.ofInt (by omega)) | (simp only [z_nat, z_lit, ← Int32.ofInt_add, ← Int32.ofInt_sub, ← Int32.ofInt_mul]; done) | exact congrArg Int32.ofInt (by omega) | rfl)) (hb : b = Int32.ofInt w := by (first | assumption | (simp only [z_nat, z_lit, ← Int32.ofInt_add, ← Int32.ofInt_sub, ← Int32.ofInt_mul]; exact congrArg Int32.ofInt (by omega)) | (simp only [z_nat, z_lit, ← Int32.ofInt_add, ← Int32.ofInt_sub, ← Int32.ofInt_mul]; done) | exact congrArg Int32.ofInt (by omega) | rfl)) : q_C q_mt (L, xs, q_shp) E nX12_markBy (d + 3) 0 0 [.ref 271, .int (a), .int (b)] M Q := by
  subst ha hb
  have h6 := g.e6
  have h7 := g.r6
  have h11 := g.j11
  have fin : (¬ (isO t n ∧ onP t j (bE n) = true)) → Q (some (.int (Int32.ofInt (-3)))) M := fun z => hQ.1 (if_neg (fun y => z (by rw [Bool.and_eq_true, isOb_t] at y; exact y)))
  refine w_in 90 [] ?_
  refine c_X12_isJudge g.1 g.b (fun _ _ _ => br_f (by decide) ?_) (fun z => absurd ⟨j, hj, rfl⟩ z)
  refine k_isIn w 0 20 (by omega) (by omega) (by omega) (fun _ _ => bn_t (by decide) ?_) (fun z => absurd hw z)
  by_cases q : isO t n
  · obtain ⟨hB, he, hr, hs, hg, hk⟩ := hJ.O g.A q
    have h31 := hB.2.2.2.1
    refine k_board g hJ q.1 ?_
    refine k_isOpen g hJ (fun _ => br_f (by decide) ?_) (fun z => absurd q z)
    refine k_judges g j (bE n) hj he.1 (fun ho => bn_t (by decide) ?_) (fun ho => bn_f (by decide) ⟨_, rfl, fin (fun z => by rw [ho] at z; exact absurd z.2 (by decide))⟩)
    have hy : aMark t n j w = some (((mkN t (nMk n j w) (bE n) (bR n) : Nat) : Int), nMk n j w) := if_pos (by rw [Bool.and_eq_true, isOb_t]; exact ⟨q, ho⟩)
    have hJ' := (aMark_ok hJ g.A hj hw _ _ hy).1
    refine k_roundNow g ?_
    refine k_slot (bE n) (bR n) ?_ (hb := by rw [h31]; rfl)
    refine ⟨36 + 11 * (6 * bE n + bR n) + j, _, by (first | assumption | (simp only [z_nat, z_lit, ← Int32.ofInt_add, ← Int32.ofInt_sub, ← Int32.ofInt_mul]; exact congrArg Int32.ofInt (by omega)) | (simp only [z_nat, z_lit, ← Int32.ofInt_add, ← Int32.ofInt_sub, ← Int32.ofInt_mul]; done) | exact congrArg Int32.ofInt (by omega) | rfl), by (dsimp only; omega), rfl, ?_⟩
    have g' : g_R (q_si M 284 (36 + 11 * (6 * bE n + bR n) + j) (Int32.ofInt w)) t (nMk n j w) := g.up hJ'.1.1 rfl
    have e31 : nMk n j w 631 = n 631 := up_n (by omega)
    refine k_roundNow g' ?_
    rw [e31]
    refine k_markedMany g' (bE n) (bR n) he.1 hr.1 ⟨_, rfl, ?_⟩ (hb := by rw [h31]; rfl)
    exact hQ.2 _ _ hy _ q_fs.rf.s1 g'
  · refine k_anyBoard g hJ (fun x => ?_)
    exact k_isOpen g hJ (fun z => absurd z q) (fun _ => br_t (by decide) ⟨_, rfl, fin (fun z => q z.1)⟩)
set_option maxRecDepth 100000 in
set_option maxHeartbeats 4000000 in
theorem k_capBy (g : g_R M t n) (hJ : b_J t n) {a : Int32} (w : Int) (hw : 0 ≤ w ∧ w ≤ 20) (hQ : rQ [284] [] M t (aCap t n w) Q) (ha : a = Int32.ofInt w := by (first | assumption | (simp only [z_nat, z_lit, ← Int32.ofInt_add, ← Int32.ofInt_sub, ← Int32.ofInt_mul]; exact congrArg Int32.ofInt (by omega)) | (simp only [z_nat, z_lit, ← Int32.ofInt_add, ← Int32.ofInt_sub, ← Int32.ofInt_mul]; done) | exact congrArg Int32.ofInt (by omega) | rfl)) : q_C q_mt (L, xs, q_shp) E nX12_capBy (d + 3) 0 0 [.ref 271, .int (a)] M Q := by
  subst ha
  have h6 := g.e6
  have h7 := g.r6
  refine w_in 90 [] ?_
  refine k_isIn w 0 20 (by omega) (by omega) (by omega) (fun _ _ => bn_t (by decide) ?_) (fun z => absurd hw z)
  refine k_isOpen g hJ (fun q => bn_t (by decide) ?_) (fun q => bn_f (by decide) ⟨_, rfl, hQ.1 (if_neg (by rw [isOb_t]; exact q))⟩)
  obtain ⟨hB, he, hr, hs, hg, hk⟩ := hJ.O g.A q
  have h31 := hB.2.2.2.1
  have hy : aCap t n w = some (n (432 + (6 * bE n + bR n)), nCp n w) := if_pos (isOb_t.mpr q)
  have hJ' := (aCap_ok hJ g.A hw _ _ hy).1
  refine k_board g hJ q.1 ?_
  refine k_roundNow g ?_
  refine k_slot (bE n) (bR n) ?_ (hb := by rw [h31]; rfl)
  refine ⟨432 + (6 * bE n + bR n), _, by (first | assumption | (simp only [z_nat, z_lit, ← Int32.ofInt_add, ← Int32.ofInt_sub, ← Int32.ofInt_mul]; exact congrArg Int32.ofInt (by omega)) | (simp only [z_nat, z_lit, ← Int32.ofInt_add, ← Int32.ofInt_sub, ← Int32.ofInt_mul]; done) | exact congrArg Int32.ofInt (by omega) | rfl), by (dsimp only; omega), g.at (by omega), ?_⟩
  refine ⟨432 + (6 * bE n + bR n), _, by (first | assumption | (simp only [z_nat, z_lit, ← Int32.ofInt_add, ← Int32.ofInt_sub, ← Int32.ofInt_mul]; exact congrArg Int32.ofInt (by omega)) | (simp only [z_nat, z_lit, ← Int32.ofInt_add, ← Int32.ofInt_sub, ← Int32.ofInt_mul]; done) | exact congrArg Int32.ofInt (by omega) | rfl), by (dsimp only; omega), rfl, ?_⟩
  exact ⟨_, rfl, hQ.2 _ _ hy _ q_fs.rf.s1 (g.up hJ'.1.1 rfl)⟩
theorem hv_at : ∀ v : Nat, v < 4 → ∀ k, k < 2 → bt (Int32.ofInt v) k = hvH v k ∧ (hvH v k = false → Int32.ofInt v ||| ((1 : Int32) <<< (nI k &&& 31)) = Int32.ofInt (hvN v k)) := by decide +kernel
set_option maxRecDepth 100000 in
set_option maxHeartbeats 4000000 in
theorem k_halfBy (g : g_R M t n) (hJ : b_J t n) {a : Int32} (k : Nat) (hk2 : k < 2) (hQ : rQ [284] [] M t (aHalf t n k) Q) (ha : a = nI k := by (first | assumption | (simp only [z_nat, z_lit, ← Int32.ofInt_add, ← Int32.ofInt_sub, ← Int32.ofInt_mul]; exact congrArg Int32.ofInt (by omega)) | (simp only [z_nat, z_lit, ← Int32.ofInt_add, ← Int32.ofInt_sub, ← Int32.ofInt_mul]; done) | exact congrArg Int32.ofInt (by omega) | rfl)) : q_C q_mt (L, xs, q_shp) E nX12_halfBy (d + 3) 0 0 [.ref 271, .int (a)] M Q := by
  subst ha
  have h6 := g.e6
  have h7 := g.r6
  have fin : (¬ (isO t n ∧ t 9 (bE n) = 1 ∧ hvH (n (504 + (6 * bE n + bR n))) k = false)) → Q (some (.int (Int32.ofInt (-3)))) M := fun z => hQ.1 (if_neg (fun y => z (by rw [Bool.and_eq_true, isOb_t, Bool.and_eq_true, decide_eq_true_eq, Bool.not_eq_true'] at y; exact y)))
  refine w_in 90 [] ?_
  refine k_isIn (k : Int) 0 1 (by omega) (by omega) (by omega) (fun _ _ => bn_t (by decide) ?_) (fun z => absurd ⟨by omega, by omega⟩ z)
  by_cases q : isO t n
  · obtain ⟨hB, he, hr, hs, hg, hk⟩ := hJ.O g.A q
    have h31 := hB.2.2.2.1
    have hb := hs.2.2.2.2.1
    obtain ⟨v, hv⟩ : ∃ v : Nat, n (504 + (6 * bE n + bR n)) = v := ⟨(n (504 + (6 * bE n + bR n))).toNat, by omega⟩
    have ha := hv_at v (by omega) k hk2
    have e0 : M.1 284 (504 + (6 * bE n + bR n)) = Int32.ofInt v := by rw [g.at (by omega), hv]
    refine k_board g hJ q.1 ?_
    refine k_isOpen g hJ (fun _ => br_f (by decide) ?_) (fun z => absurd q z)
    refine k_isPair g (bE n) he.1 (fun hp => br_f (by decide) ?_) (fun hp => br_t (by decide) ⟨_, rfl, fin (fun z => hp z.2.1)⟩)
    refine k_roundNow g ?_
    refine k_slot (bE n) (bR n) ?_ (hb := by rw [h31]; rfl)
    refine ⟨504 + (6 * bE n + bR n), _, by (first | assumption | (simp only [z_nat, z_lit, ← Int32.ofInt_add, ← Int32.ofInt_sub, ← Int32.ofInt_mul]; exact congrArg Int32.ofInt (by omega)) | (simp only [z_nat, z_lit, ← Int32.ofInt_add, ← Int32.ofInt_sub, ← Int32.ofInt_mul]; done) | exact congrArg Int32.ofInt (by omega) | rfl), by (dsimp only; omega), e0, ?_⟩
    refine k_has (Int32.ofInt v) k (by omega) (fun hh => br_f (by decide) ⟨_, rfl, fin (fun z => ?_)⟩) (fun hh => br_t (by decide) ?_)
    · rw [ha.1] at hh
      rw [hv, hh] at z
      exact absurd z.2.2 (by decide)
    · rw [ha.1] at hh
      have hy : aHalf t n k = some (hvN (n (504 + (6 * bE n + bR n))) k, nHf n (hvN (n (504 + (6 * bE n + bR n))) k)) := if_pos (by rw [Bool.and_eq_true, isOb_t, Bool.and_eq_true, decide_eq_true_eq, Bool.not_eq_true', hv]; exact ⟨q, hp, hh⟩)
      have hJ' := (aHalf_ok hJ g.A hk2 _ _ hy).1
      have e1 := ha.2 hh
      refine k_roundNow g ?_
      refine k_slot (bE n) (bR n) ?_ (hb := by rw [h31]; rfl)
      refine ⟨504 + (6 * bE n + bR n), _, by (first | assumption | (simp only [z_nat, z_lit, ← Int32.ofInt_add, ← Int32.ofInt_sub, ← Int32.ofInt_mul]; exact congrArg Int32.ofInt (by omega)) | (simp only [z_nat, z_lit, ← Int32.ofInt_add, ← Int32.ofInt_sub, ← Int32.ofInt_mul]; done) | exact congrArg Int32.ofInt (by omega) | rfl), by (dsimp only; omega), e0, ?_⟩
      refine ⟨504 + (6 * bE n + bR n), Int32.ofInt (hvN v k), by (first | assumption | (simp only [z_nat, z_lit, ← Int32.ofInt_add, ← Int32.ofInt_sub, ← Int32.ofInt_mul]; exact congrArg Int32.ofInt (by omega)) | (simp only [z_nat, z_lit, ← Int32.ofInt_add, ← Int32.ofInt_sub, ← Int32.ofInt_mul]; done) | exact congrArg Int32.ofInt (by omega) | rfl), by (dsimp only; omega), by (first | assumption | (simp only [z_nat, z_lit, ← Int32.ofInt_add, ← Int32.ofInt_sub, ← Int32.ofInt_mul]; exact congrArg Int32.ofInt (by omega)) | (simp only [z_nat, z_lit, ← Int32.ofInt_add, ← Int32.ofInt_sub, ← Int32.ofInt_mul]; done) | exact congrArg Int32.ofInt (by omega) | rfl), ?_⟩
      have g' : g_R (q_si M 284 (504 + (6 * bE n + bR n)) (Int32.ofInt (hvN v k))) t (nHf n (hvN (n (504 + (6 * bE n + bR n))) k)) := g.up hJ'.1.1 (by rw [hv])
      have e31 : nHf n (hvN (n (504 + (6 * bE n + bR n))) k) 631 = n 631 := up_n (by omega)
      refine k_roundNow g' ?_
      rw [e31]
      refine k_slot (bE n) (bR n) ?_ (hb := by rw [h31]; rfl)
      refine ⟨504 + (6 * bE n + bR n), _, by (first | assumption | (simp only [z_nat, z_lit, ← Int32.ofInt_add, ← Int32.ofInt_sub, ← Int32.ofInt_mul]; exact congrArg Int32.ofInt (by omega)) | (simp only [z_nat, z_lit, ← Int32.ofInt_add, ← Int32.ofInt_sub, ← Int32.ofInt_mul]; done) | exact congrArg Int32.ofInt (by omega) | rfl), by (dsimp only; omega), q_si_s, ?_⟩
      refine ⟨_, rfl, ?_⟩
      have := hQ.2 _ _ hy _ (q_fs.rf.s1) g'
      rw [hv] at this
      exact this
  · refine k_anyBoard g hJ (fun x => ?_)
    exact k_isOpen g hJ (fun z => absurd z q) (fun _ => br_t (by decide) ⟨_, rfl, fin (fun z => q z.1)⟩)
set_option maxRecDepth 100000 in
set_option maxHeartbeats 4000000 in
theorem k_fails {a : Int32} (s : Nat) (hs : s < 36) (hn : r_N 284 0 M n) (hQ : ∀ M', q_fs [284] [] M M' → r_N 284 0 M' (nFl n s) → Q none M') (ha : a = nI s := by (first | assumption | (simp only [z_nat, z_lit, ← Int32.ofInt_add, ← Int32.ofInt_sub, ← Int32.ofInt_mul]; exact congrArg Int32.ofInt (by omega)) | (simp only [z_nat, z_lit, ← Int32.ofInt_add, ← Int32.ofInt_sub, ← Int32.ofInt_mul]; done) | exact congrArg Int32.ofInt (by omega) | rfl)) : q_C q_mt (L, xs, q_shp) E nX12_fails (d) 0 0 [.ref 271, .int (a)] M Q := by
  subst ha
  have W := lp_m (W := fun i M' => ∀ v, v = nI i → q_G q_mt (L, xs, q_shp) E nX12_fails (d) 0 0 (q_Q (L, xs, q_shp) E Q) 13 [some (.ref 271), some (.int (nI s)), some (.int (v))] [] M') (J := fun i M' => q_fs [284] [] M M' ∧ ∀ k, k < 634 → M'.1 284 k = Int32.ofInt (if k = 540 + s then 1 else if 36 + 11 * s ≤ k ∧ k < 36 + 11 * s + i then -1 else n k)) 11 ?_ ?_ 0
  · refine w_in 90 [13] ?_
    refine ⟨540 + s, _, by (first | assumption | (simp only [z_nat, z_lit, ← Int32.ofInt_add, ← Int32.ofInt_sub, ← Int32.ofInt_mul]; exact congrArg Int32.ofInt (by omega)) | (simp only [z_nat, z_lit, ← Int32.ofInt_add, ← Int32.ofInt_sub, ← Int32.ofInt_mul]; done) | exact congrArg Int32.ofInt (by omega) | rfl), by (dsimp only; omega), rfl, ?_⟩
    refine W _ (Nat.zero_le _) ⟨q_fs.rf.s1, fun k hk => ?_⟩ _ rfl
    have h0 := hn k hk
    rw [Nat.zero_add] at h0
    by_cases q : k = 540 + s
    · rw [q, q_si_s, if_pos rfl]
    · rw [q_si_n q, if_neg q, if_neg (by omega), h0]
  · rintro M' ⟨hf, hm⟩ v rfl
    refine w_at 90 [13] ?_
    refine z_le 11 (11 : Nat) (fun _ => hQ M' hf (fun k hk => ?_)) (fun h => by omega)
    rw [Nat.zero_add, hm k hk]
    unfold nFl
    rw [show 36 + 11 * s + 11 = 47 + 11 * s by omega]
  · rintro i M' hi ⟨hf, hm⟩ ih v rfl
    refine w_at 90 [13] ?_
    refine z_le 11 (i : Int) (fun h => by omega) (fun _ => ?_)
    refine ⟨36 + 11 * s + i, _, by (first | assumption | (simp only [z_nat, z_lit, ← Int32.ofInt_add, ← Int32.ofInt_sub, ← Int32.ofInt_mul]; exact congrArg Int32.ofInt (by omega)) | (simp only [z_nat, z_lit, ← Int32.ofInt_add, ← Int32.ofInt_sub, ← Int32.ofInt_mul]; done) | exact congrArg Int32.ofInt (by omega) | rfl), by (dsimp only; omega), rfl, ?_⟩
    refine ih _ ⟨hf.s1, fun k hk => ?_⟩ _ (by (first | assumption | (simp only [z_nat, z_lit, ← Int32.ofInt_add, ← Int32.ofInt_sub, ← Int32.ofInt_mul]; exact congrArg Int32.ofInt (by omega)) | (simp only [z_nat, z_lit, ← Int32.ofInt_add, ← Int32.ofInt_sub, ← Int32.ofInt_mul]; done) | exact congrArg Int32.ofInt (by omega) | rfl))
    by_cases q : k = 36 + 11 * s + i
    · rw [q, q_si_s, if_neg (by omega), if_pos (by omega)]
    · rw [q_si_n q, hm k hk]
      by_cases q2 : 36 + 11 * s ≤ k ∧ k < 36 + 11 * s + i
      · rw [if_pos q2, if_pos (show 36 + 11 * s ≤ k ∧ k < 36 + 11 * s + (i + 1) by omega)]
      · rw [if_neg q2, if_neg (show ¬ (36 + 11 * s ≤ k ∧ k < 36 + 11 * s + (i + 1)) by omega)]
set_option maxRecDepth 100000 in
set_option maxHeartbeats 4000000 in
theorem k_failBy (g : g_R M t n) (hJ : b_J t n) (hQ : rQ [284] [] M t (aFail t n) Q) : q_C q_mt (L, xs, q_shp) E nX12_failBy (d + 3) 0 0 [.ref 271] M Q := by
  have h6 := g.e6
  have h7 := g.r6
  refine w_in 90 [] ?_
  refine k_isOpen g hJ (fun q => bn_t (by decide) ?_) (fun q => bn_f (by decide) ⟨_, rfl, hQ.1 (if_neg (by rw [isOb_t]; exact q))⟩)
  obtain ⟨hB, he, hr, hs, hg, hk⟩ := hJ.O g.A q
  have h31 := hB.2.2.2.1
  have hy : aFail t n = some (0, nFl n ((6 * bE n + bR n))) := if_pos (isOb_t.mpr q)
  have hJ' := (aFail_ok hJ g.A _ _ hy).1
  refine k_board g hJ q.1 ?_
  refine k_roundNow g ?_
  refine k_slot (bE n) (bR n) ?_ (hb := by rw [h31]; rfl)
  refine k_fails (n := n) ((6 * bE n + bR n)) (by omega) g.2.2.1 (fun M' hf hm => ⟨_, rfl, ?_⟩)
  exact hQ.2 _ _ hy M' hf (g.to (hf.c1 280) hm hJ'.1.1)
set_option maxRecDepth 100000 in
set_option maxHeartbeats 4000000 in
theorem k_balkBy (g : g_R M t n) (hJ : b_J t n) (hQ : rQ [284] [] M t (aBalk t n) Q) : q_C q_mt (L, xs, q_shp) E nX12_balkBy (d + 3) 0 0 [.ref 271] M Q := by
  have h6 := g.e6
  have h7 := g.r6
  refine w_in 90 [] ?_
  refine k_isOpen g hJ (fun q => bn_t (by decide) ?_) (fun q => bn_f (by decide) ⟨_, rfl, hQ.1 (if_neg (by rw [isOb_t]; exact q))⟩)
  obtain ⟨hB, he, hr, hs, hg, hk⟩ := hJ.O g.A q
  have h31 := hB.2.2.2.1
  have b0 := hs.2.2.2.1
  have hy : aBalk t n = some (n (468 + (6 * bE n + bR n)) + 1, if n (468 + (6 * bE n + bR n)) + 1 = 2 then nFl (nBk n) ((6 * bE n + bR n)) else nBk n) := if_pos (isOb_t.mpr q)
  have hJ' := (aBalk_ok hJ g.A _ _ hy).1
  have e0 : M.1 284 (468 + (6 * bE n + bR n)) = Int32.ofInt (n (468 + (6 * bE n + bR n))) := g.at (by omega)
  refine k_board g hJ q.1 ?_
  refine k_roundNow g ?_
  refine k_slot (bE n) (bR n) ?_ (hb := by rw [h31]; rfl)
  refine ⟨468 + (6 * bE n + bR n), _, by (first | assumption | (simp only [z_nat, z_lit, ← Int32.ofInt_add, ← Int32.ofInt_sub, ← Int32.ofInt_mul]; exact congrArg Int32.ofInt (by omega)) | (simp only [z_nat, z_lit, ← Int32.ofInt_add, ← Int32.ofInt_sub, ← Int32.ofInt_mul]; done) | exact congrArg Int32.ofInt (by omega) | rfl), by (dsimp only; omega), e0, ?_⟩
  refine ⟨468 + (6 * bE n + bR n), Int32.ofInt (n (468 + (6 * bE n + bR n)) + 1), by (first | assumption | (simp only [z_nat, z_lit, ← Int32.ofInt_add, ← Int32.ofInt_sub, ← Int32.ofInt_mul]; exact congrArg Int32.ofInt (by omega)) | (simp only [z_nat, z_lit, ← Int32.ofInt_add, ← Int32.ofInt_sub, ← Int32.ofInt_mul]; done) | exact congrArg Int32.ofInt (by omega) | rfl), by (dsimp only; omega), by (first | assumption | (simp only [z_nat, z_lit, ← Int32.ofInt_add, ← Int32.ofInt_sub, ← Int32.ofInt_mul]; exact congrArg Int32.ofInt (by omega)) | (simp only [z_nat, z_lit, ← Int32.ofInt_add, ← Int32.ofInt_sub, ← Int32.ofInt_mul]; done) | exact congrArg Int32.ofInt (by omega) | rfl), ?_⟩
  have hn : r_N 284 0 (q_si M 284 (468 + (6 * bE n + bR n)) (Int32.ofInt (n (468 + (6 * bE n + bR n)) + 1))) (nBk n) := g.2.2.1.up rfl
  refine ⟨468 + (6 * bE n + bR n), _, by (first | assumption | (simp only [z_nat, z_lit, ← Int32.ofInt_add, ← Int32.ofInt_sub, ← Int32.ofInt_mul]; exact congrArg Int32.ofInt (by omega)) | (simp only [z_nat, z_lit, ← Int32.ofInt_add, ← Int32.ofInt_sub, ← Int32.ofInt_mul]; done) | exact congrArg Int32.ofInt (by omega) | rfl), by (dsimp only; omega), q_si_s, ?_⟩
  refine z_ne (n (468 + (6 * bE n + bR n)) + 1) 2 (fun q2 => ?_) (fun q2 => ?_)
  · refine ⟨468 + (6 * bE n + bR n), _, by (first | assumption | (simp only [z_nat, z_lit, ← Int32.ofInt_add, ← Int32.ofInt_sub, ← Int32.ofInt_mul]; exact congrArg Int32.ofInt (by omega)) | (simp only [z_nat, z_lit, ← Int32.ofInt_add, ← Int32.ofInt_sub, ← Int32.ofInt_mul]; done) | exact congrArg Int32.ofInt (by omega) | rfl), by (dsimp only; omega), q_si_s, ?_⟩
    rw [if_neg q2] at hy hJ'
    exact ⟨_, rfl, hQ.2 _ _ hy _ q_fs.rf.s1 (g.to rfl hn hJ'.1.1)⟩
  · rw [if_pos q2] at hy hJ'
    refine k_fails (n := nBk n) ((6 * bE n + bR n)) (by omega) hn (fun M' hf hm => ?_)
    have e1 : M'.1 284 (468 + (6 * bE n + bR n)) = Int32.ofInt (n (468 + (6 * bE n + bR n)) + 1) := by
      have := hm (468 + (6 * bE n + bR n)) (by omega)
      rw [Nat.zero_add, nFl_o (by omega) (by omega) (by omega)] at this
      rw [this]
      unfold nBk
      rw [up_s]
    refine ⟨468 + (6 * bE n + bR n), _, by (first | assumption | (simp only [z_nat, z_lit, ← Int32.ofInt_add, ← Int32.ofInt_sub, ← Int32.ofInt_mul]; exact congrArg Int32.ofInt (by omega)) | (simp only [z_nat, z_lit, ← Int32.ofInt_add, ← Int32.ofInt_sub, ← Int32.ofInt_mul]; done) | exact congrArg Int32.ofInt (by omega) | rfl), by (dsimp only; omega), e1, ?_⟩
    have hf2 : q_fs [284] [] M M' := (q_fs.rf.s1 (r := 284) (i := 468 + (6 * bE n + bR n)) (x := Int32.ofInt (n (468 + (6 * bE n + bR n)) + 1))).tr hf
    exact ⟨_, rfl, hQ.2 _ _ hy M' hf2 (g.to (hf2.c1 280) hm hJ'.1.1)⟩
end S2
