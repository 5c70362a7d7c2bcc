/-! goesOn of the reference -/
section GF
variable {L : Nat} {xs : Nat → Int32} {E : q_E} {d : Nat} {M : q_M} {t : q_T} {n : sN} {Q : Option Value → q_M → Prop} {P : q_M → Prop}
abbrev lG : List Nat := [284, 293, 294]
set_option maxRecDepth 100000 in
set_option maxHeartbeats 4000000 in
theorem k_cutBehind (g : g_R M t n) {a : Int32} (r : Int) (hr : 0 ≤ r ∧ r ≤ 6) (h1 : ∀ k, k < t 13 0 → (t 14 k : Int) = r → Q (some (.int (nI k))) M) (h0 : (∀ i, i < t 13 0 → ¬ (t 14 i : Int) = r) → Q (some (.int (Int32.ofInt (-1)))) M) (ha : a = Int32.ofInt r := by (first | assumption | (simp only [z_nat, z_lit, ← Int32.ofInt_add, ← Int32.ofInt_sub, ← Int32.ofInt_mul]; exact congrArg Int32.ofInt (by omega)) | (simp only [z_nat, z_lit, ← Int32.ofInt_add, ← Int32.ofInt_sub, ← Int32.ofInt_mul]; done) | exact congrArg Int32.ofInt (by omega) | rfl)) : q_C q_mt (L, xs, q_shp) E nX12_cutBehind (d) 0 0 [.ref 271, .int (a)] M Q := by
  subst ha
  have h3 := g.c3
  have W := lp_up (W := fun k => (∀ i, i < k → ¬ (t 14 i : Int) = r) → ∀ v, v = nI k → q_G q_mt (L, xs, q_shp) E nX12_cutBehind (d) 0 0 (q_Q (L, xs, q_shp) E Q) 2 [some (.ref 271), some (.int (Int32.ofInt r)), some (.int (v))] [] M) (t 13 0) ?_ ?_ 0 (Nat.zero_le _)
  · refine w_in 90 [2] ?_
    exact W (fun i hi => by omega) _ rfl
  · rintro hno v rfl
    refine w_at 90 [2] ?_
    refine ⟨6, _, by (first | assumption | (simp only [z_nat, z_lit, ← Int32.ofInt_add, ← Int32.ofInt_sub, ← Int32.ofInt_mul]; exact congrArg Int32.ofInt (by omega)) | (simp only [z_nat, z_lit, ← Int32.ofInt_add, ← Int32.ofInt_sub, ← Int32.ofInt_mul]; done) | exact congrArg Int32.ofInt (by omega) | rfl), by (dsimp only; omega), g.R6, ?_⟩
    exact z_le (t 13 0) (t 13 0) (fun h => ⟨_, rfl, h0 hno⟩) (fun h => by omega)
  · rintro k hk ih hno v rfl
    have hb := g.b2.2.1 k hk
    have h6 := g.r6
    refine w_at 90 [2] ?_
    refine ⟨6, _, by (first | assumption | (simp only [z_nat, z_lit, ← Int32.ofInt_add, ← Int32.ofInt_sub, ← Int32.ofInt_mul]; exact congrArg Int32.ofInt (by omega)) | (simp only [z_nat, z_lit, ← Int32.ofInt_add, ← Int32.ofInt_sub, ← Int32.ofInt_mul]; done) | exact congrArg Int32.ofInt (by omega) | rfl), by (dsimp only; omega), g.R6, ?_⟩
    refine z_le (t 13 0) k (fun h => by omega) (fun h => ?_)
    refine ⟨134 + 3 * k, _, by (first | assumption | (simp only [z_nat, z_lit, ← Int32.ofInt_add, ← Int32.ofInt_sub, ← Int32.ofInt_mul]; exact congrArg Int32.ofInt (by omega)) | (simp only [z_nat, z_lit, ← Int32.ofInt_add, ← Int32.ofInt_sub, ← Int32.ofInt_mul]; done) | exact congrArg Int32.ofInt (by omega) | rfl), by (dsimp only; omega), (g.cu hk).1, ?_⟩
    refine z_ne (t 14 k) r (fun h2 => ?_) (fun h2 => ⟨_, rfl, h1 k hk h2⟩)
    refine ih (fun i hi => ?_) _ (by (first | assumption | (simp only [z_nat, z_lit, ← Int32.ofInt_add, ← Int32.ofInt_sub, ← Int32.ofInt_mul]; exact congrArg Int32.ofInt (by omega)) | (simp only [z_nat, z_lit, ← Int32.ofInt_add, ← Int32.ofInt_sub, ← Int32.ofInt_mul]; done) | exact congrArg Int32.ofInt (by omega) | rfl))
    by_cases q : i = k
    · subst q
      exact h2
    · exact hno i (by omega)
set_option maxRecDepth 100000 in
set_option maxHeartbeats 4000000 in
theorem k_endsRound (g : g_R M t n) (h31 : 1 ≤ n 631 ∧ n 631 ≤ t 0 0) (h1 : n 631 = t 0 0 → ∀ M', q_fs lG fD M M' → g_R M' t (up n 633 1) → Q none M') (n2 : sN) (h0 : ¬ n 631 = t 0 0 → isCt t n n2 ∧ b_N t n2 ∧ ∀ M', q_fs lG fD M M' → g_R M' t (up (up n2 631 (n 631 + 1)) 632 0) → Q none M') : q_C q_mt (L, xs, q_shp) E nX12_endsRound (d + 10) 0 0 [.ref 271] M Q := by
  have h6 := g.e6
  have h7 := g.r6
  refine w_in 90 [] ?_
  refine k_roundNow g ?_
  refine ⟨0, _, by (first | assumption | (simp only [z_nat, z_lit, ← Int32.ofInt_add, ← Int32.ofInt_sub, ← Int32.ofInt_mul]; exact congrArg Int32.ofInt (by omega)) | (simp only [z_nat, z_lit, ← Int32.ofInt_add, ← Int32.ofInt_sub, ← Int32.ofInt_mul]; done) | exact congrArg Int32.ofInt (by omega) | rfl), by (dsimp only; omega), g.R0, ?_⟩
  refine z_ne (n 631) (t 0 0) (fun q => ?_) (fun q => ?_)
  · obtain ⟨hc, hb2, hQ⟩ := h0 q
    have fin : ∀ M1, q_fs lG fD M M1 → r_N 284 0 M1 n2 → M1.1 284 631 = Int32.ofInt (n 631) → Q none (q_si (q_si M1 284 631 (Int32.ofInt (n 631 + 1))) 284 632 (Int32.ofInt 0)) := fun M1 hf hn e => by
      refine hQ _ hf.s1.s1 ((g.to (M' := q_si (q_si M1 284 631 (Int32.ofInt (n 631 + 1))) 284 632 (Int32.ofInt 0)) (hf.c1 280)) ((hn.up rfl).up rfl) ?_)
      refine hb2.of h6 h7 g.j11 (fun i hi => (up_n (by omega)).trans (up_n (by omega))) (fun e he => ?_)
      rw [up_n (by omega), up_n (by omega), up_n (by omega), up_n (by omega)]
      exact hb2.2.1 e he
    refine k_cutBehind g (n 631) (by omega) (fun c hc2 e => ?_) (fun hno => ?_)
    · have hb := g.b2.2.1 c hc2
      have c3 := g.c3
      refine z_eq (c : Int) (-1) (fun z => by omega) (fun _ => ?_)
      rcases hc with ⟨c', R, hc', e', hR, rfl⟩ | ⟨hno, -⟩
      · obtain rfl : c = c' := by
          rcases Nat.lt_trichotomy c c' with z | z | z
          · have := g.b2.2.2.1 c c' z hc'
            omega
          · exact z
          · have := g.b2.2.2.1 c' c z hc2
            omega
        refine ⟨134 + 3 * c + 1, nI (t 15 c), by (first | assumption | (simp only [z_nat, z_lit, ← Int32.ofInt_add, ← Int32.ofInt_sub, ← Int32.ofInt_mul]; exact congrArg Int32.ofInt (by omega)) | (simp only [z_nat, z_lit, ← Int32.ofInt_add, ← Int32.ofInt_sub, ← Int32.ofInt_mul]; done) | exact congrArg Int32.ofInt (by omega) | rfl), by (dsimp only; omega), by rw [show 134 + 3 * c + 1 = 135 + 3 * c by omega]; exact (g.cu hc2).2.1, ?_⟩
        refine ⟨134 + 3 * c + 2, nI (t 16 c), by (first | assumption | (simp only [z_nat, z_lit, ← Int32.ofInt_add, ← Int32.ofInt_sub, ← Int32.ofInt_mul]; exact congrArg Int32.ofInt (by omega)) | (simp only [z_nat, z_lit, ← Int32.ofInt_add, ← Int32.ofInt_sub, ← Int32.ofInt_mul]; done) | exact congrArg Int32.ofInt (by omega) | rfl), by (dsimp only; omega), by rw [show 134 + 3 * c + 2 = 136 + 3 * c by omega]; exact (g.cu hc2).2.2, ?_⟩
        have go : ∀ y, ((t 16 c = 1 ∧ y = Int32.ofInt 1) ∨ (¬ t 16 c = 1 ∧ y = Int32.ofInt 0)) → ∀ Q' : Option Value → q_M → Prop, (∀ M1, q_fs lG fD M M1 → r_N 284 0 M1 (cutN t n c R) → M1.1 284 631 = Int32.ofInt (n 631) → Q' none M1) → q_C q_mt (L, xs, q_shp) E nX12_cuts (d + 9) 0 0 [.ref 271, .int (Int32.ofInt (n 631)), .int (nI (t 15 c)), .int (y)] M Q' := by
          intro y hy Q' hq'
          refine k_cuts g c hc2 hR (by omega) hy (fun M1 hf hn => hq' M1 hf hn ?_)
          have := hn 631 (by omega)
          rw [Nat.zero_add, cut_hi (by omega) h6] at this
          exact this
        refine z_ne (t 16 c) 1 (fun q2 => ?_) (fun q2 => ?_)
        · refine go _ (Or.inr ⟨by omega, rfl⟩) _ (fun M1 hf hn e31 => ?_)
          refine ⟨631, _, by (first | assumption | (simp only [z_nat, z_lit, ← Int32.ofInt_add, ← Int32.ofInt_sub, ← Int32.ofInt_mul]; exact congrArg Int32.ofInt (by omega)) | (simp only [z_nat, z_lit, ← Int32.ofInt_add, ← Int32.ofInt_sub, ← Int32.ofInt_mul]; done) | exact congrArg Int32.ofInt (by omega) | rfl), by (dsimp only; omega), e31, ?_⟩
          refine ⟨631, Int32.ofInt (n 631 + 1), by (first | assumption | (simp only [z_nat, z_lit, ← Int32.ofInt_add, ← Int32.ofInt_sub, ← Int32.ofInt_mul]; exact congrArg Int32.ofInt (by omega)) | (simp only [z_nat, z_lit, ← Int32.ofInt_add, ← Int32.ofInt_sub, ← Int32.ofInt_mul]; done) | exact congrArg Int32.ofInt (by omega) | rfl), by (dsimp only; omega), by (first | assumption | (simp only [z_nat, z_lit, ← Int32.ofInt_add, ← Int32.ofInt_sub, ← Int32.ofInt_mul]; exact congrArg Int32.ofInt (by omega)) | (simp only [z_nat, z_lit, ← Int32.ofInt_add, ← Int32.ofInt_sub, ← Int32.ofInt_mul]; done) | exact congrArg Int32.ofInt (by omega) | rfl), ?_⟩
          refine ⟨632, _, by (first | assumption | (simp only [z_nat, z_lit, ← Int32.ofInt_add, ← Int32.ofInt_sub, ← Int32.ofInt_mul]; exact congrArg Int32.ofInt (by omega)) | (simp only [z_nat, z_lit, ← Int32.ofInt_add, ← Int32.ofInt_sub, ← Int32.ofInt_mul]; done) | exact congrArg Int32.ofInt (by omega) | rfl), by (dsimp only; omega), rfl, ?_⟩
          exact fin M1 hf hn e31
        · refine go _ (Or.inl ⟨by omega, rfl⟩) _ (fun M1 hf hn e31 => ?_)
          refine ⟨631, _, by (first | assumption | (simp only [z_nat, z_lit, ← Int32.ofInt_add, ← Int32.ofInt_sub, ← Int32.ofInt_mul]; exact congrArg Int32.ofInt (by omega)) | (simp only [z_nat, z_lit, ← Int32.ofInt_add, ← Int32.ofInt_sub, ← Int32.ofInt_mul]; done) | exact congrArg Int32.ofInt (by omega) | rfl), by (dsimp only; omega), e31, ?_⟩
          refine ⟨631, Int32.ofInt (n 631 + 1), by (first | assumption | (simp only [z_nat, z_lit, ← Int32.ofInt_add, ← Int32.ofInt_sub, ← Int32.ofInt_mul]; exact congrArg Int32.ofInt (by omega)) | (simp only [z_nat, z_lit, ← Int32.ofInt_add, ← Int32.ofInt_sub, ← Int32.ofInt_mul]; done) | exact congrArg Int32.ofInt (by omega) | rfl), by (dsimp only; omega), by (first | assumption | (simp only [z_nat, z_lit, ← Int32.ofInt_add, ← Int32.ofInt_sub, ← Int32.ofInt_mul]; exact congrArg Int32.ofInt (by omega)) | (simp only [z_nat, z_lit, ← Int32.ofInt_add, ← Int32.ofInt_sub, ← Int32.ofInt_mul]; done) | exact congrArg Int32.ofInt (by omega) | rfl), ?_⟩
          refine ⟨632, _, by (first | assumption | (simp only [z_nat, z_lit, ← Int32.ofInt_add, ← Int32.ofInt_sub, ← Int32.ofInt_mul]; exact congrArg Int32.ofInt (by omega)) | (simp only [z_nat, z_lit, ← Int32.ofInt_add, ← Int32.ofInt_sub, ← Int32.ofInt_mul]; done) | exact congrArg Int32.ofInt (by omega) | rfl), by (dsimp only; omega), rfl, ?_⟩
          exact fin M1 hf hn e31
      · exact absurd e (hno c hc2)
    · refine z_eq (-1) (-1) (fun _ => ?_) (fun z => absurd rfl z)
      rcases hc with ⟨c', R, hc', e', hR, rfl⟩ | ⟨-, rfl⟩
      · exact absurd e' (hno c' hc')
      · have e31 : M.1 284 631 = Int32.ofInt (n2 631) := g.at (by omega)
        refine ⟨631, _, by (first | assumption | (simp only [z_nat, z_lit, ← Int32.ofInt_add, ← Int32.ofInt_sub, ← Int32.ofInt_mul]; exact congrArg Int32.ofInt (by omega)) | (simp only [z_nat, z_lit, ← Int32.ofInt_add, ← Int32.ofInt_sub, ← Int32.ofInt_mul]; done) | exact congrArg Int32.ofInt (by omega) | rfl), by (dsimp only; omega), e31, ?_⟩
        refine ⟨631, Int32.ofInt (n2 631 + 1), by (first | assumption | (simp only [z_nat, z_lit, ← Int32.ofInt_add, ← Int32.ofInt_sub, ← Int32.ofInt_mul]; exact congrArg Int32.ofInt (by omega)) | (simp only [z_nat, z_lit, ← Int32.ofInt_add, ← Int32.ofInt_sub, ← Int32.ofInt_mul]; done) | exact congrArg Int32.ofInt (by omega) | rfl), by (dsimp only; omega), by (first | assumption | (simp only [z_nat, z_lit, ← Int32.ofInt_add, ← Int32.ofInt_sub, ← Int32.ofInt_mul]; exact congrArg Int32.ofInt (by omega)) | (simp only [z_nat, z_lit, ← Int32.ofInt_add, ← Int32.ofInt_sub, ← Int32.ofInt_mul]; done) | exact congrArg Int32.ofInt (by omega) | rfl), ?_⟩
        refine ⟨632, _, by (first | assumption | (simp only [z_nat, z_lit, ← Int32.ofInt_add, ← Int32.ofInt_sub, ← Int32.ofInt_mul]; exact congrArg Int32.ofInt (by omega)) | (simp only [z_nat, z_lit, ← Int32.ofInt_add, ← Int32.ofInt_sub, ← Int32.ofInt_mul]; done) | exact congrArg Int32.ofInt (by omega) | rfl), by (dsimp only; omega), rfl, ?_⟩
        exact fin M q_fs.rf g.2.2.1 e31
  · refine ⟨633, _, by (first | assumption | (simp only [z_nat, z_lit, ← Int32.ofInt_add, ← Int32.ofInt_sub, ← Int32.ofInt_mul]; exact congrArg Int32.ofInt (by omega)) | (simp only [z_nat, z_lit, ← Int32.ofInt_add, ← Int32.ofInt_sub, ← Int32.ofInt_mul]; done) | exact congrArg Int32.ofInt (by omega) | rfl), by (dsimp only; omega), rfl, ?_⟩
    refine h1 q _ q_fs.rf.s1 (g.up ?_ rfl)
    refine g.bn.of h6 h7 g.j11 (fun i hi => up_n (by omega)) (fun e he => ?_)
    rw [up_n (by omega), up_n (by omega)]
    exact g.bn.2.1 e he
-- from the place a on to the first who is in
set_option maxRecDepth 100000 in
set_option maxHeartbeats 4000000 in
theorem k_scan {m : sN} (g : g_R M t m) (h33 : m 633 = 0) (q : ¬ inN t m = 0) (m6 : ∀ a : Nat, (a : Int) < m 630 → 0 ≤ m (624 + a) ∧ m (624 + a) < t 8 0) (m4 : m 630 ≤ t 8 0) {a k : Nat} (hk : firstIn m a k) (h32 : m 632 = a) (hQ : ∀ M', q_fs [284] [] M M' → g_R M' t (up m 632 k) → Q none M') : q_G q_mt (L, xs, q_shp) E nX12_goesOn (d + 2) 0 0 (q_Q (L, xs, q_shp) E Q) 2 [some (.ref 271), some (.int (Int32.ofInt 0))] [] M := by
  obtain ⟨k1, k2, k3, k4⟩ := hk
  have h6 := g.e6
  have bN : ∀ v : Int, b_N t (up m 632 v) := fun v => g.bn.of h6 g.r6 g.j11 (fun i hi => up_n (by omega)) (fun e he => by rw [up_n (by omega), up_n (by omega)]; exact g.bn.2.1 e he)
  have eI : ∀ v : Int, inN t (up m 632 v) = inN t m := fun v => inN_eq (fun e he => up_n (by omega))
  have iB : inN t m ≤ 6 := Nat.le_trans (fb_ct_le _ _) h6
  have W := lp_m (W := fun _ M' => q_G q_mt (L, xs, q_shp) E nX12_goesOn (d + 2) 0 0 (q_Q (L, xs, q_shp) E Q) 2 [some (.ref 271), some (.int (Int32.ofInt 0))] [] M') (J := fun i M' => a ≤ i ∧ q_fs [284] [] M M' ∧ r_N 284 0 M' (up m 632 i)) k ?_ ?_ a M k1 ⟨Nat.le_refl _, q_fs.rf, g.2.2.1.of (fun i hi => by
    by_cases z : i = 632
    · rw [z, up_s, h32]
    · rw [up_n z])⟩
  · exact W
  · rintro M' ⟨-, hf, hn⟩
    have g' := g.to (hf.c1 280) hn (bN k)
    have e33 : M'.1 284 633 = Int32.ofInt 0 := by rw [g'.at (by omega), up_n (by omega), h33]
    have e32 : M'.1 284 632 = Int32.ofInt k := by rw [g'.at (by omega), up_s]
    have e30 : M'.1 284 630 = Int32.ofInt (m 630) := by rw [g'.at (by omega), up_n (by omega)]
    have eo : M'.1 284 (624 + k) = nI ((m (624 + k)).toNat) := by
      have := m6 k k2
      rw [g'.at (by omega), up_n (by omega), z_nat]
      exact congrArg Int32.ofInt (by omega)
    have ko := m6 k k2
    refine w_at 90 [2] ?_
    refine z_ne 0 0 (fun z => absurd rfl z) (fun _ => ?_)
    refine ⟨633, _, by (first | assumption | (simp only [z_nat, z_lit, ← Int32.ofInt_add, ← Int32.ofInt_sub, ← Int32.ofInt_mul]; exact congrArg Int32.ofInt (by omega)) | (simp only [z_nat, z_lit, ← Int32.ofInt_add, ← Int32.ofInt_sub, ← Int32.ofInt_mul]; done) | exact congrArg Int32.ofInt (by omega) | rfl), by (dsimp only; omega), e33, ?_⟩
    refine z_ne 0 0 (fun z => absurd rfl z) (fun _ => ?_)
    refine k_inMany g' ?_
    rw [eI]
    refine z_ne (inN t m) 0 (fun _ => ?_) (fun z => by omega)
    refine ⟨632, _, by (first | assumption | (simp only [z_nat, z_lit, ← Int32.ofInt_add, ← Int32.ofInt_sub, ← Int32.ofInt_mul]; exact congrArg Int32.ofInt (by omega)) | (simp only [z_nat, z_lit, ← Int32.ofInt_add, ← Int32.ofInt_sub, ← Int32.ofInt_mul]; done) | exact congrArg Int32.ofInt (by omega) | rfl), by (dsimp only; omega), e32, ?_⟩
    refine ⟨630, _, by (first | assumption | (simp only [z_nat, z_lit, ← Int32.ofInt_add, ← Int32.ofInt_sub, ← Int32.ofInt_mul]; exact congrArg Int32.ofInt (by omega)) | (simp only [z_nat, z_lit, ← Int32.ofInt_add, ← Int32.ofInt_sub, ← Int32.ofInt_mul]; done) | exact congrArg Int32.ofInt (by omega) | rfl), by (dsimp only; omega), e30, ?_⟩
    refine z_ne (k : Int) (m 630) (fun _ => ?_) (fun z => by omega)
    refine ⟨632, _, by (first | assumption | (simp only [z_nat, z_lit, ← Int32.ofInt_add, ← Int32.ofInt_sub, ← Int32.ofInt_mul]; exact congrArg Int32.ofInt (by omega)) | (simp only [z_nat, z_lit, ← Int32.ofInt_add, ← Int32.ofInt_sub, ← Int32.ofInt_mul]; done) | exact congrArg Int32.ofInt (by omega) | rfl), by (dsimp only; omega), e32, ?_⟩
    refine ⟨624 + k, _, by (first | assumption | (simp only [z_nat, z_lit, ← Int32.ofInt_add, ← Int32.ofInt_sub, ← Int32.ofInt_mul]; exact congrArg Int32.ofInt (by omega)) | (simp only [z_nat, z_lit, ← Int32.ofInt_add, ← Int32.ofInt_sub, ← Int32.ofInt_mul]; done) | exact congrArg Int32.ofInt (by omega) | rfl), by (dsimp only; omega), eo, ?_⟩
    refine k_isInStill g' ((m (624 + k)).toNat) (by omega) (fun _ => br_f (by decide) ?_) (fun z => ?_)
    · refine w_at 90 [2] ?_
      exact z_ne 1 0 (fun _ => hQ M' hf g') (fun z => by omega)
    · rw [inE_eq (up_n (by omega)), k3] at z
      cases z
  · rintro i M' hi ⟨ha, hf, hn⟩ ih
    have g' := g.to (hf.c1 280) hn (bN i)
    have e33 : M'.1 284 633 = Int32.ofInt 0 := by rw [g'.at (by omega), up_n (by omega), h33]
    have e32 : M'.1 284 632 = Int32.ofInt i := by rw [g'.at (by omega), up_s]
    have e30 : M'.1 284 630 = Int32.ofInt (m 630) := by rw [g'.at (by omega), up_n (by omega)]
    have ko := m6 i (by omega)
    have eo : M'.1 284 (624 + i) = nI ((m (624 + i)).toNat) := by
      rw [g'.at (by omega), up_n (by omega), z_nat]
      exact congrArg Int32.ofInt (by omega)
    refine w_at 90 [2] ?_
    refine z_ne 0 0 (fun z => absurd rfl z) (fun _ => ?_)
    refine ⟨633, _, by (first | assumption | (simp only [z_nat, z_lit, ← Int32.ofInt_add, ← Int32.ofInt_sub, ← Int32.ofInt_mul]; exact congrArg Int32.ofInt (by omega)) | (simp only [z_nat, z_lit, ← Int32.ofInt_add, ← Int32.ofInt_sub, ← Int32.ofInt_mul]; done) | exact congrArg Int32.ofInt (by omega) | rfl), by (dsimp only; omega), e33, ?_⟩
    refine z_ne 0 0 (fun z => absurd rfl z) (fun _ => ?_)
    refine k_inMany g' ?_
    rw [eI]
    refine z_ne (inN t m) 0 (fun _ => ?_) (fun z => by omega)
    refine ⟨632, _, by (first | assumption | (simp only [z_nat, z_lit, ← Int32.ofInt_add, ← Int32.ofInt_sub, ← Int32.ofInt_mul]; exact congrArg Int32.ofInt (by omega)) | (simp only [z_nat, z_lit, ← Int32.ofInt_add, ← Int32.ofInt_sub, ← Int32.ofInt_mul]; done) | exact congrArg Int32.ofInt (by omega) | rfl), by (dsimp only; omega), e32, ?_⟩
    refine ⟨630, _, by (first | assumption | (simp only [z_nat, z_lit, ← Int32.ofInt_add, ← Int32.ofInt_sub, ← Int32.ofInt_mul]; exact congrArg Int32.ofInt (by omega)) | (simp only [z_nat, z_lit, ← Int32.ofInt_add, ← Int32.ofInt_sub, ← Int32.ofInt_mul]; done) | exact congrArg Int32.ofInt (by omega) | rfl), by (dsimp only; omega), e30, ?_⟩
    refine z_ne (i : Int) (m 630) (fun _ => ?_) (fun z => by omega)
    refine ⟨632, _, by (first | assumption | (simp only [z_nat, z_lit, ← Int32.ofInt_add, ← Int32.ofInt_sub, ← Int32.ofInt_mul]; exact congrArg Int32.ofInt (by omega)) | (simp only [z_nat, z_lit, ← Int32.ofInt_add, ← Int32.ofInt_sub, ← Int32.ofInt_mul]; done) | exact congrArg Int32.ofInt (by omega) | rfl), by (dsimp only; omega), e32, ?_⟩
    refine ⟨624 + i, _, by (first | assumption | (simp only [z_nat, z_lit, ← Int32.ofInt_add, ← Int32.ofInt_sub, ← Int32.ofInt_mul]; exact congrArg Int32.ofInt (by omega)) | (simp only [z_nat, z_lit, ← Int32.ofInt_add, ← Int32.ofInt_sub, ← Int32.ofInt_mul]; done) | exact congrArg Int32.ofInt (by omega) | rfl), by (dsimp only; omega), eo, ?_⟩
    refine k_isInStill g' ((m (624 + i)).toNat) (by omega) (fun z => ?_) (fun _ => br_t (by decide) ?_)
    · rw [inE_eq (up_n (by omega)), k4 i ha hi] at z
      cases z
    · refine ⟨632, _, by (first | assumption | (simp only [z_nat, z_lit, ← Int32.ofInt_add, ← Int32.ofInt_sub, ← Int32.ofInt_mul]; exact congrArg Int32.ofInt (by omega)) | (simp only [z_nat, z_lit, ← Int32.ofInt_add, ← Int32.ofInt_sub, ← Int32.ofInt_mul]; done) | exact congrArg Int32.ofInt (by omega) | rfl), by (dsimp only; omega), e32, ?_⟩
      refine ⟨632, Int32.ofInt ((i + 1 : Nat) : Int), by (first | assumption | (simp only [z_nat, z_lit, ← Int32.ofInt_add, ← Int32.ofInt_sub, ← Int32.ofInt_mul]; exact congrArg Int32.ofInt (by omega)) | (simp only [z_nat, z_lit, ← Int32.ofInt_add, ← Int32.ofInt_sub, ← Int32.ofInt_mul]; done) | exact congrArg Int32.ofInt (by omega) | rfl), by (dsimp only; omega), by (first | assumption | (simp only [z_nat, z_lit, ← Int32.ofInt_add, ← Int32.ofInt_sub, ← Int32.ofInt_mul]; exact congrArg Int32.ofInt (by omega)) | (simp only [z_nat, z_lit, ← Int32.ofInt_add, ← Int32.ofInt_sub, ← Int32.ofInt_mul]; done) | exact congrArg Int32.ofInt (by omega) | rfl), ?_⟩
      refine ih _ ⟨by omega, hf.s1, fun j hj => ?_⟩
      rw [Nat.zero_add]
      by_cases z : j = 632
      · rw [z, q_si_s, up_s]
      · rw [q_si_n z, up_n z, g'.at hj, up_n z]
-- from the place a on to the end, where nobody is in
set_option maxRecDepth 100000 in
set_option maxHeartbeats 4000000 in
theorem k_scanNo {m : sN} (g : g_R M t m) (h33 : m 633 = 0) (q : ¬ inN t m = 0) (m6 : ∀ a : Nat, (a : Int) < m 630 → 0 ≤ m (624 + a) ∧ m (624 + a) < t 8 0) (m4 : m 630 ≤ t 8 0) (hk : noIn m (m 632).toNat) (h32 : 0 ≤ m 632 ∧ m 632 ≤ m 630) (hQ : ∀ M', q_fs [284] [] M M' → g_R M' t (up m 632 (m 630)) → q_C q_mt (L, xs, q_shp) E nX12_endsRound (d + 10) 0 0 [.ref 271] M' (fun v M'' => v = none ∧ q_G q_mt (L, xs, q_shp) E nX12_goesOn (d + 11) 0 0 (q_Q (L, xs, q_shp) E Q) 2 [some (.ref 271), some (.int (Int32.ofInt 0))] [] M'')) : q_G q_mt (L, xs, q_shp) E nX12_goesOn (d + 11) 0 0 (q_Q (L, xs, q_shp) E Q) 2 [some (.ref 271), some (.int (Int32.ofInt 0))] [] M := by
  have h6 := g.e6
  have bN : ∀ v : Int, b_N t (up m 632 v) := fun v => g.bn.of h6 g.r6 g.j11 (fun i hi => up_n (by omega)) (fun e he => by rw [up_n (by omega), up_n (by omega)]; exact g.bn.2.1 e he)
  have eI : ∀ v : Int, inN t (up m 632 v) = inN t m := fun v => inN_eq (fun e he => up_n (by omega))
  have iB : inN t m ≤ 6 := Nat.le_trans (fb_ct_le _ _) h6
  have W := lp_m (W := fun _ M' => q_G q_mt (L, xs, q_shp) E nX12_goesOn (d + 11) 0 0 (q_Q (L, xs, q_shp) E Q) 2 [some (.ref 271), some (.int (Int32.ofInt 0))] [] M') (J := fun i M' => (m 632).toNat ≤ i ∧ q_fs [284] [] M M' ∧ r_N 284 0 M' (up m 632 i)) (m 630).toNat ?_ ?_ (m 632).toNat M (by omega) ⟨Nat.le_refl _, q_fs.rf, g.2.2.1.of (fun i hi => by
    by_cases z : i = 632
    · rw [z, up_s]
      omega
    · rw [up_n z])⟩
  · exact W
  · rintro M' ⟨-, hf, hn⟩
    rw [show ((m 630).toNat : Int) = m 630 by omega] at hn
    have g' := g.to (hf.c1 280) hn (bN _)
    have e33 : M'.1 284 633 = Int32.ofInt 0 := by rw [g'.at (by omega), up_n (by omega), h33]
    have e32 : M'.1 284 632 = Int32.ofInt (m 630) := by rw [g'.at (by omega), up_s]
    have e30 : M'.1 284 630 = Int32.ofInt (m 630) := by rw [g'.at (by omega), up_n (by omega)]
    refine w_at 90 [2] ?_
    refine z_ne 0 0 (fun z => absurd rfl z) (fun _ => ?_)
    refine ⟨633, _, by (first | assumption | (simp only [z_nat, z_lit, ← Int32.ofInt_add, ← Int32.ofInt_sub, ← Int32.ofInt_mul]; exact congrArg Int32.ofInt (by omega)) | (simp only [z_nat, z_lit, ← Int32.ofInt_add, ← Int32.ofInt_sub, ← Int32.ofInt_mul]; done) | exact congrArg Int32.ofInt (by omega) | rfl), by (dsimp only; omega), e33, ?_⟩
    refine z_ne 0 0 (fun z => absurd rfl z) (fun _ => ?_)
    refine k_inMany g' ?_
    rw [eI]
    refine z_ne (inN t m) 0 (fun _ => ?_) (fun z => by omega)
    refine ⟨632, _, by (first | assumption | (simp only [z_nat, z_lit, ← Int32.ofInt_add, ← Int32.ofInt_sub, ← Int32.ofInt_mul]; exact congrArg Int32.ofInt (by omega)) | (simp only [z_nat, z_lit, ← Int32.ofInt_add, ← Int32.ofInt_sub, ← Int32.ofInt_mul]; done) | exact congrArg Int32.ofInt (by omega) | rfl), by (dsimp only; omega), e32, ?_⟩
    refine ⟨630, _, by (first | assumption | (simp only [z_nat, z_lit, ← Int32.ofInt_add, ← Int32.ofInt_sub, ← Int32.ofInt_mul]; exact congrArg Int32.ofInt (by omega)) | (simp only [z_nat, z_lit, ← Int32.ofInt_add, ← Int32.ofInt_sub, ← Int32.ofInt_mul]; done) | exact congrArg Int32.ofInt (by omega) | rfl), by (dsimp only; omega), e30, ?_⟩
    refine z_ne (m 630) (m 630) (fun z => absurd rfl z) (fun _ => ?_)
    refine (hQ M' hf g').mono (fun v M'' h => ?_)
    rw [h.1]
    exact h.2
  · rintro i M' hi ⟨ha, hf, hn⟩ ih
    have g' := g.to (hf.c1 280) hn (bN i)
    have e33 : M'.1 284 633 = Int32.ofInt 0 := by rw [g'.at (by omega), up_n (by omega), h33]
    have e32 : M'.1 284 632 = Int32.ofInt i := by rw [g'.at (by omega), up_s]
    have e30 : M'.1 284 630 = Int32.ofInt (m 630) := by rw [g'.at (by omega), up_n (by omega)]
    have ko := m6 i (by omega)
    have eo : M'.1 284 (624 + i) = nI ((m (624 + i)).toNat) := by
      rw [g'.at (by omega), up_n (by omega), z_nat]
      exact congrArg Int32.ofInt (by omega)
    refine w_at 90 [2] ?_
    refine z_ne 0 0 (fun z => absurd rfl z) (fun _ => ?_)
    refine ⟨633, _, by (first | assumption | (simp only [z_nat, z_lit, ← Int32.ofInt_add, ← Int32.ofInt_sub, ← Int32.ofInt_mul]; exact congrArg Int32.ofInt (by omega)) | (simp only [z_nat, z_lit, ← Int32.ofInt_add, ← Int32.ofInt_sub, ← Int32.ofInt_mul]; done) | exact congrArg Int32.ofInt (by omega) | rfl), by (dsimp only; omega), e33, ?_⟩
    refine z_ne 0 0 (fun z => absurd rfl z) (fun _ => ?_)
    refine k_inMany g' ?_
    rw [eI]
    refine z_ne (inN t m) 0 (fun _ => ?_) (fun z => by omega)
    refine ⟨632, _, by (first | assumption | (simp only [z_nat, z_lit, ← Int32.ofInt_add, ← Int32.ofInt_sub, ← Int32.ofInt_mul]; exact congrArg Int32.ofInt (by omega)) | (simp only [z_nat, z_lit, ← Int32.ofInt_add, ← Int32.ofInt_sub, ← Int32.ofInt_mul]; done) | exact congrArg Int32.ofInt (by omega) | rfl), by (dsimp only; omega), e32, ?_⟩
    refine ⟨630, _, by (first | assumption | (simp only [z_nat, z_lit, ← Int32.ofInt_add, ← Int32.ofInt_sub, ← Int32.ofInt_mul]; exact congrArg Int32.ofInt (by omega)) | (simp only [z_nat, z_lit, ← Int32.ofInt_add, ← Int32.ofInt_sub, ← Int32.ofInt_mul]; done) | exact congrArg Int32.ofInt (by omega) | rfl), by (dsimp only; omega), e30, ?_⟩
    refine z_ne (i : Int) (m 630) (fun _ => ?_) (fun z => by omega)
    refine ⟨632, _, by (first | assumption | (simp only [z_nat, z_lit, ← Int32.ofInt_add, ← Int32.ofInt_sub, ← Int32.ofInt_mul]; exact congrArg Int32.ofInt (by omega)) | (simp only [z_nat, z_lit, ← Int32.ofInt_add, ← Int32.ofInt_sub, ← Int32.ofInt_mul]; done) | exact congrArg Int32.ofInt (by omega) | rfl), by (dsimp only; omega), e32, ?_⟩
    refine ⟨624 + i, _, by (first | assumption | (simp only [z_nat, z_lit, ← Int32.ofInt_add, ← Int32.ofInt_sub, ← Int32.ofInt_mul]; exact congrArg Int32.ofInt (by omega)) | (simp only [z_nat, z_lit, ← Int32.ofInt_add, ← Int32.ofInt_sub, ← Int32.ofInt_mul]; done) | exact congrArg Int32.ofInt (by omega) | rfl), by (dsimp only; omega), eo, ?_⟩
    refine k_isInStill g' ((m (624 + i)).toNat) (by omega) (fun z => ?_) (fun _ => br_t (by decide) ?_)
    · rw [inE_eq (up_n (by omega)), hk i ha (by omega)] at z
      cases z
    · refine ⟨632, _, by (first | assumption | (simp only [z_nat, z_lit, ← Int32.ofInt_add, ← Int32.ofInt_sub, ← Int32.ofInt_mul]; exact congrArg Int32.ofInt (by omega)) | (simp only [z_nat, z_lit, ← Int32.ofInt_add, ← Int32.ofInt_sub, ← Int32.ofInt_mul]; done) | exact congrArg Int32.ofInt (by omega) | rfl), by (dsimp only; omega), e32, ?_⟩
      refine ⟨632, Int32.ofInt ((i + 1 : Nat) : Int), by (first | assumption | (simp only [z_nat, z_lit, ← Int32.ofInt_add, ← Int32.ofInt_sub, ← Int32.ofInt_mul]; exact congrArg Int32.ofInt (by omega)) | (simp only [z_nat, z_lit, ← Int32.ofInt_add, ← Int32.ofInt_sub, ← Int32.ofInt_mul]; done) | exact congrArg Int32.ofInt (by omega) | rfl), by (dsimp only; omega), by (first | assumption | (simp only [z_nat, z_lit, ← Int32.ofInt_add, ← Int32.ofInt_sub, ← Int32.ofInt_mul]; exact congrArg Int32.ofInt (by omega)) | (simp only [z_nat, z_lit, ← Int32.ofInt_add, ← Int32.ofInt_sub, ← Int32.ofInt_mul]; done) | exact congrArg Int32.ofInt (by omega) | rfl), ?_⟩
      refine ih _ ⟨by omega, hf.s1, fun j hj => ?_⟩
      rw [Nat.zero_add]
      by_cases z : j = 632
      · rw [z, q_si_s, up_s]
      · rw [q_si_n z, up_n z, g'.at hj, up_n z]
theorem up_up {m : sN} {k : Nat} {v w : Int} : up (up m k v) k w = up m k w := by
  funext i
  by_cases q : i = k
  · rw [q, up_s, up_s]
  · rw [up_n q, up_n q, up_n q]
theorem firstIn.eq {m m' : sN} {a k : Nat} (h : firstIn m a k) (h6 : m 630 ≤ 6) (hm : ∀ a : Nat, (a : Int) < m 630 → m (624 + a) < 6) (e : ∀ i, i < 631 → m' i = m i) : firstIn m' a k := by
  obtain ⟨h1, h2, h3, h4⟩ := h
  have eo : ∀ i : Nat, (i : Int) < m 630 → inE m' ((m' (624 + i)).toNat) = inE m ((m (624 + i)).toNat) := fun i hi => by
    have := hm i hi
    have eq : (m' (624 + i)).toNat = (m (624 + i)).toNat := by show (m' (624 + i)).toNat = (m (624 + i)).toNat; rw [e _ (by omega)]
    rw [eq]
    exact inE_eq (e _ (by omega))
  refine ⟨h1, by rw [e _ (by omega)]; exact h2, by rw [eo k h2]; exact h3, fun i hi hk => ?_⟩
  rw [eo i (by omega)]
  exact h4 i hi hk
set_option maxRecDepth 100000 in
set_option maxHeartbeats 4000000 in
theorem k_goesOn {n' : sN} (g : g_R M t n) (h : b_W t n) (hg : isGo t n n') (hQ : ∀ M', q_fs lG fD M M' → g_R M' t n' → Q none M') : q_C q_mt (L, xs, q_shp) E nX12_goesOn (d + 11) 0 0 [.ref 271] M Q := by
  have h6 := g.e6
  have h7 := g.r6
  have hJ := isGo.J h g.b2 h6 h7 g.j11 hg
  have iB : inN t n ≤ 6 := Nat.le_trans (fb_ct_le _ _) h6
  obtain ⟨h1, ⟨h0, h33⟩, ⟨m1, m2⟩, ⟨m3, m4⟩, m5, m6, m7, m8⟩ := h
  have e33 : M.1 284 633 = Int32.ofInt 0 := by rw [g.at (by omega), h33]
  rcases hg with ⟨q, rfl⟩ | ⟨q, k, hk, rfl⟩ | ⟨q, q1, hcd⟩
  · refine w_in 90 [2] ?_
    refine w_at 90 [2] ?_
    refine z_ne 0 0 (fun z => absurd rfl z) (fun _ => ?_)
    refine ⟨633, _, by (first | assumption | (simp only [z_nat, z_lit, ← Int32.ofInt_add, ← Int32.ofInt_sub, ← Int32.ofInt_mul]; exact congrArg Int32.ofInt (by omega)) | (simp only [z_nat, z_lit, ← Int32.ofInt_add, ← Int32.ofInt_sub, ← Int32.ofInt_mul]; done) | exact congrArg Int32.ofInt (by omega) | rfl), by (dsimp only; omega), e33, ?_⟩
    refine z_ne 0 0 (fun z => absurd rfl z) (fun _ => ?_)
    refine k_inMany g ?_
    refine z_ne (inN t n) 0 (fun z => by omega) (fun _ => ?_)
    refine ⟨633, _, by (first | assumption | (simp only [z_nat, z_lit, ← Int32.ofInt_add, ← Int32.ofInt_sub, ← Int32.ofInt_mul]; exact congrArg Int32.ofInt (by omega)) | (simp only [z_nat, z_lit, ← Int32.ofInt_add, ← Int32.ofInt_sub, ← Int32.ofInt_mul]; done) | exact congrArg Int32.ofInt (by omega) | rfl), by (dsimp only; omega), rfl, ?_⟩
    refine w_at 90 [2] ?_
    refine z_ne 0 0 (fun z => absurd rfl z) (fun _ => ?_)
    refine ⟨633, _, by (first | assumption | (simp only [z_nat, z_lit, ← Int32.ofInt_add, ← Int32.ofInt_sub, ← Int32.ofInt_mul]; exact congrArg Int32.ofInt (by omega)) | (simp only [z_nat, z_lit, ← Int32.ofInt_add, ← Int32.ofInt_sub, ← Int32.ofInt_mul]; done) | exact congrArg Int32.ofInt (by omega) | rfl), by (dsimp only; omega), q_si_s, ?_⟩
    exact z_ne 1 0 (fun _ => hQ _ q_fs.rf.s1 (g.up hJ.1.1 rfl)) (fun z => by omega)
  · refine w_in 90 [2] ?_
    exact k_scan g h33 q m6 m4 hk (by omega) (fun M' hf g' => hQ M' hf.mono g')
  · refine w_in 90 [2] ?_
    refine k_scanNo g h33 q m6 m4 q1 m5 (fun M1 hf1 g1 => ?_)
    rcases hcd with ⟨q2, rfl⟩ | ⟨q2, n2, hn, k, hk, rfl⟩
    · refine k_endsRound g1 (by rw [up_n (by omega)]; exact ⟨m1, m2⟩) (fun _ M2 hf2 g2 => ⟨rfl, ?_⟩) n (fun z => absurd q2 (by rw [up_n (by omega)] at z; exact z))
      have e2 : M2.1 284 633 = Int32.ofInt 1 := by rw [g2.at (by omega), up_s]
      refine w_at 90 [2] ?_
      refine z_ne 0 0 (fun z => absurd rfl z) (fun _ => ?_)
      refine ⟨633, _, by (first | assumption | (simp only [z_nat, z_lit, ← Int32.ofInt_add, ← Int32.ofInt_sub, ← Int32.ofInt_mul]; exact congrArg Int32.ofInt (by omega)) | (simp only [z_nat, z_lit, ← Int32.ofInt_add, ← Int32.ofInt_sub, ← Int32.ofInt_mul]; done) | exact congrArg Int32.ofInt (by omega) | rfl), by (dsimp only; omega), e2, ?_⟩
      exact z_ne 1 0 (fun _ => hQ M2 (hf1.mono.tr hf2) g2) (fun z => by omega)
    · have bN2 : b_N t n2 := hJ.1.1.of h6 h7 g.j11 (fun i hi => ((up_n (by omega)).trans (up_n (by omega))).symm) (fun e he => by
        have := hJ.1.1.2.1 e he
        rw [up_n (by omega), up_n (by omega), up_n (by omega), up_n (by omega)] at this
        exact this)
      have hM := hJ.2.2 (by
        refine ⟨h0, fun z => ?_⟩
        have := hJ.2.1.1
        rcases this with y | y
        · omega
        · -- over is not set by a round's begin
          have : up (up n2 631 (n 631 + 1)) 632 (k : Int) 633 = n2 633 := (up_n (by omega)).trans (up_n (by omega))
          rw [this] at y
          rcases hn with ⟨c, R, -, -, -, rfl⟩ | ⟨-, rfl⟩
          · rw [cut_hi (by omega) h6, up_n (by omega)] at y
            omega
          · rw [up_n (by omega)] at y
            omega)
      have e33' : n2 633 = 0 := by
        rcases hn with ⟨c, R, -, -, -, rfl⟩ | ⟨-, rfl⟩
        · rw [cut_hi (by omega) h6, up_n (by omega)]
          exact h33
        · rw [up_n (by omega)]
          exact h33
      have eo : ∀ i, i < 631 → up (up n2 631 (n 631 + 1)) 632 (k : Int) i = n2 i := fun i hi => (up_n (by omega)).trans (up_n (by omega))
      obtain ⟨⟨b1, b2, b3, b4, b5, b6⟩, b7, b8⟩ := hM
      rw [eo 630 (by omega)] at b2
      have b4' : ∀ a : Nat, (a : Int) < n2 630 → 0 ≤ n2 (624 + a) ∧ n2 (624 + a) < t 8 0 := fun a ha => by
        have := b4 a (by rw [eo 630 (by omega)]; exact ha)
        rw [eo _ (by omega)] at this
        exact this
      have e31 : up n 632 (n 630) 631 = n 631 := up_n (by omega)
      refine k_endsRound g1 (by rw [e31]; exact ⟨m1, m2⟩) (fun z => absurd (e31.symm.trans z) q2) n2 (fun _ => ⟨hn, bN2, fun M2 hf2 g2 => ⟨rfl, ?_⟩⟩)
      rw [e31] at g2
      have em : ∀ i, i < 631 → up (up n2 631 (n 631 + 1)) 632 0 i = n2 i := fun i hi => (up_n (by omega)).trans (up_n (by omega))
      have qI : ¬ inN t (up (up n2 631 (n 631 + 1)) 632 0) = 0 := fun z => by
        have := inN_no z ((n2 (624 + k)).toNat) (by have := b4' k hk.2.1; omega)
        rw [inE_eq (em _ (by have := b4' k hk.2.1; omega)), hk.2.2.1] at this
        cases this
      refine k_scan g2 (by rw [up_n (by omega), up_n (by omega)]; exact e33') qI (fun a ha => ?_) (by rw [em _ (by omega)]; exact b2.2) (a := 0) (k := k) (hk.eq (by omega) (fun a ha => by have := b4' a ha; omega) em) up_s (fun M3 hf3 g3 => ?_)
      · rw [em 630 (by omega)] at ha
        rw [em _ (by omega)]
        exact b4' a ha
      · rw [up_up] at g3
        exact hQ M3 ((hf1.mono.tr hf2).tr hf3.mono) g3
end GF
