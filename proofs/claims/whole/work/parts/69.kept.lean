/-! the calls kept, alike, dropped -/
section KE
variable {L : Nat} {xs : Nat → Int32} {E : q_E} {d : Nat} {M : q_M} {t : q_T} {n : sN} {Q : Option Value → q_M → Prop} {P : q_M → Prop}
set_option maxRecDepth 100000 in
set_option maxHeartbeats 4000000 in
theorem o_kept {a b : Int32} (g : g_A 43 M t n) (hP : ∀ M', q_fs lA fA M M' → P M') : zOp L xs E nX11_kept nX12_kept (d + 8) [.int a, .int b] M P := by
  have h11 := g.R.j11
  by_cases q : ∃ e r, e < t 8 0 ∧ r < t 0 0 ∧ a = nI e ∧ b = nI (r + 1) ∧ n (576 + (6 * e + r)) = 1
  · obtain ⟨e, r, he, hr, rfl, rfl, hg⟩ := q
    have hs := g.R.bs he hr
    have r0 : ∀ M2, g_R M2 t n → ∀ Q', (∀ M3 x, q_fs [293] fD M2 M3 → isMk x (fun j => j < t 2 0 ∧ kpt t (prt (fun j => mk n e r j) (-1)) (cvE t n e r) (t 1 0) j = true) → Q' (some (.int x)) M3) → q_C q_mt (L, xs, q_shp) E nX12_kept (d + 8) 0 0 (.ref 271 :: [.int (nI e), .int (nI (r + 1))]) M2 Q' := by
      intro M2 g2 Q' y
      refine w_in 90 [22] ?_
      refine k_isGivenDive g2 (fun _ _ _ _ _ _ _ => bn_t (by decide) ?_) (fun z => absurd ⟨e, r, he, hr, rfl, rfl, hg⟩ z)
      refine k_laysDive g2 e r he hr (fun M3 hf3 l3 => ?_)
      have g3 := g2.fs hf3
      have W := lp_up (W := fun i => ∀ u v, isMk u (fun j => j < i ∧ kpt t (prt (fun j => mk n e r j) (-1)) (cvE t n e r) (t 1 0) j = true) → v = nI i → q_G q_mt (L, xs, q_shp) E nX12_kept (d + 8) 0 0 (q_Q (L, xs, q_shp) E Q') 22 [some (.ref 271), some (.int (nI e)), some (.int (nI (r + 1))), some (.int u), some (.int v)] [] M3) (t 2 0) ?_ ?_ 0 (Nat.zero_le _)
      · exact W _ _ (fun j hj => ⟨fun z => absurd ((b_0 j).symm.trans z) (by decide), fun z => absurd z.1 (Nat.not_lt_zero _)⟩) rfl
      · rintro u v hu rfl
        refine w_at 90 [22] ?_
        refine ⟨2, _, by (first | assumption | (simp only [z_nat, z_lit, ← Int32.ofInt_add, ← Int32.ofInt_sub, ← Int32.ofInt_mul]; exact congrArg Int32.ofInt (by omega)) | (simp only [z_nat, z_lit, ← Int32.ofInt_add, ← Int32.ofInt_sub, ← Int32.ofInt_mul]; done) | exact congrArg Int32.ofInt (by omega) | rfl), by (dsimp only; omega), g3.R2, ?_⟩
        exact z_le (t 2 0) (t 2 0) (fun h => ⟨_, rfl, y M3 u hf3 hu⟩) (fun h => by omega)
      · rintro i hi ih u v hu rfl
        have hm := l3.1 i (by omega)
        have hmk : -1 ≤ mk n e r i ∧ mk n e r i ≤ 20 := hm.2
        have hfb : fat t (prt (fun j => mk n e r j) (-1)) (cvE t n e r) (t 1 0) i ≤ 2 := by unfold fat; split; omega; split <;> omega
        have no : kpt t (prt (fun j => mk n e r j) (-1)) (cvE t n e r) (t 1 0) i = false → isMk (u ||| Int32.ofInt 0) (fun j => j < i + 1 ∧ kpt t (prt (fun j => mk n e r j) (-1)) (cvE t n e r) (t 1 0) j = true) := by
          intro hk j hj
          rw [b_or, show bt (Int32.ofInt 0) j = false from b_0 j, Bool.or_false, hu j hj]
          constructor
          · rintro ⟨z1, z2⟩
            exact ⟨by omega, z2⟩
          · rintro ⟨z1, z2⟩
            by_cases qi : j = i
            · rw [qi, hk] at z2
              exact absurd z2 (by decide)
            · exact ⟨by omega, z2⟩
        refine w_at 90 [22] ?_
        refine ⟨2, _, by (first | assumption | (simp only [z_nat, z_lit, ← Int32.ofInt_add, ← Int32.ofInt_sub, ← Int32.ofInt_mul]; exact congrArg Int32.ofInt (by omega)) | (simp only [z_nat, z_lit, ← Int32.ofInt_add, ← Int32.ofInt_sub, ← Int32.ofInt_mul]; done) | exact congrArg Int32.ofInt (by omega) | rfl), by (dsimp only; omega), g3.R2, ?_⟩
        refine z_le (t 2 0) i (fun h => by omega) (fun h => ?_)
        refine ⟨i, _, by (first | assumption | (simp only [z_nat, z_lit, ← Int32.ofInt_add, ← Int32.ofInt_sub, ← Int32.ofInt_mul]; exact congrArg Int32.ofInt (by omega)) | (simp only [z_nat, z_lit, ← Int32.ofInt_add, ← Int32.ofInt_sub, ← Int32.ofInt_mul]; done) | exact congrArg Int32.ofInt (by omega) | rfl), by (dsimp only; omega), hm.1, ?_⟩
        refine z_eq (mk n e r i) (-1) (fun h1 => ?_) (fun h1 => ?_)
        · refine ih _ _ (no ?_) (by (first | assumption | (simp only [z_nat, z_lit, ← Int32.ofInt_add, ← Int32.ofInt_sub, ← Int32.ofInt_mul]; exact congrArg Int32.ofInt (by omega)) | (simp only [z_nat, z_lit, ← Int32.ofInt_add, ← Int32.ofInt_sub, ← Int32.ofInt_mul]; done) | exact congrArg Int32.ofInt (by omega) | rfl))
          unfold kpt prt
          rw [decide_eq_true h1]
          rfl
        · have hpr : prt (fun j => mk n e r j) (-1) i = true := by
            unfold prt
            rw [decide_eq_false h1, decide_eq_false (by omega)]
            rfl
          refine ⟨1, _, by (first | assumption | (simp only [z_nat, z_lit, ← Int32.ofInt_add, ← Int32.ofInt_sub, ← Int32.ofInt_mul]; exact congrArg Int32.ofInt (by omega)) | (simp only [z_nat, z_lit, ← Int32.ofInt_add, ← Int32.ofInt_sub, ← Int32.ofInt_mul]; done) | exact congrArg Int32.ofInt (by omega) | rfl), by (dsimp only; omega), g3.R1, ?_⟩
          refine k_fateOf g3 l3 i (t 1 0) (-1) hi g.R.p3 (by omega) ?_
          refine z_ne (fat t (prt (fun j => mk n e r j) (-1)) (cvE t n e r) (t 1 0) i) 2 (fun h2 => ?_) (fun h2 => ?_)
          · refine ih _ _ (no ?_) (by (first | assumption | (simp only [z_nat, z_lit, ← Int32.ofInt_add, ← Int32.ofInt_sub, ← Int32.ofInt_mul]; exact congrArg Int32.ofInt (by omega)) | (simp only [z_nat, z_lit, ← Int32.ofInt_add, ← Int32.ofInt_sub, ← Int32.ofInt_mul]; done) | exact congrArg Int32.ofInt (by omega) | rfl))
            unfold kpt
            rw [decide_eq_false (by omega), Bool.and_false]
          · refine ih _ _ ?_ (by (first | assumption | (simp only [z_nat, z_lit, ← Int32.ofInt_add, ← Int32.ofInt_sub, ← Int32.ofInt_mul]; exact congrArg Int32.ofInt (by omega)) | (simp only [z_nat, z_lit, ← Int32.ofInt_add, ← Int32.ofInt_sub, ← Int32.ofInt_mul]; done) | exact congrArg Int32.ofInt (by omega) | rfl))
            refine hu.or (by omega) (fun j => ?_)
            constructor
            · rintro ⟨z1, z2⟩
              by_cases qi : j = i
              · exact Or.inr qi
              · exact Or.inl ⟨by omega, z2⟩
            · rintro (⟨z1, z2⟩ | z)
              · exact ⟨by omega, z2⟩
              · subst z
                refine ⟨by omega, ?_⟩
                unfold kpt
                rw [hpr, decide_eq_true (by omega)]
                rfl
    refine w_in 90 [] ?_
    refine k2_isGiven g (fun _ _ _ _ _ _ _ => bn_t (by decide) ?_) (fun z => absurd ⟨e, r, he, hr, rfl, rfl, hg⟩ z)
    refine k2_isFailed_43 g.Z e r he hr (fun hf => br_f (by decide) ⟨_, rfl, _, rfl, ?_⟩) (fun hf => br_t (by decide) ?_)
    · refine r0 M g.R _ (fun M3 x hf3 hx => ⟨?_, hP M3 hf3.mono⟩)
      refine congrArg (fun z => some (Value.int z)) (hx.un (fun j hj => ?_))
      refine ⟨fun z => absurd ((b_0 j).symm.trans z) (by decide), fun z => ?_⟩
      have hk := z.2
      have h1 := z.1
      have hp0 : prt (fun j => mk n e r j) (-1) j = false := by
        unfold prt
        rw [decide_eq_true (hs.2.2.2.2.2.2.2.1 hf j (by omega))]
        rfl
      unfold kpt at hk
      rw [hp0, Bool.false_and] at hk
      exact absurd hk (by decide)
    · have hpr := prt_on g.R he hr hg hf
      refine k2_seat_43 g.Z e r he hr (fun M1 hf1 p1 => ?_)
      refine p_score (g.seat_43 hf1).K p1 (mk_0 g.R he hr hg hf) (fun M2 hf2 p2 => ?_)
      have hf3 : q_fs lA fA M M2 := hf1.mono.tr hf2.mono
      refine ⟨_, rfl, ?_⟩
      refine ⟨_, rfl, _, rfl, ?_⟩
      refine r0 M2 (g.R.fs hf3) _ (fun M3 x hf4 hx => ⟨?_, hP M3 (hf3.tr hf4.mono)⟩)
      refine congrArg (fun z => some (Value.int z)) (hx.un (p2.2.1.co (fun j => ?_)))
      constructor
      · rintro ⟨z1, z2⟩
        rw [kpt_cong hpr z1] at z2
        unfold kpt at z2
        rw [Bool.and_eq_true, decide_eq_true_eq] at z2
        have := (g.R.bj z1).2
        exact ⟨z1, z2.1, by omega, z2.2⟩
      · rintro ⟨z1, z2, -, z3⟩
        refine ⟨z1, ?_⟩
        rw [kpt_cong hpr z1]
        unfold kpt
        rw [z2, decide_eq_true z3]
        rfl
  · refine w_in 90 [] ?_
    refine k2_isGiven g (fun e r he hr e1 e2 h => absurd ⟨e, r, he, hr, e1, e2, h⟩ q) (fun _ => bn_f (by decide) ⟨_, rfl, _, rfl, ?_⟩)
    refine w_in 90 [] ?_
    exact k_isGivenDive g.R (fun e r he hr e1 e2 h => absurd ⟨e, r, he, hr, e1, e2, h⟩ q) (fun _ => bn_f (by decide) ⟨_, rfl, rfl, hP M q_fs.rf⟩)
/-- a count over all dives -/
def dvN (t : q_T) (p : Nat → Nat → Bool) (k : Nat) : Nat := fb_sm (fun e => fb_ct (p e) (t 0 0)) k
theorem dvN_b (g : g_R M t n) {p : Nat → Nat → Bool} {k : Nat} (hk : k ≤ t 8 0) : dvN t p k ≤ 36 := by
  have h6 := g.e6
  have h7 := g.r6
  have h := fb_sm_bound (f := fun e => fb_ct (p e) (t 0 0)) (c := 6) (n := k) (fun e _ => Nat.le_trans (fb_ct_le _ _) h7)
  unfold dvN
  omega
/-- two judges' marks of one dive are alike -/
def alk (t : q_T) (n : sN) (i j e r : Nat) : Bool := jdd t n e r i && (jdd t n e r j && decide (mk n e r i = mk n e r j))
set_option maxRecDepth 100000 in
set_option maxHeartbeats 4000000 in
theorem k2_countAlike (g : g_A 43 M t n) {a b : Int32} (i j : Nat) (hi : i < t 2 0) (hj : j < t 2 0) (hQ : Q (some (.int (nI (dvN t (alk t n i j) (t 8 0))))) M) (ha : a = nI i := by (first | assumption | (simp only [z_nat, z_lit, ← Int32.ofInt_add, ← Int32.ofInt_sub, ← Int32.ofInt_mul]; exact congrArg Int32.ofInt (by omega)) | (simp only [z_nat, z_lit, ← Int32.ofInt_add, ← Int32.ofInt_sub, ← Int32.ofInt_mul]; done) | exact congrArg Int32.ofInt (by omega) | rfl)) (hb : b = nI j := by (first | assumption | (simp only [z_nat, z_lit, ← Int32.ofInt_add, ← Int32.ofInt_sub, ← Int32.ofInt_mul]; exact congrArg Int32.ofInt (by omega)) | (simp only [z_nat, z_lit, ← Int32.ofInt_add, ← Int32.ofInt_sub, ← Int32.ofInt_mul]; done) | exact congrArg Int32.ofInt (by omega) | rfl)) : q_C q_mt (L, xs, q_shp) E nX4_countAlike (d + 3) 0 0 [.ref 256, .int (a), .int (b)] M Q := by
  subst ha hb
  have h6 := g.R.e6
  have h7 := g.R.r6
  have h11 := g.R.j11
  have W := lp_up (W := fun e => ∀ u v w x, u = nI (dvN t (alk t n i j) e) → v = nI e → q_G q_mt (L, xs, q_shp) E nX4_countAlike (d + 3) 0 0 (q_Q (L, xs, q_shp) E Q) 5 [some (.ref 256), some (.int (nI i)), some (.int (nI j)), some (.int (u)), some (.int (v)), w, x] [] M) (t 8 0) ?_ ?_ 0 (Nat.zero_le _)
  · refine w_in 90 [5, 20] ?_
    exact W _ _ _ _ rfl rfl
  · rintro u v w x rfl rfl
    refine w_at 90 [5, 20] ?_
    refine ⟨_, g.eN, ?_⟩
    exact z_le (t 8 0) (t 8 0) (fun h => ⟨_, rfl, hQ⟩) (fun h => by omega)
  · rintro e he ih u v w x rfl rfl
    have hb := dvN_b g.R (p := alk t n i j) (show e ≤ t 8 0 by omega)
    have W2 := lp_up (W := fun r => ∀ u v x, u = nI (dvN t (alk t n i j) e + fb_ct (alk t n i j e) r) → v = nI (r + 1) → q_G q_mt (L, xs, q_shp) E nX4_countAlike (d + 3) 0 0 (q_Q (L, xs, q_shp) E Q) 20 [some (.ref 256), some (.int (nI i)), some (.int (nI j)), some (.int (u)), some (.int (nI e)), some (.int (v)), x] [] M) (t 0 0) ?_ ?_ 0 (Nat.zero_le _)
    · refine w_at 90 [5, 20] ?_
      refine ⟨_, g.eN, ?_⟩
      refine z_le (t 8 0) e (fun h => by omega) (fun h => ?_)
      exact W2 _ _ _ rfl rfl
    · rintro u v x rfl rfl
      refine w_at 90 [5, 20] ?_
      refine ⟨_, g.ro, ?_⟩
      refine z_lt (t 0 0) ((t 0 0 + 1 : Nat) : Int) (fun h => ?_) (fun h => by omega)
      exact ih _ _ _ _ rfl (by (first | assumption | (simp only [z_nat, z_lit, ← Int32.ofInt_add, ← Int32.ofInt_sub, ← Int32.ofInt_mul]; exact congrArg Int32.ofInt (by omega)) | (simp only [z_nat, z_lit, ← Int32.ofInt_add, ← Int32.ofInt_sub, ← Int32.ofInt_mul]; done) | exact congrArg Int32.ofInt (by omega) | rfl))
    · rintro r hr ih2 u v x rfl rfl
      have hc := fb_ct_le (alk t n i j e) r
      have hs := g.R.bs he hr
      have hmi := hs.2.1 i (by omega)
      have hmj := hs.2.1 j (by omega)
      refine w_at 90 [5, 20] ?_
      refine ⟨_, g.ro, ?_⟩
      refine z_lt (t 0 0) ((r + 1 : Nat) : Int) (fun h => by omega) (fun h => ?_)
      refine k2_isJudged4 g e r i he hr hi (fun h1 => br_f (by decide) ?_) (fun h1 => br_t (by decide) ?_)
      · refine k2_isJudged4 g e r j he hr hj (fun h2 => br_f (by decide) ?_) (fun h2 => br_t (by decide) ?_)
        · refine k2_slotOf e r ?_
          refine ⟨16 * (6 * e + r) + 5 + i, _, by (first | assumption | (simp only [z_nat, z_lit, ← Int32.ofInt_add, ← Int32.ofInt_sub, ← Int32.ofInt_mul]; exact congrArg Int32.ofInt (by omega)) | (simp only [z_nat, z_lit, ← Int32.ofInt_add, ← Int32.ofInt_sub, ← Int32.ofInt_mul]; done) | exact congrArg Int32.ofInt (by omega) | rfl), by (dsimp only; omega), g.mk (show 6 * e + r < 36 by omega) (show i < 11 by omega), ?_⟩
          refine ⟨16 * (6 * e + r) + 5 + j, _, by (first | assumption | (simp only [z_nat, z_lit, ← Int32.ofInt_add, ← Int32.ofInt_sub, ← Int32.ofInt_mul]; exact congrArg Int32.ofInt (by omega)) | (simp only [z_nat, z_lit, ← Int32.ofInt_add, ← Int32.ofInt_sub, ← Int32.ofInt_mul]; done) | exact congrArg Int32.ofInt (by omega) | rfl), by (dsimp only; omega), g.mk (show 6 * e + r < 36 by omega) (show j < 11 by omega), ?_⟩
          refine z_ne (mk n e r i) (mk n e r j) (fun h3 => ?_) (fun h3 => ?_)
          · exact ih2 _ _ _ (by rw [ct_f (p := alk t n i j e) (by unfold alk; rw [h1, h2, decide_eq_false h3]; rfl)]; (first | assumption | (simp only [z_nat, z_lit, ← Int32.ofInt_add, ← Int32.ofInt_sub, ← Int32.ofInt_mul]; exact congrArg Int32.ofInt (by omega)) | (simp only [z_nat, z_lit, ← Int32.ofInt_add, ← Int32.ofInt_sub, ← Int32.ofInt_mul]; done) | exact congrArg Int32.ofInt (by omega) | rfl)) (by (first | assumption | (simp only [z_nat, z_lit, ← Int32.ofInt_add, ← Int32.ofInt_sub, ← Int32.ofInt_mul]; exact congrArg Int32.ofInt (by omega)) | (simp only [z_nat, z_lit, ← Int32.ofInt_add, ← Int32.ofInt_sub, ← Int32.ofInt_mul]; done) | exact congrArg Int32.ofInt (by omega) | rfl))
          · exact ih2 _ _ _ (by rw [ct_t (p := alk t n i j e) (by unfold alk; rw [h1, h2, decide_eq_true h3]; rfl)]; (first | assumption | (simp only [z_nat, z_lit, ← Int32.ofInt_add, ← Int32.ofInt_sub, ← Int32.ofInt_mul]; exact congrArg Int32.ofInt (by omega)) | (simp only [z_nat, z_lit, ← Int32.ofInt_add, ← Int32.ofInt_sub, ← Int32.ofInt_mul]; done) | exact congrArg Int32.ofInt (by omega) | rfl)) (by (first | assumption | (simp only [z_nat, z_lit, ← Int32.ofInt_add, ← Int32.ofInt_sub, ← Int32.ofInt_mul]; exact congrArg Int32.ofInt (by omega)) | (simp only [z_nat, z_lit, ← Int32.ofInt_add, ← Int32.ofInt_sub, ← Int32.ofInt_mul]; done) | exact congrArg Int32.ofInt (by omega) | rfl))
        · exact ih2 _ _ _ (by rw [ct_f (p := alk t n i j e) (by unfold alk; rw [h1, h2]; rfl)]) (by (first | assumption | (simp only [z_nat, z_lit, ← Int32.ofInt_add, ← Int32.ofInt_sub, ← Int32.ofInt_mul]; exact congrArg Int32.ofInt (by omega)) | (simp only [z_nat, z_lit, ← Int32.ofInt_add, ← Int32.ofInt_sub, ← Int32.ofInt_mul]; done) | exact congrArg Int32.ofInt (by omega) | rfl))
      · exact ih2 _ _ _ (by rw [ct_f (p := alk t n i j e) (by unfold alk; rw [h1]; rfl)]) (by (first | assumption | (simp only [z_nat, z_lit, ← Int32.ofInt_add, ← Int32.ofInt_sub, ← Int32.ofInt_mul]; exact congrArg Int32.ofInt (by omega)) | (simp only [z_nat, z_lit, ← Int32.ofInt_add, ← Int32.ofInt_sub, ← Int32.ofInt_mul]; done) | exact congrArg Int32.ofInt (by omega) | rfl))
/-- two judges that differ -/
def aJJ (t : q_T) (a b : Int32) : Prop := ∃ i j, i < t 2 0 ∧ j < t 2 0 ∧ ¬ i = j ∧ a = nI i ∧ b = nI j
set_option maxRecDepth 100000 in
set_option maxHeartbeats 4000000 in
theorem o_alike {a b : Int32} (g : g_A 43 M t n) (hP : ∀ M', q_fs [293] fD M M' → P M') : zOp L xs E nX11_alike nX12_alike (d + 8) [.int a, .int b] M P := by
  have h6 := g.R.e6
  have h7 := g.R.r6
  have h11 := g.R.j11
  by_cases q : aJJ t a b
  · obtain ⟨i, j, hi, hj, hd, rfl, rfl⟩ := q
    refine w_in 90 [] ?_
    refine d_hasJudge g.C g.R.b (fun _ _ _ => br_f (by decide) ?_) (fun z => absurd ⟨i, hi, rfl⟩ z)
    refine d_hasJudge g.C g.R.b (fun _ _ _ => br_f (by decide) ?_) (fun z => absurd ⟨j, hj, rfl⟩ z)
    refine z_ne (i : Int) (j : Int) (fun _ => ?_) (fun z => by omega)
    refine k2_countAlike g i j hi hj ⟨_, rfl, _, rfl, ?_⟩
    have W := lp_m (W := fun e M' => ∀ u v w, u = nI (dvN t (alk t n i j) e) → v = nI e → q_G q_mt (L, xs, q_shp) E nX12_alike (d + 8) 0 0 (q_Q (L, xs, q_shp) E (fun v' M'' => v' = some (.int (nI (dvN t (alk t n i j) (t 8 0)))) ∧ P M'')) 28 [some (.ref 271), some (.int (nI i)), some (.int (nI j)), some (.int u), some (.int v), w] [] M') (J := fun e M' => q_fs [293] fD M M') (t 8 0) ?_ ?_ 0 M (Nat.zero_le _) q_fs.rf
    · refine w_in 90 [28, 42] ?_
      refine c_X12_isJudge g.R.1 g.R.b (fun _ _ _ => br_f (by decide) ?_) (fun z => absurd ⟨i, hi, rfl⟩ z)
      refine c_X12_isJudge g.R.1 g.R.b (fun _ _ _ => br_f (by decide) ?_) (fun z => absurd ⟨j, hj, rfl⟩ z)
      refine z_ne (i : Int) (j : Int) (fun _ => ?_) (fun z => by omega)
      exact W _ _ _ rfl rfl
    · rintro M' hf u v w rfl rfl
      have g' := g.R.fs hf
      refine w_at 90 [28, 42] ?_
      refine ⟨4, _, by (first | assumption | (simp only [z_nat, z_lit, ← Int32.ofInt_add, ← Int32.ofInt_sub, ← Int32.ofInt_mul]; exact congrArg Int32.ofInt (by omega)) | (simp only [z_nat, z_lit, ← Int32.ofInt_add, ← Int32.ofInt_sub, ← Int32.ofInt_mul]; done) | exact congrArg Int32.ofInt (by omega) | rfl), by (dsimp only; omega), g'.R4, ?_⟩
      exact z_le (t 8 0) (t 8 0) (fun h => ⟨_, rfl, rfl, hP M' hf⟩) (fun h => by omega)
    · rintro e M' he hf ih u v w rfl rfl
      have g' := g.R.fs hf
      have hb := dvN_b g.R (p := alk t n i j) (show e ≤ t 8 0 by omega)
      have W2 := lp_m (W := fun r M2 => ∀ u v, u = nI (dvN t (alk t n i j) e + fb_ct (alk t n i j e) r) → v = nI (r + 1) → q_G q_mt (L, xs, q_shp) E nX12_alike (d + 8) 0 0 (q_Q (L, xs, q_shp) E (fun v' M'' => v' = some (.int (nI (dvN t (alk t n i j) (t 8 0)))) ∧ P M'')) 42 [some (.ref 271), some (.int (nI i)), some (.int (nI j)), some (.int u), some (.int (nI e)), some (.int v)] [] M2) (J := fun r M2 => q_fs [293] fD M M2) (t 0 0) ?_ ?_ 0 M' (Nat.zero_le _) hf
      · refine w_at 90 [28, 42] ?_
        refine ⟨4, _, by (first | assumption | (simp only [z_nat, z_lit, ← Int32.ofInt_add, ← Int32.ofInt_sub, ← Int32.ofInt_mul]; exact congrArg Int32.ofInt (by omega)) | (simp only [z_nat, z_lit, ← Int32.ofInt_add, ← Int32.ofInt_sub, ← Int32.ofInt_mul]; done) | exact congrArg Int32.ofInt (by omega) | rfl), by (dsimp only; omega), g'.R4, ?_⟩
        refine z_le (t 8 0) e (fun h => by omega) (fun h => ?_)
        exact W2 _ _ rfl rfl
      · rintro M2 hf2 u v rfl rfl
        have g2 := g.R.fs hf2
        refine w_at 90 [28, 42] ?_
        refine ⟨0, _, by (first | assumption | (simp only [z_nat, z_lit, ← Int32.ofInt_add, ← Int32.ofInt_sub, ← Int32.ofInt_mul]; exact congrArg Int32.ofInt (by omega)) | (simp only [z_nat, z_lit, ← Int32.ofInt_add, ← Int32.ofInt_sub, ← Int32.ofInt_mul]; done) | exact congrArg Int32.ofInt (by omega) | rfl), by (dsimp only; omega), g2.R0, ?_⟩
        refine z_lt (t 0 0) ((t 0 0 + 1 : Nat) : Int) (fun h => ?_) (fun h => by omega)
        exact ih M2 hf2 _ _ _ rfl (by (first | assumption | (simp only [z_nat, z_lit, ← Int32.ofInt_add, ← Int32.ofInt_sub, ← Int32.ofInt_mul]; exact congrArg Int32.ofInt (by omega)) | (simp only [z_nat, z_lit, ← Int32.ofInt_add, ← Int32.ofInt_sub, ← Int32.ofInt_mul]; done) | exact congrArg Int32.ofInt (by omega) | rfl))
      · rintro r M2 hr hf2 ih2 u v rfl rfl
        have g2 := g.R.fs hf2
        have hc := fb_ct_le (alk t n i j e) r
        have hs := g.R.bs he hr
        have hmi := hs.2.1 i (by omega)
        have hmj := hs.2.1 j (by omega)
        refine w_at 90 [28, 42] ?_
        refine ⟨0, _, by (first | assumption | (simp only [z_nat, z_lit, ← Int32.ofInt_add, ← Int32.ofInt_sub, ← Int32.ofInt_mul]; exact congrArg Int32.ofInt (by omega)) | (simp only [z_nat, z_lit, ← Int32.ofInt_add, ← Int32.ofInt_sub, ← Int32.ofInt_mul]; done) | exact congrArg Int32.ofInt (by omega) | rfl), by (dsimp only; omega), g2.R0, ?_⟩
        refine z_lt (t 0 0) ((r + 1 : Nat) : Int) (fun h => by omega) (fun h => ?_)
        refine k_isJudged4 g2 e r i he hr hi (fun h1 => br_f (by decide) ?_) (fun h1 => br_t (by decide) ?_)
        · refine k_isJudged4 g2 e r j he hr hj (fun h2 => bn_t (by decide) ?_) (fun h2 => bn_f (by decide) ?_)
          · refine k_laysDive g2 e r he hr (fun M3 hf3 l3 => ?_)
            have hf4 := hf2.tr hf3
            refine ⟨i, _, by (first | assumption | (simp only [z_nat, z_lit, ← Int32.ofInt_add, ← Int32.ofInt_sub, ← Int32.ofInt_mul]; exact congrArg Int32.ofInt (by omega)) | (simp only [z_nat, z_lit, ← Int32.ofInt_add, ← Int32.ofInt_sub, ← Int32.ofInt_mul]; done) | exact congrArg Int32.ofInt (by omega) | rfl), by (dsimp only; omega), (l3.1 i (by omega)).1, ?_⟩
            refine ⟨j, _, by (first | assumption | (simp only [z_nat, z_lit, ← Int32.ofInt_add, ← Int32.ofInt_sub, ← Int32.ofInt_mul]; exact congrArg Int32.ofInt (by omega)) | (simp only [z_nat, z_lit, ← Int32.ofInt_add, ← Int32.ofInt_sub, ← Int32.ofInt_mul]; done) | exact congrArg Int32.ofInt (by omega) | rfl), by (dsimp only; omega), (l3.1 j (by omega)).1, ?_⟩
            refine z_ne (mk n e r i) (mk n e r j) (fun h3 => ?_) (fun h3 => ?_)
            · exact ih2 M3 hf4 _ _ (by rw [ct_f (p := alk t n i j e) (by unfold alk; rw [h1, h2, decide_eq_false h3]; rfl)]; (first | assumption | (simp only [z_nat, z_lit, ← Int32.ofInt_add, ← Int32.ofInt_sub, ← Int32.ofInt_mul]; exact congrArg Int32.ofInt (by omega)) | (simp only [z_nat, z_lit, ← Int32.ofInt_add, ← Int32.ofInt_sub, ← Int32.ofInt_mul]; done) | exact congrArg Int32.ofInt (by omega) | rfl)) (by (first | assumption | (simp only [z_nat, z_lit, ← Int32.ofInt_add, ← Int32.ofInt_sub, ← Int32.ofInt_mul]; exact congrArg Int32.ofInt (by omega)) | (simp only [z_nat, z_lit, ← Int32.ofInt_add, ← Int32.ofInt_sub, ← Int32.ofInt_mul]; done) | exact congrArg Int32.ofInt (by omega) | rfl))
            · exact ih2 M3 hf4 _ _ (by rw [ct_t (p := alk t n i j e) (by unfold alk; rw [h1, h2, decide_eq_true h3]; rfl)]; (first | assumption | (simp only [z_nat, z_lit, ← Int32.ofInt_add, ← Int32.ofInt_sub, ← Int32.ofInt_mul]; exact congrArg Int32.ofInt (by omega)) | (simp only [z_nat, z_lit, ← Int32.ofInt_add, ← Int32.ofInt_sub, ← Int32.ofInt_mul]; done) | exact congrArg Int32.ofInt (by omega) | rfl)) (by (first | assumption | (simp only [z_nat, z_lit, ← Int32.ofInt_add, ← Int32.ofInt_sub, ← Int32.ofInt_mul]; exact congrArg Int32.ofInt (by omega)) | (simp only [z_nat, z_lit, ← Int32.ofInt_add, ← Int32.ofInt_sub, ← Int32.ofInt_mul]; done) | exact congrArg Int32.ofInt (by omega) | rfl))
          · exact ih2 M2 hf2 _ _ (by rw [ct_f (p := alk t n i j e) (by unfold alk; rw [h1, h2]; rfl)]) (by (first | assumption | (simp only [z_nat, z_lit, ← Int32.ofInt_add, ← Int32.ofInt_sub, ← Int32.ofInt_mul]; exact congrArg Int32.ofInt (by omega)) | (simp only [z_nat, z_lit, ← Int32.ofInt_add, ← Int32.ofInt_sub, ← Int32.ofInt_mul]; done) | exact congrArg Int32.ofInt (by omega) | rfl))
        · exact ih2 M2 hf2 _ _ (by rw [ct_f (p := alk t n i j e) (by unfold alk; rw [h1]; rfl)]) (by (first | assumption | (simp only [z_nat, z_lit, ← Int32.ofInt_add, ← Int32.ofInt_sub, ← Int32.ofInt_mul]; exact congrArg Int32.ofInt (by omega)) | (simp only [z_nat, z_lit, ← Int32.ofInt_add, ← Int32.ofInt_sub, ← Int32.ofInt_mul]; done) | exact congrArg Int32.ofInt (by omega) | rfl))
  · refine w_in 90 [] ?_
    have fin : q_C q_mt (L, xs, q_shp) E nX12_alike (d + 8) 0 0 (.ref 271 :: [.int a, .int b]) M (fun v' M'' => v' = some (.int (Int32.ofInt (-1))) ∧ P M'') := by
      refine w_in 90 [] ?_
      refine c_X12_isJudge g.R.1 g.R.b (fun i hi e1 => br_f (by decide) ?_) (fun _ => br_t (by decide) ⟨_, rfl, rfl, hP M q_fs.rf⟩)
      refine c_X12_isJudge g.R.1 g.R.b (fun j hj e2 => br_f (by decide) ?_) (fun _ => br_t (by decide) ⟨_, rfl, rfl, hP M q_fs.rf⟩)
      subst e1 e2
      exact z_ne (i : Int) (j : Int) (fun z => absurd ⟨i, j, hi, hj, by omega, rfl, rfl⟩ q) (fun _ => ⟨_, rfl, rfl, hP M q_fs.rf⟩)
    refine d_hasJudge g.C g.R.b (fun i hi e1 => br_f (by decide) ?_) (fun _ => br_t (by decide) ⟨_, rfl, _, rfl, fin⟩)
    refine d_hasJudge g.C g.R.b (fun j hj e2 => br_f (by decide) ?_) (fun _ => br_t (by decide) ⟨_, rfl, _, rfl, fin⟩)
    subst e1 e2
    exact z_ne (i : Int) (j : Int) (fun z => absurd ⟨i, j, hi, hj, by omega, rfl, rfl⟩ q) (fun _ => ⟨_, rfl, _, rfl, fin⟩)
end KE
