/-! the calls without, asDrop -/
section WI
variable {L : Nat} {xs : Nat → Int32} {E : q_E} {d : Nat} {M : q_M} {t : q_T} {n : sN} {Q : Option Value → q_M → Prop} {P : q_M → Prop}
set_option maxRecDepth 100000 in
set_option maxHeartbeats 4000000 in
theorem k_judgesOfSort (g : g_R M t n) {a : Int32} (s : Nat) (hs : s ≤ 3) (hQ : Q (some (.int (nI (soN t s)))) M) (ha : a = nI s := by (first | assumption | (simp only [z_nat, z_lit, ← Int32.ofInt_add, ← Int32.ofInt_sub, ← Int32.ofInt_mul]; exact congrArg Int32.ofInt (by omega)) | (simp only [z_nat, z_lit, ← Int32.ofInt_add, ← Int32.ofInt_sub, ← Int32.ofInt_mul]; done) | exact congrArg Int32.ofInt (by omega) | rfl)) : q_C q_mt (L, xs, q_shp) E nX12_judgesOfSort (d + 1) 0 0 [.ref 271, .int (a)] M Q := by
  subst ha
  have h11 := g.j11
  have W := lp_up (W := fun k => ∀ u v, u = nI (fb_ct (fun j => decide (t 4 j = s)) k) → v = nI k → q_G q_mt (L, xs, q_shp) E nX12_judgesOfSort (d + 1) 0 0 (q_Q (L, xs, q_shp) E Q) 4 [some (.ref 271), some (.int (nI s)), some (.int (u)), some (.int (v))] [] M) (t 2 0) ?_ ?_ 0 (Nat.zero_le _)
  · refine w_in 90 [4] ?_
    exact W _ _ rfl rfl
  · rintro u v rfl rfl
    refine w_at 90 [4] ?_
    refine ⟨2, _, by (first | assumption | (simp only [z_nat, z_lit, ← Int32.ofInt_add, ← Int32.ofInt_sub, ← Int32.ofInt_mul]; exact congrArg Int32.ofInt (by omega)) | (simp only [z_nat, z_lit, ← Int32.ofInt_add, ← Int32.ofInt_sub, ← Int32.ofInt_mul]; done) | exact congrArg Int32.ofInt (by omega) | rfl), by (dsimp only; omega), g.R2, ?_⟩
    exact z_le (t 2 0) (t 2 0) (fun h => ⟨_, rfl, hQ⟩) (fun h => by omega)
  · rintro k hk ih u v rfl rfl
    have hc := fb_ct_le (fun j => decide (t 4 j = s)) k
    have h4 := (g.bj hk).2
    refine w_at 90 [4] ?_
    refine ⟨2, _, by (first | assumption | (simp only [z_nat, z_lit, ← Int32.ofInt_add, ← Int32.ofInt_sub, ← Int32.ofInt_mul]; exact congrArg Int32.ofInt (by omega)) | (simp only [z_nat, z_lit, ← Int32.ofInt_add, ← Int32.ofInt_sub, ← Int32.ofInt_mul]; done) | exact congrArg Int32.ofInt (by omega) | rfl), by (dsimp only; omega), g.R2, ?_⟩
    refine z_le (t 2 0) k (fun h => by omega) (fun h => ?_)
    refine k_sortOf g k hk ?_
    refine z_ne (t 4 k) s (fun h1 => ?_) (fun h1 => ?_)
    · exact ih _ _ (by rw [ct_f (p := fun j => decide (t 4 j = s)) (decide_eq_false (by omega))]; (first | assumption | (simp only [z_nat, z_lit, ← Int32.ofInt_add, ← Int32.ofInt_sub, ← Int32.ofInt_mul]; exact congrArg Int32.ofInt (by omega)) | (simp only [z_nat, z_lit, ← Int32.ofInt_add, ← Int32.ofInt_sub, ← Int32.ofInt_mul]; done) | exact congrArg Int32.ofInt (by omega) | rfl)) (by (first | assumption | (simp only [z_nat, z_lit, ← Int32.ofInt_add, ← Int32.ofInt_sub, ← Int32.ofInt_mul]; exact congrArg Int32.ofInt (by omega)) | (simp only [z_nat, z_lit, ← Int32.ofInt_add, ← Int32.ofInt_sub, ← Int32.ofInt_mul]; done) | exact congrArg Int32.ofInt (by omega) | rfl))
    · exact ih _ _ (by rw [ct_t (p := fun j => decide (t 4 j = s)) (decide_eq_true (by omega))]; (first | assumption | (simp only [z_nat, z_lit, ← Int32.ofInt_add, ← Int32.ofInt_sub, ← Int32.ofInt_mul]; exact congrArg Int32.ofInt (by omega)) | (simp only [z_nat, z_lit, ← Int32.ofInt_add, ← Int32.ofInt_sub, ← Int32.ofInt_mul]; done) | exact congrArg Int32.ofInt (by omega) | rfl)) (by (first | assumption | (simp only [z_nat, z_lit, ← Int32.ofInt_add, ← Int32.ofInt_sub, ← Int32.ofInt_mul]; exact congrArg Int32.ofInt (by omega)) | (simp only [z_nat, z_lit, ← Int32.ofInt_add, ← Int32.ofInt_sub, ← Int32.ofInt_mul]; done) | exact congrArg Int32.ofInt (by omega) | rfl))
set_option maxRecDepth 100000 in
set_option maxHeartbeats 4000000 in
theorem o_without {a b : Int32} (g : g_A 43 M t n) (hP : ∀ M', q_fs lA fA M M' → P M') : zOp L xs E nX11_without nX12_without (d + 8) [.int a, .int b] M P := by
  have h11 := g.R.j11
  by_cases q : ∃ j, j < t 2 0 ∧ a = nI j
  · obtain ⟨j, hj, rfl⟩ := q
    have h4 := (g.R.bj hj).2
    by_cases q2 : ∃ e, e < t 8 0 ∧ b = nI e
    · obtain ⟨e, he, rfl⟩ := q2
      have so : soN t (t 4 j) ≤ 11 := Nat.le_trans (fb_ct_le _ _) h11
      have rt : ∀ M1, q_fs lA fA M M1 → ¬ (onP t j e = true ∧ soN t (t 4 j) = 1) → q_C q_mt (L, xs, q_shp) E nX12_without (d + 8) 0 0 (.ref 271 :: [.int (nI j), .int (nI e)]) M1 (fun v' M'' => v' = some (.int (Int32.ofInt (toE t n e (t 1 0) j))) ∧ P M'') := by
        intro M1 hf1 hn
        have g1 := g.R.fs hf1
        refine w_in 90 [] ?_
        refine c_X12_isJudge g1.1 g1.b (fun _ _ _ => br_f (by decide) ?_) (fun z => absurd ⟨j, hj, rfl⟩ z)
        refine c_X12_isEntrant g1.1 g1.b (fun _ _ _ => bn_t (by decide) ?_) (fun z => absurd ⟨e, he, rfl⟩ z)
        refine k_judges g1 j e hj he (fun hp => br_f (by decide) ?_) (fun hp => br_t (by decide) ?_)
        · refine k_sortOf g1 j hj ?_
          refine k_judgesOfSort g1 (t 4 j) h4 ?_
          refine z_ne (soN t (t 4 j)) 1 (fun z => ?_) (fun z => absurd ⟨hp, by omega⟩ hn)
          refine ⟨1, _, by (first | assumption | (simp only [z_nat, z_lit, ← Int32.ofInt_add, ← Int32.ofInt_sub, ← Int32.ofInt_mul]; exact congrArg Int32.ofInt (by omega)) | (simp only [z_nat, z_lit, ← Int32.ofInt_add, ← Int32.ofInt_sub, ← Int32.ofInt_mul]; done) | exact congrArg Int32.ofInt (by omega) | rfl), by (dsimp only; omega), g1.R1, ?_⟩
          exact k_totalBy g1 e (t 1 0) (j : Int) he g.R.p3 (by omega) (fun M2 hf2 => ⟨_, rfl, rfl, hP M2 (hf1.tr hf2.mono)⟩)
        · refine ⟨1, _, by (first | assumption | (simp only [z_nat, z_lit, ← Int32.ofInt_add, ← Int32.ofInt_sub, ← Int32.ofInt_mul]; exact congrArg Int32.ofInt (by omega)) | (simp only [z_nat, z_lit, ← Int32.ofInt_add, ← Int32.ofInt_sub, ← Int32.ofInt_mul]; done) | exact congrArg Int32.ofInt (by omega) | rfl), by (dsimp only; omega), g1.R1, ?_⟩
          exact k_totalBy g1 e (t 1 0) (j : Int) he g.R.p3 (by omega) (fun M2 hf2 => ⟨_, rfl, rfl, hP M2 (hf1.tr hf2.mono)⟩)
      refine w_in 90 [] ?_
      refine d_hasJudge g.C g.R.b (fun _ _ _ => br_f (by decide) ?_) (fun z => absurd ⟨j, hj, rfl⟩ z)
      refine d_hasEntrant g.C g.R.b (fun _ _ _ => bn_t (by decide) ?_) (fun z => absurd ⟨e, he, rfl⟩ z)
      refine k2_isOnPanel g.Z j e hj he (fun hp => br_f (by decide) ?_) (fun hp => br_t (by decide) ?_)
      · refine ⟨j, _, by (first | assumption | (simp only [z_nat, z_lit, ← Int32.ofInt_add, ← Int32.ofInt_sub, ← Int32.ofInt_mul]; exact congrArg Int32.ofInt (by omega)) | (simp only [z_nat, z_lit, ← Int32.ofInt_add, ← Int32.ofInt_sub, ← Int32.ofInt_mul]; done) | exact congrArg Int32.ofInt (by omega) | rfl), by (dsimp only; omega), (g.ju hj).2, ?_⟩
        refine k2_countSort g.Z (t 4 j) h4 ?_
        refine z_ne (soN t (t 4 j)) 1 (fun z => ?_) (fun z => ⟨_, rfl, _, rfl, ?_⟩)
        · refine ⟨_, g.dr, ?_⟩
          exact k2_totalAnew g e (t 1 0) (j : Int) he g.R.p3 (Or.inr ⟨j, hj, rfl⟩) (fun M1 hf1 => ⟨_, rfl, _, rfl, rt M1 hf1 (fun z2 => by omega)⟩)
        · refine w_in 90 [] ?_
          refine c_X12_isJudge g.R.1 g.R.b (fun _ _ _ => br_f (by decide) ?_) (fun z => absurd ⟨j, hj, rfl⟩ z)
          refine c_X12_isEntrant g.R.1 g.R.b (fun _ _ _ => bn_t (by decide) ?_) (fun z => absurd ⟨e, he, rfl⟩ z)
          refine k_judges g.R j e hj he (fun _ => br_f (by decide) ?_) (fun z2 => absurd (hp.symm.trans z2) (by decide))
          refine k_sortOf g.R j hj ?_
          refine k_judgesOfSort g.R (t 4 j) h4 ?_
          exact z_ne (soN t (t 4 j)) 1 (fun z2 => by omega) (fun _ => ⟨_, rfl, rfl, hP M q_fs.rf⟩)
      · refine ⟨_, g.dr, ?_⟩
        exact k2_totalAnew g e (t 1 0) (j : Int) he g.R.p3 (Or.inr ⟨j, hj, rfl⟩) (fun M1 hf1 => ⟨_, rfl, _, rfl, rt M1 hf1 (fun z2 => absurd (hp.symm.trans z2.1) (by decide))⟩)
    · refine w_in 90 [] ?_
      refine d_hasJudge g.C g.R.b (fun _ _ _ => br_f (by decide) ?_) (fun z => absurd ⟨j, hj, rfl⟩ z)
      refine d_hasEntrant g.C g.R.b (fun i hi e => absurd ⟨i, hi, e⟩ q2) (fun _ => bn_f (by decide) ⟨_, rfl, _, rfl, ?_⟩)
      refine w_in 90 [] ?_
      refine c_X12_isJudge g.R.1 g.R.b (fun _ _ _ => br_f (by decide) ?_) (fun z => absurd ⟨j, hj, rfl⟩ z)
      exact c_X12_isEntrant g.R.1 g.R.b (fun i hi e => absurd ⟨i, hi, e⟩ q2) (fun _ => bn_f (by decide) ⟨_, rfl, rfl, hP M q_fs.rf⟩)
  · refine w_in 90 [] ?_
    refine d_hasJudge g.C g.R.b (fun i hi e => absurd ⟨i, hi, e⟩ q) (fun _ => br_t (by decide) ⟨_, rfl, _, rfl, ?_⟩)
    refine w_in 90 [] ?_
    exact c_X12_isJudge g.R.1 g.R.b (fun i hi e => absurd ⟨i, hi, e⟩ q) (fun _ => br_t (by decide) ⟨_, rfl, rfl, hP M q_fs.rf⟩)
set_option maxRecDepth 100000 in
set_option maxHeartbeats 4000000 in
theorem o_asDrop {a b : Int32} (g : g_A 43 M t n) (hP : ∀ M', q_fs lA fA M M' → P M') : zOp L xs E nX11_asDrop nX12_asDrop (d + 8) [.int a, .int b] M P := by
  obtain ⟨w, hw, rfl⟩ := z_of a
  by_cases q : 0 ≤ w ∧ w ≤ 3
  · by_cases q2 : ∃ e, e < t 8 0 ∧ b = nI e
    · obtain ⟨e, he, rfl⟩ := q2
      obtain ⟨k, rfl⟩ : ∃ k : Nat, w = k := ⟨w.toNat, by omega⟩
      refine w_in 90 [] ?_
      refine z_lt (k : Int) 0 (fun z => by omega) (fun _ => ?_)
      refine z_lt 3 (k : Int) (fun z => by omega) (fun _ => ?_)
      refine d_hasEntrant g.C g.R.b (fun _ _ _ => bn_t (by decide) ?_) (fun z => absurd ⟨e, he, rfl⟩ z)
      refine k2_totalAnew g e k (-1) he (by omega) (Or.inl rfl) (fun M1 hf1 => ⟨_, rfl, _, rfl, ?_⟩)
      have g1 := g.R.fs hf1
      refine w_in 90 [] ?_
      refine k_isIn (k : Int) 0 3 hw (by omega) (by omega) (fun _ _ => br_f (by decide) ?_) (fun z => absurd q z)
      refine c_X12_isEntrant g1.1 g1.b (fun _ _ _ => br_f (by decide) ?_) (fun z => absurd ⟨e, he, rfl⟩ z)
      exact k_totalBy g1 e k (-1) he (by omega) (by omega) (fun M2 hf2 => ⟨_, rfl, rfl, hP M2 (hf1.tr hf2.mono)⟩)
    · refine w_in 90 [] ?_
      refine z_lt w 0 (fun z => by omega) (fun _ => ?_)
      refine z_lt 3 w (fun z => by omega) (fun _ => ?_)
      refine d_hasEntrant g.C g.R.b (fun i hi e => absurd ⟨i, hi, e⟩ q2) (fun _ => bn_f (by decide) ⟨_, rfl, _, rfl, ?_⟩)
      refine w_in 90 [] ?_
      refine k_isIn w 0 3 hw (by omega) (by omega) (fun _ _ => br_f (by decide) ?_) (fun z => absurd q z)
      exact c_X12_isEntrant g.R.1 g.R.b (fun i hi e => absurd ⟨i, hi, e⟩ q2) (fun _ => br_t (by decide) ⟨_, rfl, rfl, hP M q_fs.rf⟩)
  · have fin : q_C q_mt (L, xs, q_shp) E nX12_asDrop (d + 8) 0 0 (.ref 271 :: [.int (Int32.ofInt w), .int b]) M (fun v' M'' => v' = some (.int (Int32.ofInt (-1))) ∧ P M'') := by
      refine w_in 90 [] ?_
      exact k_isIn w 0 3 hw (by omega) (by omega) (fun z1 z2 => absurd ⟨z1, z2⟩ q) (fun _ => br_t (by decide) ⟨_, rfl, rfl, hP M q_fs.rf⟩)
    refine w_in 90 [] ?_
    refine z_lt w 0 (fun z => ⟨_, rfl, _, rfl, fin⟩) (fun _ => ?_)
    exact z_lt 3 w (fun z => ⟨_, rfl, _, rfl, fin⟩) (fun z => absurd ⟨by omega, by omega⟩ q)
/-- whose turn among those of a sort: by marks -/
def mdP (t : q_T) (S : Nat → Bool) (m : Nat → Int) (s h j : Nat) : Prop := j < t 2 0 ∧ ofS t S s j = true ∧ rk (ofS t S s) m (t 2 0) j = h
theorem mdP.un {S : Nat → Bool} {m : Nat → Int} {s h j j' : Nat} (a : mdP t S m s h j) (b : mdP t S m s h j') : j = j' := rk_inj a.2.1 b.2.1 a.1 b.1 (a.2.2.trans b.2.2.symm)
/-- what one reads in the middle: nothing 0 -/
def isMd (t : q_T) (S : Nat → Bool) (m : Nat → Int) (s : Nat) (v : Int) : Prop := (∃ j, mdP t S m s ((pan t S s - 1) / 2) j ∧ v = m j) ∨ ((∀ j, ¬ mdP t S m s ((pan t S s - 1) / 2) j) ∧ v = 0)
theorem isMd.un {S : Nat → Bool} {m : Nat → Int} {s : Nat} {v v' : Int} (a : isMd t S m s v) (b : isMd t S m s v') : v = v' := by
  rcases a with ⟨j, h, rfl⟩ | ⟨h, rfl⟩
  · rcases b with ⟨j', h', rfl⟩ | ⟨h', rfl⟩
    · rw [h.un h']
    · exact absurd h (h' j)
  · rcases b with ⟨j', h', rfl⟩ | ⟨h', rfl⟩
    · exact absurd h' (h j')
    · rfl
variable {S : Nat → Bool} {m : Nat → Int} {cap bal hal deg : Int} {dr : Nat}
set_option maxRecDepth 100000 in
set_option maxHeartbeats 4000000 in
theorem p_placeOf (k : g_K M t) (p : g_P M t S m cap bal hal deg dr) {a : Int32} (j s : Nat) (hj : j < t 2 0) (hs : t 4 j = s) (hQ : Q (some (.int (nI (rk (ofS t S s) m (t 2 0) j)))) M) (ha : a = nI j := by (first | assumption | (simp only [z_nat, z_lit, ← Int32.ofInt_add, ← Int32.ofInt_sub, ← Int32.ofInt_mul]; exact congrArg Int32.ofInt (by omega)) | (simp only [z_nat, z_lit, ← Int32.ofInt_add, ← Int32.ofInt_sub, ← Int32.ofInt_mul]; done) | exact congrArg Int32.ofInt (by omega) | rfl)) : q_C q_mt (L, xs, q_shp) E nX5_placeOf (d + 1) 0 0 [.ref 238, .int (a)] M Q := by
  subst ha
  have h11 := k.2.1
  have h4 := k.2.2 j hj
  have hmj := p.2.1 j hj
  have W := lp_up (W := fun i => ∀ u v, u = nI (rk (ofS t S s) m i j) → v = nI i → q_G q_mt (L, xs, q_shp) E nX5_placeOf (d + 1) 0 0 (q_Q (L, xs, q_shp) E Q) 4 [some (.ref 238), some (.int (nI j)), some (.int (u)), some (.int (v))] [] M) (t 2 0) ?_ ?_ 0 (Nat.zero_le _)
  · refine w_in 90 [4] ?_
    exact W _ _ rfl rfl
  · rintro u v rfl rfl
    refine w_at 90 [4] ?_
    refine ⟨_, k.1.1, ?_⟩
    exact z_le (t 2 0) (t 2 0) (fun h => ⟨_, rfl, hQ⟩) (fun h => by omega)
  · rintro i hi ih u v rfl rfl
    have hc := fb_ct_le (fun i => ofS t S s i && bfr m i j) i
    have hmi := p.2.1 i hi
    have no : (ofS t S s i && bfr m i j) = false → rk (ofS t S s) m (i + 1) j = rk (ofS t S s) m i j := fun z => ct_f z
    have yes : (ofS t S s i && bfr m i j) = true → rk (ofS t S s) m (i + 1) j = rk (ofS t S s) m i j + 1 := fun z => ct_t z
    refine w_at 90 [4] ?_
    refine ⟨_, k.1.1, ?_⟩
    refine z_le (t 2 0) i (fun h => by omega) (fun h => ?_)
    refine ⟨j, _, by (first | assumption | (simp only [z_nat, z_lit, ← Int32.ofInt_add, ← Int32.ofInt_sub, ← Int32.ofInt_mul]; exact congrArg Int32.ofInt (by omega)) | (simp only [z_nat, z_lit, ← Int32.ofInt_add, ← Int32.ofInt_sub, ← Int32.ofInt_mul]; done) | exact congrArg Int32.ofInt (by omega) | rfl), by (dsimp only; omega), k.1.2 j hj, ?_⟩
    refine p_isOfSort k p i (t 4 j) hi h4 (fun z1 z2 => br_f (by decide) ?_) (fun z => br_t (by decide) ?_)
    · have hA : ofS t S s i = true := ofS_t.mpr ⟨z1, by omega⟩
      rw [hA, Bool.true_and] at no yes
      refine ⟨i, _, by (first | assumption | (simp only [z_nat, z_lit, ← Int32.ofInt_add, ← Int32.ofInt_sub, ← Int32.ofInt_mul]; exact congrArg Int32.ofInt (by omega)) | (simp only [z_nat, z_lit, ← Int32.ofInt_add, ← Int32.ofInt_sub, ← Int32.ofInt_mul]; done) | exact congrArg Int32.ofInt (by omega) | rfl), by (dsimp only; omega), hmi.1, ?_⟩
      refine ⟨j, _, by (first | assumption | (simp only [z_nat, z_lit, ← Int32.ofInt_add, ← Int32.ofInt_sub, ← Int32.ofInt_mul]; exact congrArg Int32.ofInt (by omega)) | (simp only [z_nat, z_lit, ← Int32.ofInt_add, ← Int32.ofInt_sub, ← Int32.ofInt_mul]; done) | exact congrArg Int32.ofInt (by omega) | rfl), by (dsimp only; omega), hmj.1, ?_⟩
      refine z_lt (m i) (m j) (fun h1 => ?_) (fun h1 => ?_)
      · exact ih _ _ (by rw [yes (bfr_iff.mpr (Or.inl h1))]; (first | assumption | (simp only [z_nat, z_lit, ← Int32.ofInt_add, ← Int32.ofInt_sub, ← Int32.ofInt_mul]; exact congrArg Int32.ofInt (by omega)) | (simp only [z_nat, z_lit, ← Int32.ofInt_add, ← Int32.ofInt_sub, ← Int32.ofInt_mul]; done) | exact congrArg Int32.ofInt (by omega) | rfl)) (by (first | assumption | (simp only [z_nat, z_lit, ← Int32.ofInt_add, ← Int32.ofInt_sub, ← Int32.ofInt_mul]; exact congrArg Int32.ofInt (by omega)) | (simp only [z_nat, z_lit, ← Int32.ofInt_add, ← Int32.ofInt_sub, ← Int32.ofInt_mul]; done) | exact congrArg Int32.ofInt (by omega) | rfl))
      · refine ⟨i, _, by (first | assumption | (simp only [z_nat, z_lit, ← Int32.ofInt_add, ← Int32.ofInt_sub, ← Int32.ofInt_mul]; exact congrArg Int32.ofInt (by omega)) | (simp only [z_nat, z_lit, ← Int32.ofInt_add, ← Int32.ofInt_sub, ← Int32.ofInt_mul]; done) | exact congrArg Int32.ofInt (by omega) | rfl), by (dsimp only; omega), hmi.1, ?_⟩
        refine ⟨j, _, by (first | assumption | (simp only [z_nat, z_lit, ← Int32.ofInt_add, ← Int32.ofInt_sub, ← Int32.ofInt_mul]; exact congrArg Int32.ofInt (by omega)) | (simp only [z_nat, z_lit, ← Int32.ofInt_add, ← Int32.ofInt_sub, ← Int32.ofInt_mul]; done) | exact congrArg Int32.ofInt (by omega) | rfl), by (dsimp only; omega), hmj.1, ?_⟩
        refine z_ne (m i) (m j) (fun h2 => ?_) (fun h2 => ?_)
        · exact ih _ _ (by rw [no (bfr_f (by omega))]) (by (first | assumption | (simp only [z_nat, z_lit, ← Int32.ofInt_add, ← Int32.ofInt_sub, ← Int32.ofInt_mul]; exact congrArg Int32.ofInt (by omega)) | (simp only [z_nat, z_lit, ← Int32.ofInt_add, ← Int32.ofInt_sub, ← Int32.ofInt_mul]; done) | exact congrArg Int32.ofInt (by omega) | rfl))
        · refine z_le (j : Int) (i : Int) (fun h3 => ?_) (fun h3 => ?_)
          · exact ih _ _ (by rw [no (bfr_f (by omega))]) (by (first | assumption | (simp only [z_nat, z_lit, ← Int32.ofInt_add, ← Int32.ofInt_sub, ← Int32.ofInt_mul]; exact congrArg Int32.ofInt (by omega)) | (simp only [z_nat, z_lit, ← Int32.ofInt_add, ← Int32.ofInt_sub, ← Int32.ofInt_mul]; done) | exact congrArg Int32.ofInt (by omega) | rfl))
          · exact ih _ _ (by rw [yes (bfr_iff.mpr (Or.inr ⟨h2, by omega⟩))]; (first | assumption | (simp only [z_nat, z_lit, ← Int32.ofInt_add, ← Int32.ofInt_sub, ← Int32.ofInt_mul]; exact congrArg Int32.ofInt (by omega)) | (simp only [z_nat, z_lit, ← Int32.ofInt_add, ← Int32.ofInt_sub, ← Int32.ofInt_mul]; done) | exact congrArg Int32.ofInt (by omega) | rfl)) (by (first | assumption | (simp only [z_nat, z_lit, ← Int32.ofInt_add, ← Int32.ofInt_sub, ← Int32.ofInt_mul]; exact congrArg Int32.ofInt (by omega)) | (simp only [z_nat, z_lit, ← Int32.ofInt_add, ← Int32.ofInt_sub, ← Int32.ofInt_mul]; done) | exact congrArg Int32.ofInt (by omega) | rfl))
    · have hA : ofS t S s i = false := Bool.eq_false_iff.mpr (fun z2 => z (by have := ofS_t.mp z2; exact ⟨this.1, by omega⟩))
      exact ih _ _ (by rw [no (by rw [hA, Bool.false_and])]) (by (first | assumption | (simp only [z_nat, z_lit, ← Int32.ofInt_add, ← Int32.ofInt_sub, ← Int32.ofInt_mul]; exact congrArg Int32.ofInt (by omega)) | (simp only [z_nat, z_lit, ← Int32.ofInt_add, ← Int32.ofInt_sub, ← Int32.ofInt_mul]; done) | exact congrArg Int32.ofInt (by omega) | rfl))
set_option maxRecDepth 100000 in
set_option maxHeartbeats 4000000 in
theorem p_countOfSort (k : g_K M t) (p : g_P M t S m cap bal hal deg dr) {a : Int32} (s : Nat) (hs : s ≤ 3) (hQ : Q (some (.int (nI (pan t S s)))) M) (ha : a = nI s := by (first | assumption | (simp only [z_nat, z_lit, ← Int32.ofInt_add, ← Int32.ofInt_sub, ← Int32.ofInt_mul]; exact congrArg Int32.ofInt (by omega)) | (simp only [z_nat, z_lit, ← Int32.ofInt_add, ← Int32.ofInt_sub, ← Int32.ofInt_mul]; done) | exact congrArg Int32.ofInt (by omega) | rfl)) : q_C q_mt (L, xs, q_shp) E nX5_countOfSort (d + 1) 0 0 [.ref 238, .int (a)] M Q := by
  subst ha
  have h11 := k.2.1
  have W := lp_up (W := fun i => ∀ u v, u = nI (fb_ct (ofS t S s) i) → v = nI i → q_G q_mt (L, xs, q_shp) E nX5_countOfSort (d + 1) 0 0 (q_Q (L, xs, q_shp) E Q) 4 [some (.ref 238), some (.int (nI s)), some (.int (u)), some (.int (v))] [] M) (t 2 0) ?_ ?_ 0 (Nat.zero_le _)
  · refine w_in 90 [4] ?_
    exact W _ _ rfl rfl
  · rintro u v rfl rfl
    refine w_at 90 [4] ?_
    refine ⟨_, k.1.1, ?_⟩
    exact z_le (t 2 0) (t 2 0) (fun h => ⟨_, rfl, hQ⟩) (fun h => by omega)
  · rintro i hi ih u v rfl rfl
    have hc := fb_ct_le (ofS t S s) i
    refine w_at 90 [4] ?_
    refine ⟨_, k.1.1, ?_⟩
    refine z_le (t 2 0) i (fun h => by omega) (fun h => ?_)
    refine p_isOfSort k p i s hi hs (fun z1 z2 => br_f (by decide) ?_) (fun z => br_t (by decide) ?_)
    · exact ih _ _ (by rw [ct_t (ofS_t.mpr ⟨z1, z2⟩)]; (first | assumption | (simp only [z_nat, z_lit, ← Int32.ofInt_add, ← Int32.ofInt_sub, ← Int32.ofInt_mul]; exact congrArg Int32.ofInt (by omega)) | (simp only [z_nat, z_lit, ← Int32.ofInt_add, ← Int32.ofInt_sub, ← Int32.ofInt_mul]; done) | exact congrArg Int32.ofInt (by omega) | rfl)) (by (first | assumption | (simp only [z_nat, z_lit, ← Int32.ofInt_add, ← Int32.ofInt_sub, ← Int32.ofInt_mul]; exact congrArg Int32.ofInt (by omega)) | (simp only [z_nat, z_lit, ← Int32.ofInt_add, ← Int32.ofInt_sub, ← Int32.ofInt_mul]; done) | exact congrArg Int32.ofInt (by omega) | rfl))
    · exact ih _ _ (by rw [ct_f (Bool.eq_false_iff.mpr (fun z2 => z (ofS_t.mp z2)))]) (by (first | assumption | (simp only [z_nat, z_lit, ← Int32.ofInt_add, ← Int32.ofInt_sub, ← Int32.ofInt_mul]; exact congrArg Int32.ofInt (by omega)) | (simp only [z_nat, z_lit, ← Int32.ofInt_add, ← Int32.ofInt_sub, ← Int32.ofInt_mul]; done) | exact congrArg Int32.ofInt (by omega) | rfl))
set_option maxRecDepth 100000 in
set_option maxHeartbeats 4000000 in
theorem p_middleOf (k : g_K M t) (p : g_P M t S m cap bal hal deg dr) {a : Int32} (s : Nat) (hs : s ≤ 3) (hQ : ∀ v, isMd t S m s v → Q (some (.int (Int32.ofInt v))) M) (ha : a = nI s := by (first | assumption | (simp only [z_nat, z_lit, ← Int32.ofInt_add, ← Int32.ofInt_sub, ← Int32.ofInt_mul]; exact congrArg Int32.ofInt (by omega)) | (simp only [z_nat, z_lit, ← Int32.ofInt_add, ← Int32.ofInt_sub, ← Int32.ofInt_mul]; done) | exact congrArg Int32.ofInt (by omega) | rfl)) : q_C q_mt (L, xs, q_shp) E nX5_middleOf (d + 2) 0 0 [.ref 238, .int (a)] M Q := by
  subst ha
  have h11 := k.2.1
  have hpn : pan t S s ≤ 11 := Nat.le_trans (fb_ct_le _ _) h11
  have e : (nI (pan t S s) - Int32.ofInt 1) / Int32.ofInt 2 = nI ((pan t S s - 1) / 2) := by
    have : ∀ b, b ≤ 11 → (nI b - Int32.ofInt 1) / Int32.ofInt 2 = nI ((b - 1) / 2) := by decide
    exact this _ hpn
  have W := lp_up (W := fun i => (∀ j, j < i → ¬ mdP t S m s ((pan t S s - 1) / 2) j) → ∀ u v, u = nI ((pan t S s - 1) / 2) → v = nI i → q_G q_mt (L, xs, q_shp) E nX5_middleOf (d + 2) 0 0 (q_Q (L, xs, q_shp) E Q) 12 [some (.ref 238), some (.int (nI s)), some (.int (u)), some (.int (v))] [] M) (t 2 0) ?_ ?_ 0 (Nat.zero_le _)
  · refine w_in 90 [12] ?_
    refine p_countOfSort k p s hs ?_
    refine And.intro (by decide) ?_
    exact W (fun j hj => absurd hj (Nat.not_lt_zero _)) _ _ e rfl
  · rintro hn u v rfl rfl
    refine w_at 90 [12] ?_
    refine ⟨_, k.1.1, ?_⟩
    exact z_le (t 2 0) (t 2 0) (fun h => ⟨_, rfl, hQ 0 (Or.inr ⟨fun j hj => hn j hj.1 hj, rfl⟩)⟩) (fun h => by omega)
  · rintro i hi ih hn u v rfl rfl
    have hmi := p.2.1 i hi
    refine w_at 90 [12] ?_
    refine ⟨_, k.1.1, ?_⟩
    refine z_le (t 2 0) i (fun h => by omega) (fun h => ?_)
    refine p_isOfSort k p i s hi hs (fun z1 z2 => br_f (by decide) ?_) (fun z => br_t (by decide) ?_)
    · have hA : ofS t S s i = true := ofS_t.mpr ⟨z1, z2⟩
      have htp : rk (ofS t S s) m (t 2 0) i ≤ 11 := Nat.le_trans (fb_ct_le _ _) h11
      refine p_placeOf k p i s hi z2 ?_
      refine z_ne (rk (ofS t S s) m (t 2 0) i) ((pan t S s - 1) / 2 : Nat) (fun h1 => ?_) (fun h1 => ?_)
      · refine ih (fun j hj hm => ?_) _ _ rfl (by (first | assumption | (simp only [z_nat, z_lit, ← Int32.ofInt_add, ← Int32.ofInt_sub, ← Int32.ofInt_mul]; exact congrArg Int32.ofInt (by omega)) | (simp only [z_nat, z_lit, ← Int32.ofInt_add, ← Int32.ofInt_sub, ← Int32.ofInt_mul]; done) | exact congrArg Int32.ofInt (by omega) | rfl))
        by_cases q : j = i
        · subst q
          exact h1 (by have := hm.2.2; omega)
        · exact hn j (by omega) hm
      · refine ⟨i, _, by (first | assumption | (simp only [z_nat, z_lit, ← Int32.ofInt_add, ← Int32.ofInt_sub, ← Int32.ofInt_mul]; exact congrArg Int32.ofInt (by omega)) | (simp only [z_nat, z_lit, ← Int32.ofInt_add, ← Int32.ofInt_sub, ← Int32.ofInt_mul]; done) | exact congrArg Int32.ofInt (by omega) | rfl), by (dsimp only; omega), hmi.1, ?_⟩
        exact ⟨_, rfl, hQ _ (Or.inl ⟨i, ⟨hi, hA, by omega⟩, rfl⟩)⟩
    · refine ih (fun j hj hm => ?_) _ _ rfl (by (first | assumption | (simp only [z_nat, z_lit, ← Int32.ofInt_add, ← Int32.ofInt_sub, ← Int32.ofInt_mul]; exact congrArg Int32.ofInt (by omega)) | (simp only [z_nat, z_lit, ← Int32.ofInt_add, ← Int32.ofInt_sub, ← Int32.ofInt_mul]; done) | exact congrArg Int32.ofInt (by omega) | rfl))
      by_cases q : j = i
      · subst q
        exact z (ofS_t.mp hm.2.1)
      · exact hn j (by omega) hm
end WI
