/-! the calls dropped, without, asDrop -/
theorem b_clr {x : Int32} {j i : Nat} (hj : j < 32) (hi : i < 32) : bt (x &&& (((1 : Int32) <<< (nI j &&& 31)) ^^^ (-1))) i = (bt x i && !decide (i = j)) := by
  rw [b_and, b_xor, b_m1 i hi, b_shl j hj 1 hi]
  congr 1
  by_cases q : j ≤ i
  · rw [decide_eq_true q, Bool.true_and, b_1 _ (by omega)]
    by_cases q2 : i = j
    · rw [decide_eq_true q2, decide_eq_true (by omega)]
      rfl
    · rw [decide_eq_false q2, decide_eq_false (by omega)]
      rfl
  · rw [decide_eq_false q, Bool.false_and, decide_eq_false (by omega)]
    rfl
section AN
variable {L : Nat} {xs : Nat → Int32} {E : q_E} {d : Nat} {M : q_M} {t : q_T} {n : sN} {Q : Option Value → q_M → Prop} {P : q_M → Prop}
theorem g_A.A43 {M' : q_M} (g : g_A 43 M t n) (h : q_fs lA fA M M') : g_A 43 M' t n := g.fs h g_o.of
/-- j's mark stands, and its fate is w -/
def drp (t : q_T) (n : sN) (j : Nat) (w : Int) (e r : Nat) : Bool := jdd t n e r j && decide ((fat t (onE t e) (cvE t n e r) (t 1 0) j : Int) = w)
set_option maxRecDepth 100000 in
set_option maxHeartbeats 4000000 in
theorem k2_countPlaced (g : g_A 43 M t n) {a b : Int32} (j : Nat) (w : Int) (hj : j < t 2 0) (hw : 0 ≤ w ∧ w ≤ 2) (hQ : ∀ M', q_fs lA fA M M' → Q (some (.int (nI (dvN t (drp t n j w) (t 8 0))))) M') (ha : a = nI j := by (first | assumption | (simp only [z_nat, z_lit, ← Int32.ofInt_add, ← Int32.ofInt_sub, ← Int32.ofInt_mul]; exact congrArg Int32.ofInt (by omega)) | (simp only [z_nat, z_lit, ← Int32.ofInt_add, ← Int32.ofInt_sub, ← Int32.ofInt_mul]; done) | exact congrArg Int32.ofInt (by omega) | rfl)) (hb : b = Int32.ofInt w := by (first | assumption | (simp only [z_nat, z_lit, ← Int32.ofInt_add, ← Int32.ofInt_sub, ← Int32.ofInt_mul]; exact congrArg Int32.ofInt (by omega)) | (simp only [z_nat, z_lit, ← Int32.ofInt_add, ← Int32.ofInt_sub, ← Int32.ofInt_mul]; done) | exact congrArg Int32.ofInt (by omega) | rfl)) : q_C q_mt (L, xs, q_shp) E nX4_countPlaced (d + 4) 0 0 [.ref 256, .int (a), .int (b)] M Q := by
  subst ha hb
  have h6 := g.R.e6
  have h7 := g.R.r6
  have h11 := g.R.j11
  have h4 := (g.R.bj hj).2
  have W := lp_m (W := fun e M' => ∀ u v x y, u = nI (dvN t (drp t n j w) e) → v = nI e → q_G q_mt (L, xs, q_shp) E nX4_countPlaced (d + 4) 0 0 (q_Q (L, xs, q_shp) E Q) 5 [some (.ref 256), some (.int (nI j)), some (.int (Int32.ofInt w)), some (.int (u)), some (.int (v)), x, y] [] M') (J := fun e M' => q_fs lA fA M M') (t 8 0) ?_ ?_ 0 M (Nat.zero_le _) q_fs.rf
  · refine w_in 90 [5, 20] ?_
    exact W _ _ _ _ rfl rfl
  · rintro M' hf u v x y rfl rfl
    have g' := g.A43 hf
    refine w_at 90 [5, 20] ?_
    refine ⟨_, g'.eN, ?_⟩
    exact z_le (t 8 0) (t 8 0) (fun h => ⟨_, rfl, hQ M' hf⟩) (fun h => by omega)
  · rintro e M' he hf ih u v x y rfl rfl
    have g' := g.A43 hf
    have hb := dvN_b g.R (p := drp t n j w) (show e ≤ t 8 0 by omega)
    have W2 := lp_m (W := fun r M2 => ∀ u v y, u = nI (dvN t (drp t n j w) e + fb_ct (drp t n j w e) r) → v = nI (r + 1) → q_G q_mt (L, xs, q_shp) E nX4_countPlaced (d + 4) 0 0 (q_Q (L, xs, q_shp) E Q) 20 [some (.ref 256), some (.int (nI j)), some (.int (Int32.ofInt w)), some (.int (u)), some (.int (nI e)), some (.int (v)), y] [] M2) (J := fun r M2 => q_fs lA fA M M2) (t 0 0) ?_ ?_ 0 M' (Nat.zero_le _) hf
    · refine w_at 90 [5, 20] ?_
      refine ⟨_, g'.eN, ?_⟩
      refine z_le (t 8 0) e (fun h => by omega) (fun h => ?_)
      exact W2 _ _ _ rfl rfl
    · rintro M2 hf2 u v y rfl rfl
      have g2 := g.A43 hf2
      refine w_at 90 [5, 20] ?_
      refine ⟨_, g2.ro, ?_⟩
      refine z_lt (t 0 0) ((t 0 0 + 1 : Nat) : Int) (fun h => ?_) (fun h => by omega)
      exact ih M2 hf2 _ _ _ _ rfl (by (first | assumption | (simp only [z_nat, z_lit, ← Int32.ofInt_add, ← Int32.ofInt_sub, ← Int32.ofInt_mul]; exact congrArg Int32.ofInt (by omega)) | (simp only [z_nat, z_lit, ← Int32.ofInt_add, ← Int32.ofInt_sub, ← Int32.ofInt_mul]; done) | exact congrArg Int32.ofInt (by omega) | rfl))
    · rintro r M2 hr hf2 ih2 u v y rfl rfl
      have g2 := g.A43 hf2
      have hc := fb_ct_le (drp t n j w e) r
      refine w_at 90 [5, 20] ?_
      refine ⟨_, g2.ro, ?_⟩
      refine z_lt (t 0 0) ((r + 1 : Nat) : Int) (fun h => by omega) (fun h => ?_)
      refine k2_isJudged4 g2 e r j he hr hj (fun h1 => br_f (by decide) ?_) (fun h1 => br_t (by decide) ?_)
      · obtain ⟨hg, h0, hp⟩ := jdd_t.mp h1
        have fin : ∀ M3 (x : Int32), q_fs lA fA M M3 → (bt x j = true ↔ (fat t (onE t e) (cvE t n e r) (t 1 0) j : Int) = w) → ∀ u, u = nI (dvN t (drp t n j w) e + fb_ct (drp t n j w e) r) + ((x >>> (nI j &&& 31)) &&& 1) → ∀ v, v = nI (r + 1 + 1) → q_G q_mt (L, xs, q_shp) E nX4_countPlaced (d + 4) 0 0 (q_Q (L, xs, q_shp) E Q) 20 [some (.ref 256), some (.int (nI j)), some (.int (Int32.ofInt w)), some (.int (u)), some (.int (nI e)), some (.int (v)), some (.int (x))] [] M3 := by
          rintro M3 x hf3 hx u rfl v rfl
          rw [b_at (by omega)]
          by_cases q : bt x j = true
          · rw [if_pos q]
            exact ih2 M3 hf3 _ _ _ (by rw [ct_t (p := drp t n j w e) (by unfold drp; rw [h1, decide_eq_true (hx.mp q)]; rfl)]; (first | assumption | (simp only [z_nat, z_lit, ← Int32.ofInt_add, ← Int32.ofInt_sub, ← Int32.ofInt_mul]; exact congrArg Int32.ofInt (by omega)) | (simp only [z_nat, z_lit, ← Int32.ofInt_add, ← Int32.ofInt_sub, ← Int32.ofInt_mul]; done) | exact congrArg Int32.ofInt (by omega) | rfl)) rfl
          · rw [if_neg q]
            exact ih2 M3 hf3 _ _ _ (by rw [ct_f (p := drp t n j w e) (by unfold drp; rw [h1, decide_eq_false (fun z => q (hx.mpr z))]; rfl)]; (first | assumption | (simp only [z_nat, z_lit, ← Int32.ofInt_add, ← Int32.ofInt_sub, ← Int32.ofInt_mul]; exact congrArg Int32.ofInt (by omega)) | (simp only [z_nat, z_lit, ← Int32.ofInt_add, ← Int32.ofInt_sub, ← Int32.ofInt_mul]; done) | exact congrArg Int32.ofInt (by omega) | rfl)) rfl
        refine k2_seat_43 g2.Z e r he hr (fun M3 hf3 p3 => ?_)
        refine p_score (g2.seat_43 hf3).K p3 (mk_0 g.R he hr hg h0) (fun M4 hf4 p4 => ?_)
        have hf5 : q_fs lA fA M M4 := hf2.tr (hf3.mono.tr hf4.mono)
        have p4 : pD M4 t (onE t e) (cvE t n e r) (t 1 0) 4 := p4
        refine z_ne w 0 (fun z1 => ?_) (fun z1 => ?_)
        · refine z_ne w 1 (fun z2 => ?_) (fun z2 => ?_)
          · refine ⟨_, rfl, ?_⟩
            refine fin M4 _ hf5 ?_ _ rfl _ (by (first | assumption | (simp only [z_nat, z_lit, ← Int32.ofInt_add, ← Int32.ofInt_sub, ← Int32.ofInt_mul]; exact congrArg Int32.ofInt (by omega)) | (simp only [z_nat, z_lit, ← Int32.ofInt_add, ← Int32.ofInt_sub, ← Int32.ofInt_mul]; done) | exact congrArg Int32.ofInt (by omega) | rfl))
            rw [p4.2.1 j (by omega)]
            exact ⟨fun z => by have := z.2.2.2; omega, fun z => ⟨hj, hp, by omega, by omega⟩⟩
          · refine ⟨_, rfl, ?_⟩
            refine fin M4 _ hf5 ?_ _ rfl _ (by (first | assumption | (simp only [z_nat, z_lit, ← Int32.ofInt_add, ← Int32.ofInt_sub, ← Int32.ofInt_mul]; exact congrArg Int32.ofInt (by omega)) | (simp only [z_nat, z_lit, ← Int32.ofInt_add, ← Int32.ofInt_sub, ← Int32.ofInt_mul]; done) | exact congrArg Int32.ofInt (by omega) | rfl))
            rw [p4.2.2.2 j (by omega)]
            exact ⟨fun z => by have := z.2.2.2; omega, fun z => ⟨hj, hp, by omega, by omega⟩⟩
        · refine ⟨_, rfl, ?_⟩
          refine fin M4 _ hf5 ?_ _ rfl _ (by (first | assumption | (simp only [z_nat, z_lit, ← Int32.ofInt_add, ← Int32.ofInt_sub, ← Int32.ofInt_mul]; exact congrArg Int32.ofInt (by omega)) | (simp only [z_nat, z_lit, ← Int32.ofInt_add, ← Int32.ofInt_sub, ← Int32.ofInt_mul]; done) | exact congrArg Int32.ofInt (by omega) | rfl))
          rw [p4.2.2.1 j (by omega)]
          exact ⟨fun z => by have := z.2.2.2; omega, fun z => ⟨hj, hp, by omega, by omega⟩⟩
      · exact ih2 M2 hf2 _ _ _ (by rw [ct_f (p := drp t n j w e) (by unfold drp; rw [h1]; rfl)]) (by (first | assumption | (simp only [z_nat, z_lit, ← Int32.ofInt_add, ← Int32.ofInt_sub, ← Int32.ofInt_mul]; exact congrArg Int32.ofInt (by omega)) | (simp only [z_nat, z_lit, ← Int32.ofInt_add, ← Int32.ofInt_sub, ← Int32.ofInt_mul]; done) | exact congrArg Int32.ofInt (by omega) | rfl))
set_option maxRecDepth 100000 in
set_option maxHeartbeats 4000000 in
theorem o_dropped {a b : Int32} (g : g_A 43 M t n) (hP : ∀ M', q_fs lA fA M M' → P M') : zOp L xs E nX11_dropped nX12_dropped (d + 8) [.int a, .int b] M P := by
  have h6 := g.R.e6
  have h7 := g.R.r6
  have h11 := g.R.j11
  obtain ⟨w, hw, rfl⟩ := z_of b
  by_cases q : ∃ j, j < t 2 0 ∧ a = nI j
  · obtain ⟨j, hj, rfl⟩ := q
    by_cases qw : 0 ≤ w ∧ w ≤ 2
    · refine w_in 90 [] ?_
      refine d_hasJudge g.C g.R.b (fun _ _ _ => br_f (by decide) ?_) (fun z => absurd ⟨j, hj, rfl⟩ z)
      refine z_lt w 0 (fun z => by omega) (fun _ => ?_)
      refine z_le w 2 (fun _ => ?_) (fun z => by omega)
      refine k2_countPlaced g j w hj qw (fun M1 hf1 => ⟨_, rfl, _, rfl, ?_⟩)
      have g1 := g.A43 hf1
      have W := lp_m (W := fun e M' => ∀ u v x, u = nI (dvN t (drp t n j w) e) → v = nI e → q_G q_mt (L, xs, q_shp) E nX12_dropped (d + 8) 0 0 (q_Q (L, xs, q_shp) E (fun v' M'' => v' = some (.int (nI (dvN t (drp t n j w) (t 8 0)))) ∧ P M'')) 24 [some (.ref 271), some (.int (nI j)), some (.int (Int32.ofInt w)), some (.int u), some (.int v), x] [] M') (J := fun e M' => q_fs lA fA M M') (t 8 0) ?_ ?_ 0 M1 (Nat.zero_le _) hf1
      · refine w_in 90 [24, 38] ?_
        refine c_X12_isJudge g1.R.1 g1.R.b (fun _ _ _ => br_f (by decide) ?_) (fun z => absurd ⟨j, hj, rfl⟩ z)
        refine k_isIn w 0 2 hw (by omega) (by omega) (fun z1 z2 => bn_t (by decide) ?_) (fun z => absurd qw z)
        exact W _ _ _ rfl rfl
      · rintro M' hf u v x rfl rfl
        have g' := g.R.fs hf
        refine w_at 90 [24, 38] ?_
        refine ⟨4, _, by (first | assumption | (simp only [z_nat, z_lit, ← Int32.ofInt_add, ← Int32.ofInt_sub, ← Int32.ofInt_mul]; exact congrArg Int32.ofInt (by omega)) | (simp only [z_nat, z_lit, ← Int32.ofInt_add, ← Int32.ofInt_sub, ← Int32.ofInt_mul]; done) | exact congrArg Int32.ofInt (by omega) | rfl), by (dsimp only; omega), g'.R4, ?_⟩
        exact z_le (t 8 0) (t 8 0) (fun h => ⟨_, rfl, rfl, hP M' hf⟩) (fun h => by omega)
      · rintro e M' he hf ih u v x rfl rfl
        have g' := g.R.fs hf
        have hb := dvN_b g.R (p := drp t n j w) (show e ≤ t 8 0 by omega)
        have W2 := lp_m (W := fun r M2 => ∀ u v, u = nI (dvN t (drp t n j w) e + fb_ct (drp t n j w e) r) → v = nI (r + 1) → q_G q_mt (L, xs, q_shp) E nX12_dropped (d + 8) 0 0 (q_Q (L, xs, q_shp) E (fun v' M'' => v' = some (.int (nI (dvN t (drp t n j w) (t 8 0)))) ∧ P M'')) 38 [some (.ref 271), some (.int (nI j)), some (.int (Int32.ofInt w)), some (.int u), some (.int (nI e)), some (.int v)] [] M2) (J := fun r M2 => q_fs lA fA M M2) (t 0 0) ?_ ?_ 0 M' (Nat.zero_le _) hf
        · refine w_at 90 [24, 38] ?_
          refine ⟨4, _, by (first | assumption | (simp only [z_nat, z_lit, ← Int32.ofInt_add, ← Int32.ofInt_sub, ← Int32.ofInt_mul]; exact congrArg Int32.ofInt (by omega)) | (simp only [z_nat, z_lit, ← Int32.ofInt_add, ← Int32.ofInt_sub, ← Int32.ofInt_mul]; done) | exact congrArg Int32.ofInt (by omega) | rfl), by (dsimp only; omega), g'.R4, ?_⟩
          refine z_le (t 8 0) e (fun h => by omega) (fun h => ?_)
          exact W2 _ _ rfl rfl
        · rintro M2 hf2 u v rfl rfl
          have g2 := g.R.fs hf2
          refine w_at 90 [24, 38] ?_
          refine ⟨0, _, by (first | assumption | (simp only [z_nat, z_lit, ← Int32.ofInt_add, ← Int32.ofInt_sub, ← Int32.ofInt_mul]; exact congrArg Int32.ofInt (by omega)) | (simp only [z_nat, z_lit, ← Int32.ofInt_add, ← Int32.ofInt_sub, ← Int32.ofInt_mul]; done) | exact congrArg Int32.ofInt (by omega) | rfl), by (dsimp only; omega), g2.R0, ?_⟩
          refine z_lt (t 0 0) ((t 0 0 + 1 : Nat) : Int) (fun h => ?_) (fun h => by omega)
          exact ih M2 hf2 _ _ _ rfl (by (first | assumption | (simp only [z_nat, z_lit, ← Int32.ofInt_add, ← Int32.ofInt_sub, ← Int32.ofInt_mul]; exact congrArg Int32.ofInt (by omega)) | (simp only [z_nat, z_lit, ← Int32.ofInt_add, ← Int32.ofInt_sub, ← Int32.ofInt_mul]; done) | exact congrArg Int32.ofInt (by omega) | rfl))
        · rintro r M2 hr hf2 ih2 u v rfl rfl
          have g2 := g.R.fs hf2
          have hc := fb_ct_le (drp t n j w e) r
          refine w_at 90 [24, 38] ?_
          refine ⟨0, _, by (first | assumption | (simp only [z_nat, z_lit, ← Int32.ofInt_add, ← Int32.ofInt_sub, ← Int32.ofInt_mul]; exact congrArg Int32.ofInt (by omega)) | (simp only [z_nat, z_lit, ← Int32.ofInt_add, ← Int32.ofInt_sub, ← Int32.ofInt_mul]; done) | exact congrArg Int32.ofInt (by omega) | rfl), by (dsimp only; omega), g2.R0, ?_⟩
          refine z_lt (t 0 0) ((r + 1 : Nat) : Int) (fun h => by omega) (fun h => ?_)
          refine k_isJudged4 g2 e r j he hr hj (fun h1 => bn_t (by decide) ?_) (fun h1 => bn_f (by decide) ?_)
          · obtain ⟨hg, h0, hp⟩ := jdd_t.mp h1
            have hpr := prt_on g.R he hr hg h0
            have hfb : fat t (onE t e) (cvE t n e r) (t 1 0) j ≤ 2 := by unfold fat; split; omega; split <;> omega
            refine k_laysDive g2 e r he hr (fun M3 hf3 l3 => ?_)
            have hf4 : q_fs lA fA M M3 := hf2.tr hf3.mono
            have g3 := g.R.fs hf4
            refine ⟨1, _, by (first | assumption | (simp only [z_nat, z_lit, ← Int32.ofInt_add, ← Int32.ofInt_sub, ← Int32.ofInt_mul]; exact congrArg Int32.ofInt (by omega)) | (simp only [z_nat, z_lit, ← Int32.ofInt_add, ← Int32.ofInt_sub, ← Int32.ofInt_mul]; done) | exact congrArg Int32.ofInt (by omega) | rfl), by (dsimp only; omega), g3.R1, ?_⟩
            refine k_fateOf g3 l3 j (t 1 0) (-1) hj g.R.p3 (by omega) ?_
            rw [fat_cong hpr]
            refine z_ne (fat t (onE t e) (cvE t n e r) (t 1 0) j) w (fun z5 => ?_) (fun z5 => ?_)
            · exact ih2 M3 hf4 _ _ (by rw [ct_f (p := drp t n j w e) (by unfold drp; rw [h1, decide_eq_false z5]; rfl)]; (first | assumption | (simp only [z_nat, z_lit, ← Int32.ofInt_add, ← Int32.ofInt_sub, ← Int32.ofInt_mul]; exact congrArg Int32.ofInt (by omega)) | (simp only [z_nat, z_lit, ← Int32.ofInt_add, ← Int32.ofInt_sub, ← Int32.ofInt_mul]; done) | exact congrArg Int32.ofInt (by omega) | rfl)) (by (first | assumption | (simp only [z_nat, z_lit, ← Int32.ofInt_add, ← Int32.ofInt_sub, ← Int32.ofInt_mul]; exact congrArg Int32.ofInt (by omega)) | (simp only [z_nat, z_lit, ← Int32.ofInt_add, ← Int32.ofInt_sub, ← Int32.ofInt_mul]; done) | exact congrArg Int32.ofInt (by omega) | rfl))
            · exact ih2 M3 hf4 _ _ (by rw [ct_t (p := drp t n j w e) (by unfold drp; rw [h1, decide_eq_true z5]; rfl)]; (first | assumption | (simp only [z_nat, z_lit, ← Int32.ofInt_add, ← Int32.ofInt_sub, ← Int32.ofInt_mul]; exact congrArg Int32.ofInt (by omega)) | (simp only [z_nat, z_lit, ← Int32.ofInt_add, ← Int32.ofInt_sub, ← Int32.ofInt_mul]; done) | exact congrArg Int32.ofInt (by omega) | rfl)) (by (first | assumption | (simp only [z_nat, z_lit, ← Int32.ofInt_add, ← Int32.ofInt_sub, ← Int32.ofInt_mul]; exact congrArg Int32.ofInt (by omega)) | (simp only [z_nat, z_lit, ← Int32.ofInt_add, ← Int32.ofInt_sub, ← Int32.ofInt_mul]; done) | exact congrArg Int32.ofInt (by omega) | rfl))
          · exact ih2 M2 hf2 _ _ (by rw [ct_f (p := drp t n j w e) (by unfold drp; rw [h1]; rfl)]) (by (first | assumption | (simp only [z_nat, z_lit, ← Int32.ofInt_add, ← Int32.ofInt_sub, ← Int32.ofInt_mul]; exact congrArg Int32.ofInt (by omega)) | (simp only [z_nat, z_lit, ← Int32.ofInt_add, ← Int32.ofInt_sub, ← Int32.ofInt_mul]; done) | exact congrArg Int32.ofInt (by omega) | rfl))
    · have fin : q_C q_mt (L, xs, q_shp) E nX12_dropped (d + 8) 0 0 (.ref 271 :: [.int (nI j), .int (Int32.ofInt w)]) M (fun v' M'' => v' = some (.int (Int32.ofInt (-1))) ∧ P M'') := by
        refine w_in 90 [24, 38] ?_
        refine c_X12_isJudge g.R.1 g.R.b (fun _ _ _ => br_f (by decide) ?_) (fun z => absurd ⟨j, hj, rfl⟩ z)
        exact k_isIn w 0 2 hw (by omega) (by omega) (fun z1 z2 => absurd ⟨z1, z2⟩ qw) (fun _ => bn_f (by decide) ⟨_, rfl, rfl, hP M q_fs.rf⟩)
      refine w_in 90 [] ?_
      refine d_hasJudge g.C g.R.b (fun _ _ _ => br_f (by decide) ?_) (fun z => absurd ⟨j, hj, rfl⟩ z)
      refine z_lt w 0 (fun z => ⟨_, rfl, _, rfl, fin⟩) (fun _ => ?_)
      exact z_le w 2 (fun _ => by omega) (fun z => ⟨_, rfl, _, rfl, fin⟩)
  · refine w_in 90 [] ?_
    refine d_hasJudge g.C g.R.b (fun i hi e => absurd ⟨i, hi, e⟩ q) (fun _ => br_t (by decide) ⟨_, rfl, _, rfl, ?_⟩)
    refine w_in 90 [24, 38] ?_
    exact c_X12_isJudge g.R.1 g.R.b (fun i hi e => absurd ⟨i, hi, e⟩ q) (fun _ => br_t (by decide) ⟨_, rfl, rfl, hP M q_fs.rf⟩)
set_option maxRecDepth 100000 in
set_option maxHeartbeats 4000000 in
theorem k2_totalAnew (g : g_A 43 M t n) {a b c : Int32} (e dr : Nat) (bar : Int) (he : e < t 8 0) (hdr : dr ≤ 3) (hbar : bar = -1 ∨ ∃ j : Nat, j < t 2 0 ∧ bar = j) (hQ : ∀ M', q_fs lA fA M M' → Q (some (.int (Int32.ofInt (toE t n e dr bar)))) M') (ha : a = nI e := by (first | assumption | (simp only [z_nat, z_lit, ← Int32.ofInt_add, ← Int32.ofInt_sub, ← Int32.ofInt_mul]; exact congrArg Int32.ofInt (by omega)) | (simp only [z_nat, z_lit, ← Int32.ofInt_add, ← Int32.ofInt_sub, ← Int32.ofInt_mul]; done) | exact congrArg Int32.ofInt (by omega) | rfl)) (hb : b = Int32.ofInt bar := by (first | assumption | (simp only [z_nat, z_lit, ← Int32.ofInt_add, ← Int32.ofInt_sub, ← Int32.ofInt_mul]; exact congrArg Int32.ofInt (by omega)) | (simp only [z_nat, z_lit, ← Int32.ofInt_add, ← Int32.ofInt_sub, ← Int32.ofInt_mul]; done) | exact congrArg Int32.ofInt (by omega) | rfl)) (hc : c = nI dr := by (first | assumption | (simp only [z_nat, z_lit, ← Int32.ofInt_add, ← Int32.ofInt_sub, ← Int32.ofInt_mul]; exact congrArg Int32.ofInt (by omega)) | (simp only [z_nat, z_lit, ← Int32.ofInt_add, ← Int32.ofInt_sub, ← Int32.ofInt_mul]; done) | exact congrArg Int32.ofInt (by omega) | rfl)) : q_C q_mt (L, xs, q_shp) E nX4_totalAnew (d + 4) 0 0 [.ref 256, .int (a), .int (b), .int (c)] M Q := by
  subst ha hb hc
  have h6 := g.R.e6
  have h7 := g.R.r6
  have h11 := g.R.j11
  have hba := (g.R.bn.2.1 e he).2
  have hbr : -1 ≤ bar ∧ bar ≤ 10 := by
    rcases hbar with z | ⟨j, hj, z⟩ <;> omega
  have hz : ∀ k : Nat, (k : Int) ≤ n (618 + e) - 1 → fb_si (tof t n e dr bar) k = 0 := by
    intro k
    induction k with
    | zero => intro _; rfl
    | succ k ih =>
      intro hk
      rw [fb_si_succ, ih (by omega)]
      unfold tof
      rw [if_neg (by omega)]
      rfl
  have hsb : ∀ k, k ≤ t 0 0 → 0 ≤ fb_si (tof t n e dr bar) k ∧ fb_si (tof t n e dr bar) k ≤ 108000 := fun k hk => by
    have h := si_b (f := tof t n e dr bar) (c := 18000) (k := k) (fun r hr => tof_b g.R he (by omega))
    omega
  have W := lp_m (W := fun r M' => ∀ u v, u = Int32.ofInt (fb_si (tof t n e dr bar) r) → v = nI (r + 1) → q_G q_mt (L, xs, q_shp) E nX4_totalAnew (d + 4) 0 0 (q_Q (L, xs, q_shp) E Q) 16 [some (.ref 256), some (.int (nI e)), some (.int (Int32.ofInt bar)), some (.int (nI dr)), some (.int (u)), some (.int (v))] [] M') (J := fun r M' => q_fs lA fA M M' ∧ n (618 + e) ≤ (r : Int) + 1) (t 0 0) ?_ ?_ (n (618 + e) - 1).toNat M (by omega) ⟨q_fs.rf, by omega⟩
  · refine w_in 90 [16] ?_
    refine ⟨e, _, by (first | assumption | (simp only [z_nat, z_lit, ← Int32.ofInt_add, ← Int32.ofInt_sub, ← Int32.ofInt_mul]; exact congrArg Int32.ofInt (by omega)) | (simp only [z_nat, z_lit, ← Int32.ofInt_add, ← Int32.ofInt_sub, ← Int32.ofInt_mul]; done) | exact congrArg Int32.ofInt (by omega) | rfl), by (dsimp only; omega), g.ba he, ?_⟩
    refine W _ _ ?_ ?_
    · rw [hz _ (by omega)]
    · rw [z_nat, show Int32.ofInt 1 = Int32.ofInt 1 from rfl]
      refine (Int32.ofInt_add _ _).symm.trans (congrArg Int32.ofInt ?_)
      omega
  · rintro M' ⟨hf, hn⟩ u v rfl rfl
    have g' := g.A43 hf
    refine w_at 90 [16] ?_
    refine ⟨_, g'.ro, ?_⟩
    exact z_lt (t 0 0) ((t 0 0 + 1 : Nat) : Int) (fun h => ⟨_, rfl, hQ M' hf⟩) (fun h => by omega)
  · rintro r M' hr ⟨hf, hn⟩ ih u v rfl rfl
    have g' := g.A43 hf
    have hp := ptE_b g.R (dr := t 1 0) (bar := -1) he hr
    have hsr := hsb r (by omega)
    refine w_at 90 [16] ?_
    refine ⟨_, g'.ro, ?_⟩
    refine z_lt (t 0 0) ((r + 1 : Nat) : Int) (fun h => by omega) (fun h => ?_)
    refine k2_pointsOf_43 g'.Z e r he hr (fun hg => ?_) (fun hg => ?_)
    · refine z_lt (ptE t n e r (t 1 0) (-1)) 0 (fun z => by omega) (fun _ => ?_)
      refine k2_isFailed_43 g'.Z e r he hr (fun h0 => br_f (by decide) ?_) (fun h0 => br_t (by decide) ?_)
      · refine ih M' ⟨hf, by omega⟩ _ _ ?_ (by (first | assumption | (simp only [z_nat, z_lit, ← Int32.ofInt_add, ← Int32.ofInt_sub, ← Int32.ofInt_mul]; exact congrArg Int32.ofInt (by omega)) | (simp only [z_nat, z_lit, ← Int32.ofInt_add, ← Int32.ofInt_sub, ← Int32.ofInt_mul]; done) | exact congrArg Int32.ofInt (by omega) | rfl))
        rw [fb_si_succ]
        unfold tof ptE
        rw [if_pos ⟨hn, hg⟩, if_pos h0, Int.add_zero]
      · have hpr := prt_on g.R he hr hg h0
        have hm0 := mk_0 g.R he hr hg h0
        have hs := g.R.bs he hr
        have et : ∀ S : Nat → Bool, (∀ j, j < t 2 0 → S j = prt (fun j => mk n e r j) bar j) → fb_si (tof t n e dr bar) (r + 1) = fb_si (tof t n e dr bar) r + ptS t S (cvE t n e r) dr (t 7 (n (6 * e + r)).toNat) := fun S hS => by
          rw [fb_si_succ]
          unfold tof ptE
          rw [if_pos ⟨hn, hg⟩, if_neg (by omega), ptS_cong hS]
        have hpt := ptE_b g.R (dr := dr) (bar := bar) he hr
        unfold ptE at hpt
        rw [if_neg (by omega)] at hpt
        refine k2_seat_43 g'.Z e r he hr (fun M3 hf3 p3 => ?_)
        refine ⟨_, rfl, ?_⟩
        refine z_eq bar (-1) (fun hb1 => ?_) (fun hb1 => ?_)
        · subst hb1
          have p4 : g_P (q_si M3 238 4 (nI dr)) t (onE t e) (fun j => mk n e r j) (n (432 + (6 * e + r))) (n (468 + (6 * e + r))) (n (504 + (6 * e + r))) (t 7 (n (6 * e + r)).toNat) dr := ⟨p3.1, p3.2.1, p3.2.2.1, p3.2.2.2.1, p3.2.2.2.2.1, p3.2.2.2.2.2.1, rfl, hdr⟩
          have k4 : g_K (q_si M3 238 4 (nI dr)) t := (g'.seat_43 hf3).K
          refine p_score k4 p4 hm0 (fun M4 hf4 p5 => ?_)
          have hf5 : q_fs lA fA M M4 := hf.tr ((hf3.s1 (r := 238) (i := 4) (x := nI dr)).mono.tr hf4.mono)
          have e1 := et (onE t e) (fun j hj => (hpr j hj).symm)
          rw [ptS_cong hpr] at hpt
          refine ih M4 ⟨hf5, by omega⟩ _ _ ?_ (by (first | assumption | (simp only [z_nat, z_lit, ← Int32.ofInt_add, ← Int32.ofInt_sub, ← Int32.ofInt_mul]; exact congrArg Int32.ofInt (by omega)) | (simp only [z_nat, z_lit, ← Int32.ofInt_add, ← Int32.ofInt_sub, ← Int32.ofInt_mul]; done) | exact congrArg Int32.ofInt (by omega) | rfl))
          rw [e1]
          (first | assumption | (simp only [z_nat, z_lit, ← Int32.ofInt_add, ← Int32.ofInt_sub, ← Int32.ofInt_mul]; exact congrArg Int32.ofInt (by omega)) | (simp only [z_nat, z_lit, ← Int32.ofInt_add, ← Int32.ofInt_sub, ← Int32.ofInt_mul]; done) | exact congrArg Int32.ofInt (by omega) | rfl)
        · obtain ⟨j, hj, rfl⟩ := hbar.resolve_left hb1
          refine ⟨_, rfl, ?_⟩
          refine ⟨_, rfl, ?_⟩
          have hpr2 : ∀ i, i < t 2 0 → (onE t e i && !decide (i = j)) = prt (fun j => mk n e r j) (j : Int) i := fun i hi => by
            rw [← hpr i hi]
            unfold prt
            rw [decide_eq_false (p := (i : Int) = -1) (by omega), Bool.not_false, Bool.and_true]
            by_cases q : i = j
            · rw [decide_eq_true q, decide_eq_true (p := (i : Int) = j) (by omega)]
            · rw [decide_eq_false q, decide_eq_false (p := (i : Int) = j) (by omega)]
          have p4 : g_P (q_si (q_si M3 238 4 (nI dr)) 238 5 (M3.1 238 5 &&& (((1 : Int32) <<< (nI j &&& 31)) ^^^ (-1)))) t (fun i => onE t e i && !decide (i = j)) (fun j => mk n e r j) (n (432 + (6 * e + r))) (n (468 + (6 * e + r))) (n (504 + (6 * e + r))) (t 7 (n (6 * e + r)).toNat) dr := ⟨fun i hi => (b_clr (by omega) (by omega)).trans (by rw [p3.1 i hi]), p3.2.1, p3.2.2.1, p3.2.2.2.1, p3.2.2.2.2.1, p3.2.2.2.2.2.1, rfl, hdr⟩
          have k4 : g_K (q_si (q_si M3 238 4 (nI dr)) 238 5 (M3.1 238 5 &&& (((1 : Int32) <<< (nI j &&& 31)) ^^^ (-1)))) t := (g'.seat_43 hf3).K
          refine p_score k4 p4 (fun i hi hi2 => hm0 i hi (Bool.and_eq_true _ _ |>.mp hi2).1) (fun M4 hf4 p5 => ?_)
          have hf5 : q_fs lA fA M M4 := hf.tr (((hf3.s1 (r := 238) (i := 4) (x := nI dr)).s1 (r := 238) (i := 5)).mono.tr hf4.mono)
          have e1 := et _ hpr2
          rw [← ptS_cong hpr2] at hpt
          refine ih M4 ⟨hf5, by omega⟩ _ _ ?_ (by (first | assumption | (simp only [z_nat, z_lit, ← Int32.ofInt_add, ← Int32.ofInt_sub, ← Int32.ofInt_mul]; exact congrArg Int32.ofInt (by omega)) | (simp only [z_nat, z_lit, ← Int32.ofInt_add, ← Int32.ofInt_sub, ← Int32.ofInt_mul]; done) | exact congrArg Int32.ofInt (by omega) | rfl))
          rw [e1]
          (first | assumption | (simp only [z_nat, z_lit, ← Int32.ofInt_add, ← Int32.ofInt_sub, ← Int32.ofInt_mul]; exact congrArg Int32.ofInt (by omega)) | (simp only [z_nat, z_lit, ← Int32.ofInt_add, ← Int32.ofInt_sub, ← Int32.ofInt_mul]; done) | exact congrArg Int32.ofInt (by omega) | rfl)
    · refine z_lt (-1) 0 (fun _ => ?_) (fun z => by omega)
      refine ih M' ⟨hf, by omega⟩ _ _ ?_ (by (first | assumption | (simp only [z_nat, z_lit, ← Int32.ofInt_add, ← Int32.ofInt_sub, ← Int32.ofInt_mul]; exact congrArg Int32.ofInt (by omega)) | (simp only [z_nat, z_lit, ← Int32.ofInt_add, ← Int32.ofInt_sub, ← Int32.ofInt_mul]; done) | exact congrArg Int32.ofInt (by omega) | rfl))
      rw [fb_si_succ]
      unfold tof
      rw [if_neg (by omega), Int.add_zero]
end AN
