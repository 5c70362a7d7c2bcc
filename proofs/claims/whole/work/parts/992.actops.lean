/-! the calls mark, balk, cap, half, fail, give, out -/
section AP
variable {L : Nat} {xs : Nat → Int32} {E : q_E} {d : Nat} {M : q_M} {t : q_T} {n : sN} {Q : Option Value → q_M → Prop} {P : q_M → Prop}
set_option maxRecDepth 100000 in
set_option maxHeartbeats 4000000 in
theorem k_markBad (g : g_R M t n) {a b : Int32} (h : ¬ ((∃ j, j < t 2 0 ∧ a = nI j) ∧ ∃ w : Int, (0 ≤ w ∧ w ≤ 20) ∧ b = Int32.ofInt w)) (hQ : Q (some (.int (Int32.ofInt (-2)))) M) : q_C q_mt (L, xs, q_shp) E nX12_markBy (d + 3) 0 0 [.ref 271, .int (a), .int (b)] M Q := by
  obtain ⟨w, hw, rfl⟩ := z_of b
  refine w_in 90 [] ?_
  refine c_X12_isJudge g.1 g.b (fun j hj e => br_f (by decide) ?_) (fun z => br_t (by decide) ⟨_, rfl, hQ⟩)
  exact k_isIn w 0 20 hw (by omega) (by omega) (fun z1 z2 => absurd ⟨⟨j, hj, e⟩, w, ⟨z1, z2⟩, rfl⟩ h) (fun z => bn_f (by decide) ⟨_, rfl, hQ⟩)
set_option maxRecDepth 100000 in
set_option maxHeartbeats 4000000 in
theorem k_capBad (g : g_R M t n) {a : Int32} (h : ¬ ∃ w : Int, (0 ≤ w ∧ w ≤ 20) ∧ a = Int32.ofInt w) (hQ : Q (some (.int (Int32.ofInt (-2)))) M) : q_C q_mt (L, xs, q_shp) E nX12_capBy (d + 3) 0 0 [.ref 271, .int (a)] M Q := by
  obtain ⟨w, hw, rfl⟩ := z_of a
  refine w_in 90 [] ?_
  exact k_isIn w 0 20 hw (by omega) (by omega) (fun z1 z2 => absurd ⟨w, ⟨z1, z2⟩, rfl⟩ h) (fun z => bn_f (by decide) ⟨_, rfl, hQ⟩)
set_option maxRecDepth 100000 in
set_option maxHeartbeats 4000000 in
theorem k_halfBad (g : g_R M t n) {a : Int32} (h : ¬ ∃ k : Nat, k < 2 ∧ a = nI k) (hQ : Q (some (.int (Int32.ofInt (-2)))) M) : q_C q_mt (L, xs, q_shp) E nX12_halfBy (d + 3) 0 0 [.ref 271, .int (a)] M Q := by
  obtain ⟨w, hw, rfl⟩ := z_of a
  refine w_in 90 [] ?_
  exact k_isIn w 0 1 hw (by omega) (by omega) (fun z1 z2 => absurd ⟨w.toNat, by omega, by rw [z_nat]; exact congrArg Int32.ofInt (by omega)⟩ h) (fun z => bn_f (by decide) ⟨_, rfl, hQ⟩)
set_option maxRecDepth 100000 in
set_option maxHeartbeats 4000000 in
theorem k_outBad (g : g_R M t n) {a : Int32} (h : ¬ ∃ e, e < t 8 0 ∧ a = nI e) (hQ : Q (some (.int (Int32.ofInt (-2)))) M) : q_C q_mt (L, xs, q_shp) E nX12_outBy (d + 12) 0 0 [.ref 271, .int (a)] M Q := by
  refine w_in 90 [] ?_
  exact c_X12_isEntrant g.1 g.b (fun e he z => absurd ⟨e, he, z⟩ h) (fun z => bn_f (by decide) ⟨_, rfl, hQ⟩)
set_option maxRecDepth 100000 in
set_option maxHeartbeats 4000000 in
theorem o_balk {p s : Nat} {H : Nat → sN} (h : iH M t n p s H) (hP : ∀ M' m p' s' H', iH M' t m p' s' H' → q_fo M M' → P M') : zOp L xs E nX11_balk nX12_balk (d + 20) [] M P := by
  have hR := h.2.1
  have g := h.1.1
  have hJ := h.1.2
  have ok : aOK t (aBalk t n) := aBalk_ok hJ g.R.A
  refine w_in 90 [] ?_
  refine k2_note p hR.2.2.1 hR.1 (fun M1 hf1 he1 => ?_)
  have g1 := g.rg hf1 hR.1
  have f68 : ∀ i, M1.1 68 i = M.1 68 i := fun i => by rw [hf1.c1 68 (fun i => rg_scr (by omega))]
  refine k2_doBalk_43 g1.Z hJ  ⟨fun eR => ?_, fun v m eR M2 hf2 g2 => ?_⟩
  · refine k2_settle (-3) (by omega) (p := p) (s := s) ((f68 1).trans hR.2.2.1) ((f68 2).trans hR.2.2.2.1) hR.1 hR.2.1 (fun _ => ⟨_, rfl, _, rfl, ?_⟩) (fun z => by omega)
    refine w_in 90 [] ?_
    refine k_laysAside (fun M2 hf2 hm2 => ?_)
    obtain ⟨i2, fo2⟩ := act_no h hf1 hf2
    refine k_balkBy i2.1.1.R hJ  ⟨fun _ => ?_, fun v m e' => (by rw [eR] at e'; cases e')⟩
    exact k_acted (-3) (by omega) (n := n) i2.2.2.1 (fun z => by omega) (fun _ => ⟨_, rfl, rfl, hP M2 n p s H i2 fo2⟩) (fun z => by omega)
  · obtain ⟨hJm, v0, v1⟩ := ok v m eR
    have hf2' : q_fs lC_43 fC M1 M2 := hf2.mono
    have g68 : M2.1 68 = M1.1 68 := hf2'.c1 68
    refine k2_settle v (by omega) (p := p) (s := s) (by rw [g68]; exact (f68 1).trans hR.2.2.1) (by rw [g68]; exact (f68 2).trans hR.2.2.2.1) hR.1 hR.2.1 (fun z => by omega) (fun _ => ⟨_, rfl, _, rfl, ?_⟩)
    obtain ⟨⟨x1, x2, x3⟩, x4, x5⟩ := act_c h hf1 he1 hf2' g2
    refine w_in 90 [] ?_
    refine k_laysAside (fun M4 hf4 hm4 => ?_)
    have hrow : ∀ k, k < 634 → M4.1 285 k = Int32.ofInt (n k) := fun k hk => (hm4 k hk).trans (x1.at hk)
    refine k_balkBy (x1.fs hf4) hJ  ⟨fun e' => (by rw [eR] at e'; cases e'), fun v' m' e' M5 hf5 g5 => ?_⟩
    rw [eR] at e'
    cases e'
    have hf5' : q_fs lG fD M4 M5 := hf5.mono
    refine k_acted v (by omega) (n := n) ((x3.eq (by rw [hf4.c1 271]) (hf4.c1 286)).eq (hf5'.p1 271 28) (hf5'.c1 286)) (fun _ k hk => by rw [hf5'.c1 285]; exact hrow k hk) (fun z => by omega) (fun _ M6 hf6 hH6 => ⟨_, rfl, rfl, ?_⟩)
    obtain ⟨i6, fo6⟩ := act_r hR.2.1 hJ h.2.2.2 hJm x2 x4 x5 hf4 hf5' g5 hf6 hH6
    exact hP M6 _ _ _ _ i6 fo6
set_option maxRecDepth 100000 in
set_option maxHeartbeats 4000000 in
theorem o_fail {p s : Nat} {H : Nat → sN} (h : iH M t n p s H) (hP : ∀ M' m p' s' H', iH M' t m p' s' H' → q_fo M M' → P M') : zOp L xs E nX11_fail nX12_fail (d + 20) [] M P := by
  have hR := h.2.1
  have g := h.1.1
  have hJ := h.1.2
  have ok : aOK t (aFail t n) := aFail_ok hJ g.R.A
  refine w_in 90 [] ?_
  refine k2_note p hR.2.2.1 hR.1 (fun M1 hf1 he1 => ?_)
  have g1 := g.rg hf1 hR.1
  have f68 : ∀ i, M1.1 68 i = M.1 68 i := fun i => by rw [hf1.c1 68 (fun i => rg_scr (by omega))]
  refine k2_doFail_43 g1.Z hJ  ⟨fun eR => ?_, fun v m eR M2 hf2 g2 => ?_⟩
  · refine k2_settle (-3) (by omega) (p := p) (s := s) ((f68 1).trans hR.2.2.1) ((f68 2).trans hR.2.2.2.1) hR.1 hR.2.1 (fun _ => ⟨_, rfl, _, rfl, ?_⟩) (fun z => by omega)
    refine w_in 90 [] ?_
    refine k_laysAside (fun M2 hf2 hm2 => ?_)
    obtain ⟨i2, fo2⟩ := act_no h hf1 hf2
    refine k_failBy i2.1.1.R hJ  ⟨fun _ => ?_, fun v m e' => (by rw [eR] at e'; cases e')⟩
    exact k_acted (-3) (by omega) (n := n) i2.2.2.1 (fun z => by omega) (fun _ => ⟨_, rfl, rfl, hP M2 n p s H i2 fo2⟩) (fun z => by omega)
  · obtain ⟨hJm, v0, v1⟩ := ok v m eR
    have hf2' : q_fs lC_43 fC M1 M2 := hf2.mono
    have g68 : M2.1 68 = M1.1 68 := hf2'.c1 68
    refine k2_settle v (by omega) (p := p) (s := s) (by rw [g68]; exact (f68 1).trans hR.2.2.1) (by rw [g68]; exact (f68 2).trans hR.2.2.2.1) hR.1 hR.2.1 (fun z => by omega) (fun _ => ⟨_, rfl, _, rfl, ?_⟩)
    obtain ⟨⟨x1, x2, x3⟩, x4, x5⟩ := act_c h hf1 he1 hf2' g2
    refine w_in 90 [] ?_
    refine k_laysAside (fun M4 hf4 hm4 => ?_)
    have hrow : ∀ k, k < 634 → M4.1 285 k = Int32.ofInt (n k) := fun k hk => (hm4 k hk).trans (x1.at hk)
    refine k_failBy (x1.fs hf4) hJ  ⟨fun e' => (by rw [eR] at e'; cases e'), fun v' m' e' M5 hf5 g5 => ?_⟩
    rw [eR] at e'
    cases e'
    have hf5' : q_fs lG fD M4 M5 := hf5.mono
    refine k_acted v (by omega) (n := n) ((x3.eq (by rw [hf4.c1 271]) (hf4.c1 286)).eq (hf5'.p1 271 28) (hf5'.c1 286)) (fun _ k hk => by rw [hf5'.c1 285]; exact hrow k hk) (fun z => by omega) (fun _ M6 hf6 hH6 => ⟨_, rfl, rfl, ?_⟩)
    obtain ⟨i6, fo6⟩ := act_r hR.2.1 hJ h.2.2.2 hJm x2 x4 x5 hf4 hf5' g5 hf6 hH6
    exact hP M6 _ _ _ _ i6 fo6
set_option maxRecDepth 100000 in
set_option maxHeartbeats 4000000 in
theorem o_give {p s : Nat} {H : Nat → sN} (h : iH M t n p s H) (hP : ∀ M' m p' s' H', iH M' t m p' s' H' → q_fo M M' → P M') : zOp L xs E nX11_give nX12_give (d + 20) [] M P := by
  have hR := h.2.1
  have g := h.1.1
  have hJ := h.1.2
  obtain ⟨R, hRR⟩ := isGv_ex hJ g.R.A
  have ok : aOK t (R) := hRR.ok hJ g.R.A
  refine w_in 90 [] ?_
  refine k2_note p hR.2.2.1 hR.1 (fun M1 hf1 he1 => ?_)
  have g1 := g.rg hf1 hR.1
  have f68 : ∀ i, M1.1 68 i = M.1 68 i := fun i => by rw [hf1.c1 68 (fun i => rg_scr (by omega))]
  refine k2_doGive_43 g1.Z hJ hRR ⟨fun eR => ?_, fun v m eR M2 hf2 g2 => ?_⟩
  · refine k2_settle (-3) (by omega) (p := p) (s := s) ((f68 1).trans hR.2.2.1) ((f68 2).trans hR.2.2.2.1) hR.1 hR.2.1 (fun _ => ⟨_, rfl, _, rfl, ?_⟩) (fun z => by omega)
    refine w_in 90 [] ?_
    refine k_laysAside (fun M2 hf2 hm2 => ?_)
    obtain ⟨i2, fo2⟩ := act_no h hf1 hf2
    refine k_giveBy i2.1.1.R hJ hRR ⟨fun _ => ?_, fun v m e' => (by rw [eR] at e'; cases e')⟩
    exact k_acted (-3) (by omega) (n := n) i2.2.2.1 (fun z => by omega) (fun _ => ⟨_, rfl, rfl, hP M2 n p s H i2 fo2⟩) (fun z => by omega)
  · obtain ⟨hJm, v0, v1⟩ := ok v m eR
    have hf2' : q_fs lC_43 fC M1 M2 := hf2.mono
    have g68 : M2.1 68 = M1.1 68 := hf2'.c1 68
    refine k2_settle v (by omega) (p := p) (s := s) (by rw [g68]; exact (f68 1).trans hR.2.2.1) (by rw [g68]; exact (f68 2).trans hR.2.2.2.1) hR.1 hR.2.1 (fun z => by omega) (fun _ => ⟨_, rfl, _, rfl, ?_⟩)
    obtain ⟨⟨x1, x2, x3⟩, x4, x5⟩ := act_c h hf1 he1 hf2' g2
    refine w_in 90 [] ?_
    refine k_laysAside (fun M4 hf4 hm4 => ?_)
    have hrow : ∀ k, k < 634 → M4.1 285 k = Int32.ofInt (n k) := fun k hk => (hm4 k hk).trans (x1.at hk)
    refine k_giveBy (x1.fs hf4) hJ hRR ⟨fun e' => (by rw [eR] at e'; cases e'), fun v' m' e' M5 hf5 g5 => ?_⟩
    rw [eR] at e'
    cases e'
    have hf5' : q_fs lG fD M4 M5 := hf5.mono
    refine k_acted v (by omega) (n := n) ((x3.eq (by rw [hf4.c1 271]) (hf4.c1 286)).eq (hf5'.p1 271 28) (hf5'.c1 286)) (fun _ k hk => by rw [hf5'.c1 285]; exact hrow k hk) (fun z => by omega) (fun _ M6 hf6 hH6 => ⟨_, rfl, rfl, ?_⟩)
    obtain ⟨i6, fo6⟩ := act_r hR.2.1 hJ h.2.2.2 hJm x2 x4 x5 hf4 hf5' g5 hf6 hH6
    exact hP M6 _ _ _ _ i6 fo6
set_option maxRecDepth 100000 in
set_option maxHeartbeats 4000000 in
theorem o_out {a : Int32} {p s : Nat} {H : Nat → sN} (h : iH M t n p s H) (hP : ∀ M' m p' s' H', iH M' t m p' s' H' → q_fo M M' → P M') : zOp L xs E nX11_out nX12_out (d + 20) [.int a] M P := by
  have hR := h.2.1
  have g := h.1.1
  have hJ := h.1.2
  by_cases q : ∃ e, e < t 8 0 ∧ a = nI e
  · obtain ⟨e, he, rfl⟩ := q
    obtain ⟨R, hRR⟩ := isOt_ex hJ g.R.A he
    have ok : aOK t (R) := hRR.ok hJ g.R.A he
    refine w_in 90 [] ?_
    refine d_hasEntrant g.C g.R.b (fun _ _ _ => bn_t (by decide) ?_) (fun z => absurd ⟨e, he, rfl⟩ z)
    refine k2_note p hR.2.2.1 hR.1 (fun M1 hf1 he1 => ?_)
    have g1 := g.rg hf1 hR.1
    have f68 : ∀ i, M1.1 68 i = M.1 68 i := fun i => by rw [hf1.c1 68 (fun i => rg_scr (by omega))]
    refine k2_doOut_43 g1.Z hJ e he hRR ⟨fun eR => ?_, fun v m eR M2 hf2 g2 => ?_⟩
    · refine k2_settle (-3) (by omega) (p := p) (s := s) ((f68 1).trans hR.2.2.1) ((f68 2).trans hR.2.2.2.1) hR.1 hR.2.1 (fun _ => ⟨_, rfl, _, rfl, ?_⟩) (fun z => by omega)
      refine w_in 90 [] ?_
      refine k_laysAside (fun M2 hf2 hm2 => ?_)
      obtain ⟨i2, fo2⟩ := act_no h hf1 hf2
      refine k_outBy i2.1.1.R hJ e he hRR ⟨fun _ => ?_, fun v m e' => (by rw [eR] at e'; cases e')⟩
      exact k_acted (-3) (by omega) (n := n) i2.2.2.1 (fun z => by omega) (fun _ => ⟨_, rfl, rfl, hP M2 n p s H i2 fo2⟩) (fun z => by omega)
    · obtain ⟨hJm, v0, v1⟩ := ok v m eR
      have hf2' : q_fs lC_43 fC M1 M2 := hf2.mono
      have g68 : M2.1 68 = M1.1 68 := hf2'.c1 68
      refine k2_settle v (by omega) (p := p) (s := s) (by rw [g68]; exact (f68 1).trans hR.2.2.1) (by rw [g68]; exact (f68 2).trans hR.2.2.2.1) hR.1 hR.2.1 (fun z => by omega) (fun _ => ⟨_, rfl, _, rfl, ?_⟩)
      obtain ⟨⟨x1, x2, x3⟩, x4, x5⟩ := act_c h hf1 he1 hf2' g2
      refine w_in 90 [] ?_
      refine k_laysAside (fun M4 hf4 hm4 => ?_)
      have hrow : ∀ k, k < 634 → M4.1 285 k = Int32.ofInt (n k) := fun k hk => (hm4 k hk).trans (x1.at hk)
      refine k_outBy (x1.fs hf4) hJ e he hRR ⟨fun e' => (by rw [eR] at e'; cases e'), fun v' m' e' M5 hf5 g5 => ?_⟩
      rw [eR] at e'
      cases e'
      have hf5' : q_fs lG fD M4 M5 := hf5.mono
      refine k_acted v (by omega) (n := n) ((x3.eq (by rw [hf4.c1 271]) (hf4.c1 286)).eq (hf5'.p1 271 28) (hf5'.c1 286)) (fun _ k hk => by rw [hf5'.c1 285]; exact hrow k hk) (fun z => by omega) (fun _ M6 hf6 hH6 => ⟨_, rfl, rfl, ?_⟩)
      obtain ⟨i6, fo6⟩ := act_r hR.2.1 hJ h.2.2.2 hJm x2 x4 x5 hf4 hf5' g5 hf6 hH6
      exact hP M6 _ _ _ _ i6 fo6
  · have fin : q_C q_mt (L, xs, q_shp) E nX12_out (d + 20) 0 0 (.ref 271 :: [.int a]) M (fun v' M'' => v' = some (.int (Int32.ofInt (-2))) ∧ P M'') := by
      refine w_in 90 [] ?_
      refine k_laysAside (fun M2 hf2 hm2 => ?_)
      obtain ⟨i2, fo2⟩ := act_0 h hf2
      refine k_outBad i2.1.1.R q ?_
      exact k_acted (-2) (by omega) (n := n) i2.2.2.1 (fun z => by omega) (fun _ => ⟨_, rfl, rfl, hP M2 n p s H i2 fo2⟩) (fun z => by omega)
    refine w_in 90 [] ?_
    exact d_hasEntrant g.C g.R.b (fun e he z => absurd ⟨e, he, z⟩ q) (fun z => bn_f (by decide) ⟨_, rfl, _, rfl, fin⟩)
set_option maxRecDepth 100000 in
set_option maxHeartbeats 4000000 in
theorem o_cap {a : Int32} {p s : Nat} {H : Nat → sN} (h : iH M t n p s H) (hP : ∀ M' m p' s' H', iH M' t m p' s' H' → q_fo M M' → P M') : zOp L xs E nX11_cap nX12_cap (d + 20) [.int a] M P := by
  have hR := h.2.1
  have g := h.1.1
  have hJ := h.1.2
  by_cases q : ∃ w : Int, (0 ≤ w ∧ w ≤ 20) ∧ a = Int32.ofInt w
  · obtain ⟨w, hw, rfl⟩ := q
    have ok : aOK t (aCap t n w) := aCap_ok hJ g.R.A hw
    refine w_in 90 [] ?_
    refine k2_isAward w (by omega) (fun _ _ => bn_t (by decide) ?_) (fun z => absurd hw z)
    refine k2_note p hR.2.2.1 hR.1 (fun M1 hf1 he1 => ?_)
    have g1 := g.rg hf1 hR.1
    have f68 : ∀ i, M1.1 68 i = M.1 68 i := fun i => by rw [hf1.c1 68 (fun i => rg_scr (by omega))]
    refine k2_doCap_43 g1.Z hJ w hw ⟨fun eR => ?_, fun v m eR M2 hf2 g2 => ?_⟩
    · refine k2_settle (-3) (by omega) (p := p) (s := s) ((f68 1).trans hR.2.2.1) ((f68 2).trans hR.2.2.2.1) hR.1 hR.2.1 (fun _ => ⟨_, rfl, _, rfl, ?_⟩) (fun z => by omega)
      refine w_in 90 [] ?_
      refine k_laysAside (fun M2 hf2 hm2 => ?_)
      obtain ⟨i2, fo2⟩ := act_no h hf1 hf2
      refine k_capBy i2.1.1.R hJ w hw ⟨fun _ => ?_, fun v m e' => (by rw [eR] at e'; cases e')⟩
      exact k_acted (-3) (by omega) (n := n) i2.2.2.1 (fun z => by omega) (fun _ => ⟨_, rfl, rfl, hP M2 n p s H i2 fo2⟩) (fun z => by omega)
    · obtain ⟨hJm, v0, v1⟩ := ok v m eR
      have hf2' : q_fs lC_43 fC M1 M2 := hf2.mono
      have g68 : M2.1 68 = M1.1 68 := hf2'.c1 68
      refine k2_settle v (by omega) (p := p) (s := s) (by rw [g68]; exact (f68 1).trans hR.2.2.1) (by rw [g68]; exact (f68 2).trans hR.2.2.2.1) hR.1 hR.2.1 (fun z => by omega) (fun _ => ⟨_, rfl, _, rfl, ?_⟩)
      obtain ⟨⟨x1, x2, x3⟩, x4, x5⟩ := act_c h hf1 he1 hf2' g2
      refine w_in 90 [] ?_
      refine k_laysAside (fun M4 hf4 hm4 => ?_)
      have hrow : ∀ k, k < 634 → M4.1 285 k = Int32.ofInt (n k) := fun k hk => (hm4 k hk).trans (x1.at hk)
      refine k_capBy (x1.fs hf4) hJ w hw ⟨fun e' => (by rw [eR] at e'; cases e'), fun v' m' e' M5 hf5 g5 => ?_⟩
      rw [eR] at e'
      cases e'
      have hf5' : q_fs lG fD M4 M5 := hf5.mono
      refine k_acted v (by omega) (n := n) ((x3.eq (by rw [hf4.c1 271]) (hf4.c1 286)).eq (hf5'.p1 271 28) (hf5'.c1 286)) (fun _ k hk => by rw [hf5'.c1 285]; exact hrow k hk) (fun z => by omega) (fun _ M6 hf6 hH6 => ⟨_, rfl, rfl, ?_⟩)
      obtain ⟨i6, fo6⟩ := act_r hR.2.1 hJ h.2.2.2 hJm x2 x4 x5 hf4 hf5' g5 hf6 hH6
      exact hP M6 _ _ _ _ i6 fo6
  · have fin : q_C q_mt (L, xs, q_shp) E nX12_cap (d + 20) 0 0 (.ref 271 :: [.int a]) M (fun v' M'' => v' = some (.int (Int32.ofInt (-2))) ∧ P M'') := by
      refine w_in 90 [] ?_
      refine k_laysAside (fun M2 hf2 hm2 => ?_)
      obtain ⟨i2, fo2⟩ := act_0 h hf2
      refine k_capBad i2.1.1.R q ?_
      exact k_acted (-2) (by omega) (n := n) i2.2.2.1 (fun z => by omega) (fun _ => ⟨_, rfl, rfl, hP M2 n p s H i2 fo2⟩) (fun z => by omega)
    obtain ⟨w, hw, rfl⟩ := z_of a
    refine w_in 90 [] ?_
    exact k2_isAward w hw (fun z1 z2 => absurd ⟨w, ⟨z1, z2⟩, rfl⟩ q) (fun z => bn_f (by decide) ⟨_, rfl, _, rfl, fin⟩)
set_option maxRecDepth 100000 in
set_option maxHeartbeats 4000000 in
theorem o_half {a : Int32} {p s : Nat} {H : Nat → sN} (h : iH M t n p s H) (hP : ∀ M' m p' s' H', iH M' t m p' s' H' → q_fo M M' → P M') : zOp L xs E nX11_half nX12_half (d + 20) [.int a] M P := by
  have hR := h.2.1
  have g := h.1.1
  have hJ := h.1.2
  by_cases q : ∃ k : Nat, k < 2 ∧ a = nI k
  · obtain ⟨k, hk, rfl⟩ := q
    have ok : aOK t (aHalf t n k) := aHalf_ok hJ g.R.A hk
    refine w_in 90 [] ?_
    refine z_lt (k : Int) 0 (fun z => by omega) (fun _ => ?_)
    refine z_le (k : Int) 1 (fun _ => ?_) (fun z => by omega)
    refine k2_note p hR.2.2.1 hR.1 (fun M1 hf1 he1 => ?_)
    have g1 := g.rg hf1 hR.1
    have f68 : ∀ i, M1.1 68 i = M.1 68 i := fun i => by rw [hf1.c1 68 (fun i => rg_scr (by omega))]
    refine k2_doHalf_43 g1.Z hJ k hk ⟨fun eR => ?_, fun v m eR M2 hf2 g2 => ?_⟩
    · refine k2_settle (-3) (by omega) (p := p) (s := s) ((f68 1).trans hR.2.2.1) ((f68 2).trans hR.2.2.2.1) hR.1 hR.2.1 (fun _ => ⟨_, rfl, _, rfl, ?_⟩) (fun z => by omega)
      refine w_in 90 [] ?_
      refine k_laysAside (fun M2 hf2 hm2 => ?_)
      obtain ⟨i2, fo2⟩ := act_no h hf1 hf2
      refine k_halfBy i2.1.1.R hJ k hk ⟨fun _ => ?_, fun v m e' => (by rw [eR] at e'; cases e')⟩
      exact k_acted (-3) (by omega) (n := n) i2.2.2.1 (fun z => by omega) (fun _ => ⟨_, rfl, rfl, hP M2 n p s H i2 fo2⟩) (fun z => by omega)
    · obtain ⟨hJm, v0, v1⟩ := ok v m eR
      have hf2' : q_fs lC_43 fC M1 M2 := hf2.mono
      have g68 : M2.1 68 = M1.1 68 := hf2'.c1 68
      refine k2_settle v (by omega) (p := p) (s := s) (by rw [g68]; exact (f68 1).trans hR.2.2.1) (by rw [g68]; exact (f68 2).trans hR.2.2.2.1) hR.1 hR.2.1 (fun z => by omega) (fun _ => ⟨_, rfl, _, rfl, ?_⟩)
      obtain ⟨⟨x1, x2, x3⟩, x4, x5⟩ := act_c h hf1 he1 hf2' g2
      refine w_in 90 [] ?_
      refine k_laysAside (fun M4 hf4 hm4 => ?_)
      have hrow : ∀ k, k < 634 → M4.1 285 k = Int32.ofInt (n k) := fun k hk => (hm4 k hk).trans (x1.at hk)
      refine k_halfBy (x1.fs hf4) hJ k hk ⟨fun e' => (by rw [eR] at e'; cases e'), fun v' m' e' M5 hf5 g5 => ?_⟩
      rw [eR] at e'
      cases e'
      have hf5' : q_fs lG fD M4 M5 := hf5.mono
      refine k_acted v (by omega) (n := n) ((x3.eq (by rw [hf4.c1 271]) (hf4.c1 286)).eq (hf5'.p1 271 28) (hf5'.c1 286)) (fun _ k hk => by rw [hf5'.c1 285]; exact hrow k hk) (fun z => by omega) (fun _ M6 hf6 hH6 => ⟨_, rfl, rfl, ?_⟩)
      obtain ⟨i6, fo6⟩ := act_r hR.2.1 hJ h.2.2.2 hJm x2 x4 x5 hf4 hf5' g5 hf6 hH6
      exact hP M6 _ _ _ _ i6 fo6
  · have fin : q_C q_mt (L, xs, q_shp) E nX12_half (d + 20) 0 0 (.ref 271 :: [.int a]) M (fun v' M'' => v' = some (.int (Int32.ofInt (-2))) ∧ P M'') := by
      refine w_in 90 [] ?_
      refine k_laysAside (fun M2 hf2 hm2 => ?_)
      obtain ⟨i2, fo2⟩ := act_0 h hf2
      refine k_halfBad i2.1.1.R q ?_
      exact k_acted (-2) (by omega) (n := n) i2.2.2.1 (fun z => by omega) (fun _ => ⟨_, rfl, rfl, hP M2 n p s H i2 fo2⟩) (fun z => by omega)
    obtain ⟨w, hw, rfl⟩ := z_of a
    refine w_in 90 [] ?_
    refine z_lt w 0 (fun z => ⟨_, rfl, _, rfl, fin⟩) (fun z0 => ?_)
    exact z_le w 1 (fun z => absurd ⟨w.toNat, by omega, by rw [z_nat]; exact congrArg Int32.ofInt (by omega)⟩ q) (fun z => ⟨_, rfl, _, rfl, fin⟩)
set_option maxRecDepth 100000 in
set_option maxHeartbeats 4000000 in
theorem o_mark {a b : Int32} {p s : Nat} {H : Nat → sN} (h : iH M t n p s H) (hP : ∀ M' m p' s' H', iH M' t m p' s' H' → q_fo M M' → P M') : zOp L xs E nX11_mark nX12_mark (d + 20) [.int a, .int b] M P := by
  have hR := h.2.1
  have g := h.1.1
  have hJ := h.1.2
  by_cases q : (∃ j, j < t 2 0 ∧ a = nI j) ∧ ∃ w : Int, (0 ≤ w ∧ w ≤ 20) ∧ b = Int32.ofInt w
  · obtain ⟨⟨j, hj, rfl⟩, w, hw, rfl⟩ := q
    have ok : aOK t (aMark t n j w) := aMark_ok hJ g.R.A hj hw
    refine w_in 90 [] ?_
    refine d_hasJudge g.C g.R.b (fun _ _ _ => br_f (by decide) ?_) (fun z => absurd ⟨j, hj, rfl⟩ z)
    refine k2_isAward w (by omega) (fun _ _ => bn_t (by decide) ?_) (fun z => absurd hw z)
    refine k2_note p hR.2.2.1 hR.1 (fun M1 hf1 he1 => ?_)
    have g1 := g.rg hf1 hR.1
    have f68 : ∀ i, M1.1 68 i = M.1 68 i := fun i => by rw [hf1.c1 68 (fun i => rg_scr (by omega))]
    refine k2_doMark_43 g1.Z hJ j w hj hw ⟨fun eR => ?_, fun v m eR M2 hf2 g2 => ?_⟩
    · refine k2_settle (-3) (by omega) (p := p) (s := s) ((f68 1).trans hR.2.2.1) ((f68 2).trans hR.2.2.2.1) hR.1 hR.2.1 (fun _ => ⟨_, rfl, _, rfl, ?_⟩) (fun z => by omega)
      refine w_in 90 [] ?_
      refine k_laysAside (fun M2 hf2 hm2 => ?_)
      obtain ⟨i2, fo2⟩ := act_no h hf1 hf2
      refine k_markBy i2.1.1.R hJ j w hj hw ⟨fun _ => ?_, fun v m e' => (by rw [eR] at e'; cases e')⟩
      exact k_acted (-3) (by omega) (n := n) i2.2.2.1 (fun z => by omega) (fun _ => ⟨_, rfl, rfl, hP M2 n p s H i2 fo2⟩) (fun z => by omega)
    · obtain ⟨hJm, v0, v1⟩ := ok v m eR
      have hf2' : q_fs lC_43 fC M1 M2 := hf2.mono
      have g68 : M2.1 68 = M1.1 68 := hf2'.c1 68
      refine k2_settle v (by omega) (p := p) (s := s) (by rw [g68]; exact (f68 1).trans hR.2.2.1) (by rw [g68]; exact (f68 2).trans hR.2.2.2.1) hR.1 hR.2.1 (fun z => by omega) (fun _ => ⟨_, rfl, _, rfl, ?_⟩)
      obtain ⟨⟨x1, x2, x3⟩, x4, x5⟩ := act_c h hf1 he1 hf2' g2
      refine w_in 90 [] ?_
      refine k_laysAside (fun M4 hf4 hm4 => ?_)
      have hrow : ∀ k, k < 634 → M4.1 285 k = Int32.ofInt (n k) := fun k hk => (hm4 k hk).trans (x1.at hk)
      refine k_markBy (x1.fs hf4) hJ j w hj hw ⟨fun e' => (by rw [eR] at e'; cases e'), fun v' m' e' M5 hf5 g5 => ?_⟩
      rw [eR] at e'
      cases e'
      have hf5' : q_fs lG fD M4 M5 := hf5.mono
      refine k_acted v (by omega) (n := n) ((x3.eq (by rw [hf4.c1 271]) (hf4.c1 286)).eq (hf5'.p1 271 28) (hf5'.c1 286)) (fun _ k hk => by rw [hf5'.c1 285]; exact hrow k hk) (fun z => by omega) (fun _ M6 hf6 hH6 => ⟨_, rfl, rfl, ?_⟩)
      obtain ⟨i6, fo6⟩ := act_r hR.2.1 hJ h.2.2.2 hJm x2 x4 x5 hf4 hf5' g5 hf6 hH6
      exact hP M6 _ _ _ _ i6 fo6
  · have fin : q_C q_mt (L, xs, q_shp) E nX12_mark (d + 20) 0 0 (.ref 271 :: [.int a, .int b]) M (fun v' M'' => v' = some (.int (Int32.ofInt (-2))) ∧ P M'') := by
      refine w_in 90 [] ?_
      refine k_laysAside (fun M2 hf2 hm2 => ?_)
      obtain ⟨i2, fo2⟩ := act_0 h hf2
      refine k_markBad i2.1.1.R q ?_
      exact k_acted (-2) (by omega) (n := n) i2.2.2.1 (fun z => by omega) (fun _ => ⟨_, rfl, rfl, hP M2 n p s H i2 fo2⟩) (fun z => by omega)
    obtain ⟨w, hw, rfl⟩ := z_of b
    refine w_in 90 [] ?_
    refine d_hasJudge g.C g.R.b (fun j hj e => br_f (by decide) ?_) (fun z => br_t (by decide) ⟨_, rfl, _, rfl, fin⟩)
    exact k2_isAward w hw (fun z1 z2 => absurd ⟨⟨j, hj, e⟩, w, ⟨z1, z2⟩, rfl⟩ q) (fun z => bn_f (by decide) ⟨_, rfl, _, rfl, fin⟩)
end AP
