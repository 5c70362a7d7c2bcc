/-! the call change: noted, done, remembered -/
section C3
variable {L : Nat} {xs : Nat → Int32} {E : q_E} {d : Nat} {M : q_M} {t : q_T} {n : sN} {Q : Option Value → q_M → Prop} {P : q_M → Prop}
set_option maxRecDepth 100000 in
set_option maxHeartbeats 4000000 in
theorem o_change {a b c : Int32} {p s : Nat} {H : Nat → sN} (h : iH M t n p s H) (wl : g_W M t) (bl : b_L t) (hP : ∀ M' m p' s' H', iH M' t m p' s' H' → q_f2 M M' → P M') : zOp L xs E nX11_change nX12_change (d + 20) [.int a, .int b, .int c] M P := by
  have hR := h.2.1
  have g := h.1.1
  have hJ := h.1.2
  have h6 := g.R.e6
  have h7 := g.R.r6
  have h10 := g.R.d10
  by_cases q : aCell t a b ∧ ∃ x, x < t 5 0 ∧ c = nI x
  · obtain ⟨⟨e, r, he, hr, rfl, rfl⟩, x, hx, rfl⟩ := q
    have bsl := (g.R.bs he hr).1
    -- the reference, where it can't be
    have no : ∀ (M1 : q_M) (p1 : Nat), iH M1 t n p s H → q_f2 M M1 → g_W M1 t → ¬ (isFr t n e r ∧ ¬ lsd t n e x ∧ allOb t (roE (up n (6 * e + r) x) e) (t 9 e)) → q_C q_mt (L, xs, q_shp) E nX12_change (d + 20) 0 0 (.ref 271 :: [.int (nI e), .int (nI (r + 1)), .int (nI x)]) M1 (fun v' M'' => v' = some (.int (Int32.ofInt (-3))) ∧ P M'') := by
      intro M1 p1 i1 fo1 w1 hn
      refine w_in 90 [] ?_
      refine k_laysAside (fun M2 hf2 hm2 => ?_)
      obtain ⟨i2, fo2⟩ := act_0 i1 hf2
      refine k_changeBy (R := none) i2.1.1.R hJ (w1.fs hf2) bl e r x he hr hx (Or.inl ⟨hn, rfl⟩) (fun _ M3 hf3 => ?_) (fun v m z => by cases z)
      have i3 : iH M3 t n p s H := i2.q hf3.mono
      exact k_acted (-3) (by omega) (n := n) i3.2.2.1 (fun z => by omega) (fun _ => ⟨_, rfl, rfl, hP M3 n p s H i3 ((fo1.tr fo2.f2).tr hf3.f2)⟩) (fun z => by omega)
    refine w_in 90 [] ?_
    refine k2_isCell g (fun _ => br_f (by decide) ?_) (fun z => absurd ⟨e, r, he, hr, rfl, rfl⟩ z)
    refine d_hasDive g.C g.R.b (fun _ _ _ => bn_t (by decide) ?_) (fun z => absurd ⟨x, hx, rfl⟩ z)
    refine k2_isFree g.Z hJ e r he hr (fun hfr => br_f (by decide) ?_) (fun hfr => br_t (by decide) ⟨_, rfl, _, rfl, no M p h (fun _ _ _ => ⟨rfl, rfl⟩) wl (fun z => hfr z.1)⟩)
    refine k2_hasListed g.Z e x he hx (fun hl => br_f (by decide) ⟨_, rfl, _, rfl, no M p h (fun _ _ _ => ⟨rfl, rfl⟩) wl (fun z => z.2.1 hl)⟩) (fun hl => br_t (by decide) ?_)
    have hJ' := lst_J hJ g.R.A he hr hx hfr.2.2.1 (fun p hp z => hl ⟨p, hp, z⟩)
    refine k2_note p hR.2.2.1 hR.1 (fun M1 hf1 he1 => ?_)
    have g1 := g.rg hf1 hR.1
    have f68 : ∀ i, M1.1 68 i = M.1 68 i := fun i => by rw [hf1.c1 68 (fun i => rg_scr (by omega))]
    have w1 : g_W M1 t := wl.eq (hf1.c1 17 (fun i => rg_scr (by omega))) (hf1.c1 18 (fun i => rg_scr (by omega))) (hf1.c1 19 (fun i => rg_scr (by omega))) (hf1.c1 280 (fun i => rg_scr (by have := hR.1; omega)))
    refine k2_cellOf e r ?_
    refine ⟨6 * e + r, _, by (first | assumption | (simp only [z_nat, z_lit, ← Int32.ofInt_add, ← Int32.ofInt_sub, ← Int32.ofInt_mul]; exact congrArg Int32.ofInt (by omega)) | (simp only [z_nat, z_lit, ← Int32.ofInt_add, ← Int32.ofInt_sub, ← Int32.ofInt_mul]; done) | exact congrArg Int32.ofInt (by omega) | rfl), by (dsimp only; omega), g1.li he hr, ?_⟩
    refine ⟨6 * e + r, _, by (first | assumption | (simp only [z_nat, z_lit, ← Int32.ofInt_add, ← Int32.ofInt_sub, ← Int32.ofInt_mul]; exact congrArg Int32.ofInt (by omega)) | (simp only [z_nat, z_lit, ← Int32.ofInt_add, ← Int32.ofInt_sub, ← Int32.ofInt_mul]; done) | exact congrArg Int32.ofInt (by omega) | rfl), by (dsimp only; omega), rfl, ?_⟩
    have g2 := lst_S g1.Z hJ he hr hfr.2.2.1 hJ'
    have hf2 : q_fs [44] [] M1 (q_si M1 44 (6 * e + r) (nI x)) := q_fs.rf.s1
    refine k2_findBreak g2 (w1.fs hf2) bl e he (fun M3 k hf3 hk => ?_) (fun M3 hf3 hall => ?_)
    · have hkt := hk.1
      refine z_eq ((k + 1 : Nat) : Int) 0 (fun z => by omega) (fun _ => ?_)
      refine ⟨6 * e + r, _, by (first | assumption | (simp only [z_nat, z_lit, ← Int32.ofInt_add, ← Int32.ofInt_sub, ← Int32.ofInt_mul]; exact congrArg Int32.ofInt (by omega)) | (simp only [z_nat, z_lit, ← Int32.ofInt_add, ← Int32.ofInt_sub, ← Int32.ofInt_mul]; done) | exact congrArg Int32.ofInt (by omega) | rfl), by (dsimp only; omega), rfl, ?_⟩
      have hf4 : q_fs [20, 245] [] M1 (q_si M3 44 (6 * e + r) (Int32.ofInt (n (6 * e + r)))) := by
        intro y i hy
        have a := hf3 y i hy
        by_cases z : y = 44 ∧ i = 6 * e + r
        · rw [z.1, z.2, q_si_s]
          refine ⟨(g1.li he hr).symm, ?_⟩
          have b := (hf3 44 (6 * e + r) rfl).2
          exact b
        · rw [q_si_nn z]
          refine ⟨?_, ?_⟩
          · rw [a.1, q_si_nn z]
          · exact a.2
      have i1 : iH M1 t n p s H := ⟨⟨g1, hJ⟩, hR.nt hf1, h.2.2.1.eq (by rw [hf1.c1 271 (fun i => rg_scr (by have := hR.1; omega))]) (hf1.c1 286 (fun i => rg_scr (by have := hR.1; omega))), h.2.2.2⟩
      exact ⟨_, rfl, _, rfl, no _ p (i1.q hf4.mono) ((rg_fo hf1 hR.1).f2.tr hf4.f2) (w1.fs hf4) (fun z => hk.2.1 (z.2.2 k hk.1))⟩
    · refine z_eq 0 0 (fun _ => ?_) (fun z => absurd rfl z)
      have hf23 : q_fs [20, 44, 245] [] M1 M3 := hf2.mono.tr hf3.mono
      have g3 : g_Z 43 M3 t (up n (6 * e + r) x) := g2.f3 hf3
      have g68 : M3.1 68 = M1.1 68 := hf23.c1 68
      refine k2_settle (n (6 * e + r)) (by omega) (p := p) (s := s) (by rw [g68]; exact (f68 1).trans hR.2.2.1) (by rw [g68]; exact (f68 2).trans hR.2.2.2.1) hR.1 hR.2.1 (fun z => by omega) (fun _ => ⟨_, rfl, _, rfl, ?_⟩)
      -- the memory behind the class
      have hf5 : q_fs [68] [] M3 (q_si (q_si M3 68 1 (nI ((p + 1) % 21))) 68 2 (nI (min 20 (s + 1)))) := q_fs.rf.s1.s1
      have a := hR.next g.S hf1 he1
      have x1 : g_R (q_si (q_si M3 68 1 (nI ((p + 1) % 21))) 68 2 (nI (min 20 (s + 1)))) t n := (g1.R.fs hf23).fs hf5
      have x3 : g_H (q_si (q_si M3 68 1 (nI ((p + 1) % 21))) 68 2 (nI (min 20 (s + 1)))) s H := h.2.2.1.eq (by rw [hf5.c1 271, hf23.c1 271, hf1.c1 271 (fun i => rg_scr (by have := hR.1; omega))]) (by rw [hf5.c1 286, hf23.c1 286, hf1.c1 286 (fun i => rg_scr (by have := hR.1; omega))])
      have x4 : g_Z 43 (q_si (q_si M3 68 1 (nI ((p + 1) % 21))) 68 2 (nI (min 20 (s + 1)))) t (up n (6 * e + r) x) := g3.f2 hf5
      have x5 : g_Rg (q_si (q_si M3 68 1 (nI ((p + 1) % 21))) 68 2 (nI (min 20 (s + 1)))) t ((p + 1) % 21) (min 20 (s + 1)) (hNx s H n) := a.eq rfl rfl (fun y h1 h2 => by
        have u : (q_si (q_si M3 68 1 (nI ((p + 1) % 21))) 68 2 (nI (min 20 (s + 1)))).1 y = M3.1 y := funext fun i => (q_si_nn (by omega)).trans (q_si_nn (by omega))
        have v : (q_si (q_si M1 68 1 (nI ((p + 1) % 21))) 68 2 (nI (min 20 (s + 1)))).1 y = M1.1 y := funext fun i => (q_si_nn (by omega)).trans (q_si_nn (by omega))
        rw [u, v]
        exact hf23.c1 y (q_out (p := c_rng 70 237) rfl (c_rng.i h1 (by omega))))
      have fo5 : q_f2 M (q_si (q_si M3 68 1 (nI ((p + 1) % 21))) 68 2 (nI (min 20 (s + 1)))) := (((rg_fo hf1 hR.1).f2.tr hf2.fo.f2).tr hf3.f2).tr hf5.fo.f2
      have w5 : g_W (q_si (q_si M3 68 1 (nI ((p + 1) % 21))) 68 2 (nI (min 20 (s + 1)))) t := (w1.fs hf23).fs hf5
      refine w_in 90 [] ?_
      refine k_laysAside (fun M6 hf6 hm6 => ?_)
      have hrow : ∀ k, k < 634 → M6.1 285 k = Int32.ofInt (n k) := fun k hk => (hm6 k hk).trans (x1.at hk)
      refine k_changeBy (R := some (n (6 * e + r), up n (6 * e + r) x)) (x1.fs hf6) hJ (w5.fs hf6) bl e r x he hr hx (Or.inr ⟨⟨hfr, hl, hall⟩, rfl⟩) (fun z => by cases z) (fun v m z M7 hf7 g7 => ?_)
      cases z
      refine k_acted (n (6 * e + r)) (by omega) (n := n) ((x3.eq (by rw [hf6.c1 271]) (hf6.c1 286)).eq (by rw [hf7.c1 271]) (hf7.c1 286)) (fun _ k hk => by rw [hf7.c1 285]; exact hrow k hk) (fun z => by omega) (fun _ M8 hf8 hH8 => ⟨_, rfl, rfl, ?_⟩)
      have g8 := ((x4.f2 hf6).f2 hf7).f2 hf8
      have hf67 : q_f2 (q_si (q_si M3 68 1 (nI ((p + 1) % 21))) 68 2 (nI (min 20 (s + 1)))) M7 := by
        refine hf6.fo.f2.tr ?_
        intro y i hy
        refine hf7 y i ?_
        unfold aO2 aO at hy
        cases w : q_scr [284, 289, 290] [] y i with
        | false => rfl
        | true =>
          unfold q_scr at w
          rw [show q_has2 y i [] = false from rfl, Bool.or_false] at w
          have w := q_has1_in.mp w
          simp only [List.mem_cons, List.not_mem_nil, or_false] at w
          rcases w with rfl | rfl | rfl
          · cases hy
          · cases hy
          · cases hy
      exact hP M8 _ _ _ _ ⟨⟨⟨g7.fs hf8, g8.C, g8.S⟩, hJ'⟩, ((x5.fs hf6).fs hf7).fs hf8, hH8, hNx_b hR.2.1 hJ h.2.2.2⟩ ((fo5.tr hf67).tr hf8.fo.f2)
  · have fin : q_C q_mt (L, xs, q_shp) E nX12_change (d + 20) 0 0 (.ref 271 :: [.int a, .int b, .int c]) M (fun v' M'' => v' = some (.int (Int32.ofInt (-2))) ∧ P M'') := by
      refine w_in 90 [] ?_
      refine k_laysAside (fun M2 hf2 hm2 => ?_)
      obtain ⟨i2, fo2⟩ := act_0 h hf2
      refine k_changeBad i2.1.1.R q ?_
      exact k_acted (-2) (by omega) (n := n) i2.2.2.1 (fun z => by omega) (fun _ => ⟨_, rfl, rfl, hP M2 n p s H i2 fo2.f2⟩) (fun z => by omega)
    refine w_in 90 [] ?_
    refine k2_isCell g (fun z1 => br_f (by decide) ?_) (fun z => br_t (by decide) ⟨_, rfl, _, rfl, fin⟩)
    exact d_hasDive g.C g.R.b (fun x hx z => absurd ⟨z1, x, hx, z⟩ q) (fun z => bn_f (by decide) ⟨_, rfl, _, rfl, fin⟩)
end C3
