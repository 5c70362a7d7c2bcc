/-! the call bribes -/
abbrev lB : List Nat := [239, 240, 241, 268, 269, 293]
/-- the fewest bribes that lift above thr: none -2 -/
def isBr (t : q_T) (n : sN) (e r : Nat) (thr v : Int) : Prop := (∃ b : Nat, v = b ∧ SB t n e r thr b ∧ ∀ k, SB t n e r thr k → b ≤ k) ∨ (v = -2 ∧ ∀ k, ¬ SB t n e r thr k)
theorem isBr.un {t : q_T} {n : sN} {e r : Nat} {thr v v' : Int} (h : isBr t n e r thr v) (h' : isBr t n e r thr v') : v = v' := by
  rcases h with ⟨b, rfl, s, m⟩ | ⟨rfl, s⟩
  · rcases h' with ⟨b', rfl, s', m'⟩ | ⟨rfl, s'⟩
    · have := m b' s'
      have := m' b s
      omega
    · exact absurd s (s' b)
  · rcases h' with ⟨b', rfl, s', m'⟩ | ⟨rfl, s'⟩
    · exact absurd s' (s b')
    · rfl
/-- what is to be passed -/
def thB (t : q_T) (n : sN) (e r o : Nat) : Int := ptE t n e r (t 1 0) (-1) + (toF t n o - toF t n e)
section BO
variable {L : Nat} {xs : Nat → Int32} {E : q_E} {d : Nat} {M : q_M} {t : q_T} {n : sN} {Q : Option Value → q_M → Prop} {P : q_M → Prop}
theorem g_A.B43 {M' : q_M} (g : g_A 43 M t n) (h : q_fs lB fA M M') : g_A 43 M' t n := g.fs h g_o.of
set_option maxRecDepth 100000 in
set_option maxHeartbeats 4000000 in
theorem k2_fewestBribes (g : g_A 43 M t n) {a b c : Int32} (e r o : Nat) (he : e < t 8 0) (hr : r < t 0 0) (ho : o < t 8 0) (hg : n (576 + (6 * e + r)) = 1) (hA : toF t n o < toF t n e → Q (some (.int (Int32.ofInt 0))) M) (hB : ¬ toF t n o < toF t n e → ¬ (n (540 + (6 * e + r)) = 0 ∧ n (618 + e) ≤ (r : Int) + 1) → Q (some (.int (Int32.ofInt (-2)))) M) (hC : ¬ toF t n o < toF t n e → n (540 + (6 * e + r)) = 0 → n (618 + e) ≤ (r : Int) + 1 → ∀ M' v, q_fs lB fA M M' → isBr t n e r (thB t n e r o) v → Q (some (.int (Int32.ofInt v))) M') (ha : a = nI e := by (first | assumption | (simp only [z_nat, z_lit, ← Int32.ofInt_add, ← Int32.ofInt_sub, ← Int32.ofInt_mul]; exact congrArg Int32.ofInt (by omega)) | (simp only [z_nat, z_lit, ← Int32.ofInt_add, ← Int32.ofInt_sub, ← Int32.ofInt_mul]; done) | exact congrArg Int32.ofInt (by omega) | rfl)) (hb : b = nI (r + 1) := by (first | assumption | (simp only [z_nat, z_lit, ← Int32.ofInt_add, ← Int32.ofInt_sub, ← Int32.ofInt_mul]; exact congrArg Int32.ofInt (by omega)) | (simp only [z_nat, z_lit, ← Int32.ofInt_add, ← Int32.ofInt_sub, ← Int32.ofInt_mul]; done) | exact congrArg Int32.ofInt (by omega) | rfl)) (hc : c = nI o := by (first | assumption | (simp only [z_nat, z_lit, ← Int32.ofInt_add, ← Int32.ofInt_sub, ← Int32.ofInt_mul]; exact congrArg Int32.ofInt (by omega)) | (simp only [z_nat, z_lit, ← Int32.ofInt_add, ← Int32.ofInt_sub, ← Int32.ofInt_mul]; done) | exact congrArg Int32.ofInt (by omega) | rfl)) : q_C q_mt (L, xs, q_shp) E nX4_fewestBribes (d + 5) 0 0 [.ref 256, .int (a), .int (b), .int (c)] M Q := by
  subst ha hb hc
  have h6 := g.R.e6
  have h7 := g.R.r6
  have h11 := g.R.j11
  have b1 : 0 ≤ toF t n e ∧ toF t n e ≤ 108000 := toE_b g.R (dr := t 1 0) (bar := -1) he
  have b2 : 0 ≤ toF t n o ∧ toF t n o ≤ 108000 := toE_b g.R (dr := t 1 0) (bar := -1) ho
  have b3 := ptE_b g.R (dr := t 1 0) (bar := -1) he hr
  have hba := (g.R.bn.2.1 e he).2
  have h9 := (g.R.be he).1
  have eo : M.1 50 o = Int32.ofInt (toF t n o) := g.to ho
  have ee : M.1 50 e = Int32.ofInt (toF t n e) := g.to he
  refine w_in 90 [72] ?_
  refine ⟨o, _, by (first | assumption | (simp only [z_nat, z_lit, ← Int32.ofInt_add, ← Int32.ofInt_sub, ← Int32.ofInt_mul]; exact congrArg Int32.ofInt (by omega)) | (simp only [z_nat, z_lit, ← Int32.ofInt_add, ← Int32.ofInt_sub, ← Int32.ofInt_mul]; done) | exact congrArg Int32.ofInt (by omega) | rfl), by (dsimp only; omega), eo, ?_⟩
  refine ⟨e, _, by (first | assumption | (simp only [z_nat, z_lit, ← Int32.ofInt_add, ← Int32.ofInt_sub, ← Int32.ofInt_mul]; exact congrArg Int32.ofInt (by omega)) | (simp only [z_nat, z_lit, ← Int32.ofInt_add, ← Int32.ofInt_sub, ← Int32.ofInt_mul]; done) | exact congrArg Int32.ofInt (by omega) | rfl), by (dsimp only; omega), ee, ?_⟩
  refine z_le 0 (toF t n o - toF t n e) (fun h1 => ?_) (fun h1 => ⟨_, rfl, hA (by omega)⟩)
  refine k2_isFailed_43 g e r he hr (fun h2 => bn_t (by decide) ⟨_, rfl, hB (by omega) (fun z => by omega)⟩) (fun h2 => bn_f (by decide) ?_)
  refine ⟨e, _, by (first | assumption | (simp only [z_nat, z_lit, ← Int32.ofInt_add, ← Int32.ofInt_sub, ← Int32.ofInt_mul]; exact congrArg Int32.ofInt (by omega)) | (simp only [z_nat, z_lit, ← Int32.ofInt_add, ← Int32.ofInt_sub, ← Int32.ofInt_mul]; done) | exact congrArg Int32.ofInt (by omega) | rfl), by (dsimp only; omega), g.ba he, ?_⟩
  refine z_lt (n (618 + e) - 1) ((r + 1 : Nat) : Int) (fun h3 => ?_) (fun h3 => ⟨_, rfl, hB (by omega) (fun z => by omega)⟩)
  refine k2_seat_43 g e r he hr (fun M1 hf1 p1 => ?_)
  have W := lp_m (W := fun i M' => ∀ D v, D = Int32.ofInt (toF t n o - toF t n e) → v = nI i → q_G q_mt (L, xs, q_shp) E nX4_fewestBribes (d + 5) 0 0 (q_Q (L, xs, q_shp) E Q) 72 [some (.ref 256), some (.int (nI e)), some (.int (nI (r + 1))), some (.int (nI o)), some (.int (D)), some (.int (v))] [] M') (J := fun i M' => q_fs [268, 269] [] M1 M' ∧ ∀ j, j < i → M'.1 268 j = nI (plm t n e r j) ∧ M'.1 269 j = Int32.ofInt (mk n e r j)) (t 2 0) ?_ ?_ 0 M1 (Nat.zero_le _) ⟨q_fs.rf, fun j hj => absurd hj (Nat.not_lt_zero _)⟩
  · refine W _ _ ?_ rfl
    (first | assumption | (simp only [z_nat, z_lit, ← Int32.ofInt_add, ← Int32.ofInt_sub, ← Int32.ofInt_mul]; exact congrArg Int32.ofInt (by omega)) | (simp only [z_nat, z_lit, ← Int32.ofInt_add, ← Int32.ofInt_sub, ← Int32.ofInt_mul]; done) | exact congrArg Int32.ofInt (by omega) | rfl)
  · rintro M' ⟨hf, hm⟩ D v rfl rfl
    have hfa : q_fs lB fA M M' := hf1.mono.tr hf.mono
    have g' := g.B43 hfa
    have p' : g_P M' t (onE t e) (fun j => mk n e r j) (n (432 + (6 * e + r))) (n (468 + (6 * e + r))) (n (504 + (6 * e + r))) (t 7 (n (6 * e + r)).toNat) (t 1 0) := by
      unfold g_P at p1 ⊢
      rw [hf.c1 238, hf.c1 239]
      exact p1
    refine w_at 90 [72] ?_
    refine ⟨_, g'.jN, ?_⟩
    refine z_le (t 2 0) (t 2 0) (fun _ => ?_) (fun h => by omega)
    refine ⟨e, _, by (first | assumption | (simp only [z_nat, z_lit, ← Int32.ofInt_add, ← Int32.ofInt_sub, ← Int32.ofInt_mul]; exact congrArg Int32.ofInt (by omega)) | (simp only [z_nat, z_lit, ← Int32.ofInt_add, ← Int32.ofInt_sub, ← Int32.ofInt_mul]; done) | exact congrArg Int32.ofInt (by omega) | rfl), by (dsimp only; omega), (g'.en he).1, ?_⟩
    refine k2_pointsOf_43 g' e r he hr (fun _ => ?_) (fun z => by omega)
    refine k2_tryBribes g'.R g'.K he hr hg h2 p' hm (thB t n e r o) (by unfold thB; omega) (fun M2 bb hf2 hb hv => ?_) (hb := by unfold thB; (first | assumption | (simp only [z_nat, z_lit, ← Int32.ofInt_add, ← Int32.ofInt_sub, ← Int32.ofInt_mul]; exact congrArg Int32.ofInt (by omega)) | (simp only [z_nat, z_lit, ← Int32.ofInt_add, ← Int32.ofInt_sub, ← Int32.ofInt_mul]; done) | exact congrArg Int32.ofInt (by omega) | rfl))
    have hfb : q_fs lB fA M M2 := hfa.tr hf2.mono
    have hC := hC (by omega) h2 (by omega) M2
    refine z_le (bb : Int) 11 (fun h4 => ⟨_, rfl, hC bb hfb ?_⟩) (fun h4 => ⟨_, rfl, hC (-2) hfb ?_⟩) (ha := by have := hb.1; omega)
    · obtain ⟨x, y, z, htr, e1⟩ := hb.2.resolve_left (by omega)
      refine Or.inl ⟨bb, rfl, ?_, fun k hk => ?_⟩
      · rw [← e1]
        exact TR_SB g.R he hr hg h2 htr
      · obtain ⟨x', y', z', e2, h5⟩ := SB_TR g.R he hr hg h2 hk
        have := hv x' y' z' h5
        omega
    · refine Or.inr ⟨rfl, fun k hk => ?_⟩
      have hk2 := hk
      obtain ⟨B, -, e3, -⟩ := hk2
      have := fb_ct_le B (t 2 0)
      obtain ⟨x', y', z', e2, h5⟩ := SB_TR g.R he hr hg h2 hk
      have := hv x' y' z' h5
      omega
  · rintro i M' hi ⟨hf, hm⟩ ih D v rfl rfl
    have hfa : q_fs lB fA M M' := hf1.mono.tr hf.mono
    have g' := g.B43 hfa
    have p' : g_P M' t (onE t e) (fun j => mk n e r j) (n (432 + (6 * e + r))) (n (468 + (6 * e + r))) (n (504 + (6 * e + r))) (t 7 (n (6 * e + r)).toNat) (t 1 0) := by
      unfold g_P at p1 ⊢
      rw [hf.c1 238, hf.c1 239]
      exact p1
    refine w_at 90 [72] ?_
    refine ⟨_, g'.jN, ?_⟩
    refine z_le (t 2 0) i (fun h => by omega) (fun h => ?_)
    refine p_placeOf g'.K p' i (t 4 i) hi rfl ?_
    refine ⟨i, _, by (first | assumption | (simp only [z_nat, z_lit, ← Int32.ofInt_add, ← Int32.ofInt_sub, ← Int32.ofInt_mul]; exact congrArg Int32.ofInt (by omega)) | (simp only [z_nat, z_lit, ← Int32.ofInt_add, ← Int32.ofInt_sub, ← Int32.ofInt_mul]; done) | exact congrArg Int32.ofInt (by omega) | rfl), by (dsimp only; omega), rfl, ?_⟩
    have e39 : (q_si M' 268 i (nI (rk (ofS t (onE t e) (t 4 i)) (fun j => mk n e r j) (t 2 0) i))).1 239 i = Int32.ofInt (mk n e r i) := (p'.2.1 i hi).1
    refine ⟨i, _, by (first | assumption | (simp only [z_nat, z_lit, ← Int32.ofInt_add, ← Int32.ofInt_sub, ← Int32.ofInt_mul]; exact congrArg Int32.ofInt (by omega)) | (simp only [z_nat, z_lit, ← Int32.ofInt_add, ← Int32.ofInt_sub, ← Int32.ofInt_mul]; done) | exact congrArg Int32.ofInt (by omega) | rfl), by (dsimp only; omega), e39, ?_⟩
    refine ⟨i, _, by (first | assumption | (simp only [z_nat, z_lit, ← Int32.ofInt_add, ← Int32.ofInt_sub, ← Int32.ofInt_mul]; exact congrArg Int32.ofInt (by omega)) | (simp only [z_nat, z_lit, ← Int32.ofInt_add, ← Int32.ofInt_sub, ← Int32.ofInt_mul]; done) | exact congrArg Int32.ofInt (by omega) | rfl), by (dsimp only; omega), rfl, ?_⟩
    refine ih _ ⟨hf.s1.s1, fun j hj => ?_⟩ _ _ rfl (by (first | assumption | (simp only [z_nat, z_lit, ← Int32.ofInt_add, ← Int32.ofInt_sub, ← Int32.ofInt_mul]; exact congrArg Int32.ofInt (by omega)) | (simp only [z_nat, z_lit, ← Int32.ofInt_add, ← Int32.ofInt_sub, ← Int32.ofInt_mul]; done) | exact congrArg Int32.ofInt (by omega) | rfl))
    by_cases q : j = i
    · subst q
      exact ⟨(q_si_nn (by omega)).trans q_si_s, q_si_s⟩
    · exact ⟨(q_si_nn (by omega)).trans ((q_si_n q).trans (hm j (by omega)).1), (q_si_n q).trans ((q_si_nn (by omega)).trans (hm j (by omega)).2)⟩
set_option maxRecDepth 100000 in
set_option maxHeartbeats 4000000 in
theorem k_panelBits (g : g_R M t n) {a : Int32} (e : Nat) (he : e < t 8 0) (hQ : ∀ x, isMk x (fun j => j < t 2 0 ∧ onE t e j = true) → Q (some (.int x)) M) (ha : a = nI e := by (first | assumption | (simp only [z_nat, z_lit, ← Int32.ofInt_add, ← Int32.ofInt_sub, ← Int32.ofInt_mul]; exact congrArg Int32.ofInt (by omega)) | (simp only [z_nat, z_lit, ← Int32.ofInt_add, ← Int32.ofInt_sub, ← Int32.ofInt_mul]; done) | exact congrArg Int32.ofInt (by omega) | rfl)) : q_C q_mt (L, xs, q_shp) E nX12_panelBits (d + 2) 0 0 [.ref 271, .int (a)] M Q := by
  subst ha
  have h11 := g.j11
  have W := lp_up (W := fun i => ∀ u v, isMk u (fun j => j < i ∧ onE t e j = true) → v = nI i → q_G q_mt (L, xs, q_shp) E nX12_panelBits (d + 2) 0 0 (q_Q (L, xs, q_shp) E Q) 4 [some (.ref 271), some (.int (nI e)), some (.int (u)), some (.int (v))] [] M) (t 2 0) ?_ ?_ 0 (Nat.zero_le _)
  · refine w_in 90 [4] ?_
    exact W _ _ (fun j hj => ⟨fun z => absurd ((b_0 j).symm.trans z) (by decide), fun z => absurd z.1 (Nat.not_lt_zero _)⟩) rfl
  · rintro u v hu rfl
    refine w_at 90 [4] ?_
    refine ⟨2, _, by (first | assumption | (simp only [z_nat, z_lit, ← Int32.ofInt_add, ← Int32.ofInt_sub, ← Int32.ofInt_mul]; exact congrArg Int32.ofInt (by omega)) | (simp only [z_nat, z_lit, ← Int32.ofInt_add, ← Int32.ofInt_sub, ← Int32.ofInt_mul]; done) | exact congrArg Int32.ofInt (by omega) | rfl), by (dsimp only; omega), g.R2, ?_⟩
    exact z_le (t 2 0) (t 2 0) (fun h => ⟨_, rfl, hQ u hu⟩) (fun h => by omega)
  · rintro i hi ih u v hu rfl
    refine w_at 90 [4] ?_
    refine ⟨2, _, by (first | assumption | (simp only [z_nat, z_lit, ← Int32.ofInt_add, ← Int32.ofInt_sub, ← Int32.ofInt_mul]; exact congrArg Int32.ofInt (by omega)) | (simp only [z_nat, z_lit, ← Int32.ofInt_add, ← Int32.ofInt_sub, ← Int32.ofInt_mul]; done) | exact congrArg Int32.ofInt (by omega) | rfl), by (dsimp only; omega), g.R2, ?_⟩
    refine z_le (t 2 0) i (fun h => by omega) (fun h => ?_)
    refine k_judges g i e hi he (fun hp => br_f (by decide) ?_) (fun hp => br_t (by decide) ?_)
    · refine ih _ _ ?_ (by (first | assumption | (simp only [z_nat, z_lit, ← Int32.ofInt_add, ← Int32.ofInt_sub, ← Int32.ofInt_mul]; exact congrArg Int32.ofInt (by omega)) | (simp only [z_nat, z_lit, ← Int32.ofInt_add, ← Int32.ofInt_sub, ← Int32.ofInt_mul]; done) | exact congrArg Int32.ofInt (by omega) | rfl))
      refine hu.or (by omega) (fun j => ?_)
      constructor
      · rintro ⟨z1, z2⟩
        by_cases qi : j = i
        · exact Or.inr qi
        · exact Or.inl ⟨by omega, z2⟩
      · rintro (⟨z1, z2⟩ | z)
        · exact ⟨by omega, z2⟩
        · subst z
          exact ⟨by omega, hp⟩
    · refine ih _ _ ?_ (by (first | assumption | (simp only [z_nat, z_lit, ← Int32.ofInt_add, ← Int32.ofInt_sub, ← Int32.ofInt_mul]; exact congrArg Int32.ofInt (by omega)) | (simp only [z_nat, z_lit, ← Int32.ofInt_add, ← Int32.ofInt_sub, ← Int32.ofInt_mul]; done) | exact congrArg Int32.ofInt (by omega) | rfl))
      intro j hj
      rw [b_or, show bt (Int32.ofInt 0) j = false from b_0 j, Bool.or_false, hu j hj]
      constructor
      · rintro ⟨z1, z2⟩
        exact ⟨by omega, z2⟩
      · rintro ⟨z1, z2⟩
        by_cases qi : j = i
        · subst qi
          exact absurd (hp.symm.trans z2) (by decide)
        · exact ⟨by omega, z2⟩
set_option maxRecDepth 100000 in
set_option maxHeartbeats 4000000 in
theorem k_bits {a : Int32} (K : Nat) (hK : K < 2048) (hQ : Q (some (.int (nI (fb_ct (fun j => K.testBit j) 11)))) M) (ha : a = nI K := by (first | assumption | (simp only [z_nat, z_lit, ← Int32.ofInt_add, ← Int32.ofInt_sub, ← Int32.ofInt_mul]; exact congrArg Int32.ofInt (by omega)) | (simp only [z_nat, z_lit, ← Int32.ofInt_add, ← Int32.ofInt_sub, ← Int32.ofInt_mul]; done) | exact congrArg Int32.ofInt (by omega) | rfl)) : q_C q_mt (L, xs, q_shp) E nX12_bits (d) 0 0 [.int (a)] M Q := by
  subst ha
  have h12 : fb_ct (fun j => K.testBit j) 12 = fb_ct (fun j => K.testBit j) 11 := ct_f (Nat.testBit_lt_two_pow (show K < 2 ^ 11 from hK))
  rw [← h12] at hQ
  have W := lp_up (W := fun i => ∀ u v, u = nI (fb_ct (fun j => K.testBit j) i) → v = nI i → q_G q_mt (L, xs, q_shp) E nX12_bits (d) 0 0 (q_Q (L, xs, q_shp) E Q) 4 [some (.int (nI K)), some (.int (u)), some (.int (v))] [] M) 12 ?_ ?_ 0 (Nat.zero_le _)
  · refine w_in 90 [4] ?_
    exact W _ _ rfl rfl
  · rintro u v rfl rfl
    refine w_at 90 [4] ?_
    exact z_le 12 (12 : Nat) (fun h => ⟨_, rfl, hQ⟩) (fun h => by omega)
  · rintro i hi ih u v rfl rfl
    refine w_at 90 [4] ?_
    refine z_le 12 (i : Int) (fun h => by omega) (fun h => ?_)
    have e := b_at (x := nI K) (j := i) (by omega)
    rw [bt_nat (by omega)] at e
    refine ih _ _ ?_ (by (first | assumption | (simp only [z_nat, z_lit, ← Int32.ofInt_add, ← Int32.ofInt_sub, ← Int32.ofInt_mul]; exact congrArg Int32.ofInt (by omega)) | (simp only [z_nat, z_lit, ← Int32.ofInt_add, ← Int32.ofInt_sub, ← Int32.ofInt_mul]; done) | exact congrArg Int32.ofInt (by omega) | rfl))
    refine (congrArg (fun z => nI (fb_ct (fun j => K.testBit j) i) + z) e).trans ?_
    by_cases q : K.testBit i = true
    · rw [if_pos q, ct_t (p := fun j => K.testBit j) q]
      rfl
    · rw [if_neg q, ct_f (p := fun j => K.testBit j) (Bool.eq_false_iff.mpr q)]
      exact Int32.add_zero _
set_option maxRecDepth 100000 in
set_option maxHeartbeats 4000000 in
theorem k_bribedPoints (g : g_R M t n) {a b c : Int32} (e r K : Nat) (he : e < t 8 0) (hr : r < t 0 0) (hg : n (576 + (6 * e + r)) = 1) (h0 : n (540 + (6 * e + r)) = 0) (hK : ∀ i, i < t 2 0 → K.testBit i = true → onE t e i = true) (hQ : ∀ M', q_fs [293] fD M M' → Q (some (.int (Int32.ofInt (pB t n e r (fun i => K.testBit i))))) M') (ha : a = nI e := by (first | assumption | (simp only [z_nat, z_lit, ← Int32.ofInt_add, ← Int32.ofInt_sub, ← Int32.ofInt_mul]; exact congrArg Int32.ofInt (by omega)) | (simp only [z_nat, z_lit, ← Int32.ofInt_add, ← Int32.ofInt_sub, ← Int32.ofInt_mul]; done) | exact congrArg Int32.ofInt (by omega) | rfl)) (hb : b = nI (r + 1) := by (first | assumption | (simp only [z_nat, z_lit, ← Int32.ofInt_add, ← Int32.ofInt_sub, ← Int32.ofInt_mul]; exact congrArg Int32.ofInt (by omega)) | (simp only [z_nat, z_lit, ← Int32.ofInt_add, ← Int32.ofInt_sub, ← Int32.ofInt_mul]; done) | exact congrArg Int32.ofInt (by omega) | rfl)) (hc : c = nI K := by (first | assumption | (simp only [z_nat, z_lit, ← Int32.ofInt_add, ← Int32.ofInt_sub, ← Int32.ofInt_mul]; exact congrArg Int32.ofInt (by omega)) | (simp only [z_nat, z_lit, ← Int32.ofInt_add, ← Int32.ofInt_sub, ← Int32.ofInt_mul]; done) | exact congrArg Int32.ofInt (by omega) | rfl)) : q_C q_mt (L, xs, q_shp) E nX12_bribedPoints (d + 5) 0 0 [.ref 271, .int (a), .int (b), .int (c)] M Q := by
  subst ha hb hc
  have h11 := g.j11
  have hpr := prt_on g he hr hg h0
  refine w_in 90 [9] ?_
  refine k_laysDive g e r he hr (fun M3 hf3 l3 => ?_)
  have W := lp_m (W := fun i M' => ∀ v, v = nI i → q_G q_mt (L, xs, q_shp) E nX12_bribedPoints (d + 5) 0 0 (q_Q (L, xs, q_shp) E Q) 9 [some (.ref 271), some (.int (nI e)), some (.int (nI (r + 1))), some (.int (nI K)), some (.int (v))] [] M') (J := fun i M' => q_fs [293] [] M3 M' ∧ ∀ j, j < 11 → M'.1 293 j = Int32.ofInt (if j < i ∧ K.testBit j = true then 20 else mk n e r j)) (t 2 0) ?_ ?_ 0 M3 (Nat.zero_le _) ⟨q_fs.rf, fun j hj => by rw [if_neg (by omega)]; exact (l3.1 j hj).1⟩
  · exact W _ rfl
  · rintro M' ⟨hf, hm⟩ v rfl
    have hf4 : q_fs [293] fD M M' := hf3.tr hf.mono
    have g4 := g.fs hf4
    have l4 : g_L M' (mB n e r (fun i => decide (i < t 2 0) && K.testBit i)) (n (432 + (6 * e + r))) (n (468 + (6 * e + r))) (n (504 + (6 * e + r))) (t 7 (n (6 * e + r)).toNat) := by
      refine ⟨fun i hi => ⟨?_, mB_b g _ he hr i hi⟩, ⟨(hf.p1 271 36).trans l3.2.1.1, l3.2.1.2⟩, ⟨(hf.p1 271 37).trans l3.2.2.1.1, l3.2.2.1.2⟩, ⟨(hf.p1 271 38).trans l3.2.2.2.1.1, l3.2.2.2.1.2⟩, ⟨(hf.p1 271 39).trans l3.2.2.2.2.1, l3.2.2.2.2.2⟩⟩
      rw [hm i hi]
      unfold mB
      by_cases q : i < t 2 0 ∧ K.testBit i = true
      · rw [if_pos q, if_pos (by rw [q.2, decide_eq_true q.1]; rfl)]
      · rw [if_neg q, if_neg (fun z => q (by rw [Bool.and_eq_true, decide_eq_true_eq] at z; exact z))]
    have hpw : ∀ i, i < t 2 0 → prt (mB n e r (fun i => decide (i < t 2 0) && K.testBit i)) (-1) i = onE t e i := fun i hi => by
      by_cases q : K.testBit i = true
      · have e1 : mB n e r (fun i => decide (i < t 2 0) && K.testBit i) i = 20 := if_pos (by rw [q, decide_eq_true hi]; rfl)
        unfold prt
        rw [e1, decide_eq_false (by omega), decide_eq_false (by omega)]
        exact (hK i hi q).symm
      · have e1 : mB n e r (fun i => decide (i < t 2 0) && K.testBit i) i = mk n e r i := if_neg (by rw [Bool.eq_false_iff.mpr q, Bool.and_false]; decide)
        rw [← hpr i hi]
        unfold prt
        rw [e1]
    have ep : ptS t (prt (mB n e r (fun i => decide (i < t 2 0) && K.testBit i)) (-1)) (cB t n e r (fun i => decide (i < t 2 0) && K.testBit i)) (t 1 0) (t 7 (n (6 * e + r)).toNat) = pB t n e r (fun i => K.testBit i) := (ptS_cong hpw).trans (pB_cong g he hr hg h0 (fun i hi _ => by rw [decide_eq_true hi, Bool.true_and]))
    refine w_at 90 [9] ?_
    refine ⟨2, _, by (first | assumption | (simp only [z_nat, z_lit, ← Int32.ofInt_add, ← Int32.ofInt_sub, ← Int32.ofInt_mul]; exact congrArg Int32.ofInt (by omega)) | (simp only [z_nat, z_lit, ← Int32.ofInt_add, ← Int32.ofInt_sub, ← Int32.ofInt_mul]; done) | exact congrArg Int32.ofInt (by omega) | rfl), by (dsimp only; omega), g4.R2, ?_⟩
    refine z_le (t 2 0) (t 2 0) (fun _ => ?_) (fun h => by omega)
    refine ⟨1, _, by (first | assumption | (simp only [z_nat, z_lit, ← Int32.ofInt_add, ← Int32.ofInt_sub, ← Int32.ofInt_mul]; exact congrArg Int32.ofInt (by omega)) | (simp only [z_nat, z_lit, ← Int32.ofInt_add, ← Int32.ofInt_sub, ← Int32.ofInt_mul]; done) | exact congrArg Int32.ofInt (by omega) | rfl), by (dsimp only; omega), g4.R1, ?_⟩
    refine k_laidPoints g4 l4 (t 1 0) (-1) g.p3 (by omega) ?_
    rw [ep]
    exact ⟨_, rfl, hQ M' hf4⟩
  · rintro i M' hi ⟨hf, hm⟩ ih v rfl
    have hf4 : q_fs [293] fD M M' := hf3.tr hf.mono
    have g4 := g.fs hf4
    refine w_at 90 [9] ?_
    refine ⟨2, _, by (first | assumption | (simp only [z_nat, z_lit, ← Int32.ofInt_add, ← Int32.ofInt_sub, ← Int32.ofInt_mul]; exact congrArg Int32.ofInt (by omega)) | (simp only [z_nat, z_lit, ← Int32.ofInt_add, ← Int32.ofInt_sub, ← Int32.ofInt_mul]; done) | exact congrArg Int32.ofInt (by omega) | rfl), by (dsimp only; omega), g4.R2, ?_⟩
    refine z_le (t 2 0) i (fun h => by omega) (fun h => ?_)
    refine k_has (nI K) i (by omega) (fun h1 => br_f (by decide) ?_) (fun h1 => br_t (by decide) ?_)
    · rw [bt_nat (by omega)] at h1
      refine ⟨i, _, by (first | assumption | (simp only [z_nat, z_lit, ← Int32.ofInt_add, ← Int32.ofInt_sub, ← Int32.ofInt_mul]; exact congrArg Int32.ofInt (by omega)) | (simp only [z_nat, z_lit, ← Int32.ofInt_add, ← Int32.ofInt_sub, ← Int32.ofInt_mul]; done) | exact congrArg Int32.ofInt (by omega) | rfl), by (dsimp only; omega), rfl, ?_⟩
      refine ih _ ⟨hf.s1, fun j hj => ?_⟩ _ (by (first | assumption | (simp only [z_nat, z_lit, ← Int32.ofInt_add, ← Int32.ofInt_sub, ← Int32.ofInt_mul]; exact congrArg Int32.ofInt (by omega)) | (simp only [z_nat, z_lit, ← Int32.ofInt_add, ← Int32.ofInt_sub, ← Int32.ofInt_mul]; done) | exact congrArg Int32.ofInt (by omega) | rfl))
      by_cases q : j = i
      · subst q
        rw [q_si_s, if_pos ⟨by omega, h1⟩]
      · rw [q_si_n q, hm j hj]
        by_cases q2 : j < i ∧ K.testBit j = true
        · rw [if_pos q2, if_pos ⟨by omega, q2.2⟩]
        · rw [if_neg q2, if_neg (fun z => q2 ⟨by omega, z.2⟩)]
    · rw [bt_nat (by omega)] at h1
      refine ih _ ⟨hf, fun j hj => ?_⟩ _ (by (first | assumption | (simp only [z_nat, z_lit, ← Int32.ofInt_add, ← Int32.ofInt_sub, ← Int32.ofInt_mul]; exact congrArg Int32.ofInt (by omega)) | (simp only [z_nat, z_lit, ← Int32.ofInt_add, ← Int32.ofInt_sub, ← Int32.ofInt_mul]; done) | exact congrArg Int32.ofInt (by omega) | rfl))
      rw [hm j hj]
      by_cases q : j = i
      · subst q
        rw [if_neg (fun z => by omega), if_neg (fun z => absurd (h1.symm.trans z.2) (by decide))]
      · by_cases q2 : j < i ∧ K.testBit j = true
        · rw [if_pos q2, if_pos ⟨by omega, q2.2⟩]
        · rw [if_neg q2, if_neg (fun z => q2 ⟨by omega, z.2⟩)]
end BO
