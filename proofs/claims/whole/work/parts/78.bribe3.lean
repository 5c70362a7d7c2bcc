/-! the call bribes -/
abbrev lB : List Nat := [239, 240, 241, 268, 269, 293]
/-- the fewest bribes that lift above thr: none -2 -/
def isBr (t : q_T) (n : sN) (e r : Nat) (thr v : Int) : Prop := (∃ b : Nat, v = b ∧ SB t n e r thr b ∧ ∀ k, SB t n e r thr k → b ≤ k) ∨ (v = -2 ∧ ∀ k, ¬ SB t n e r thr k)
theorem isBr.un {t : q_T} {n : sN} {e r : Nat} {thr v v' : Int} (h : isBr t n e r thr v) (h' : isBr t n e r thr v') : v = v' := by
  rcases h with ⟨b, rfl, s, m⟩ | ⟨rfl, s⟩
  · rcases h' with ⟨b', rfl, s', m'⟩ | ⟨rfl, s'⟩
    · have := m b' s'
      have := m' b s
      omega
    · exact absurd s (s' b)
  · rcases h' with ⟨b', rfl, s', m'⟩ | ⟨rfl, s'⟩
    · exact absurd s' (s b')
    · rfl
/-- what is to be passed -/
def thB (t : q_T) (n : sN) (e r o : Nat) : Int := ptE t n e r (t 1 0) (-1) + (toF t n o - toF t n e)
section BO
variable {L : Nat} {xs : Nat → Int32} {E : q_E} {d : Nat} {M : q_M} {t : q_T} {n : sN} {Q : Option Value → q_M → Prop} {P : q_M → Prop}
theorem g_A.B43 {M' : q_M} (g : g_A 43 M t n) (h : q_fs lB fA M M') : g_A 43 M' t n := g.fs h g_o.of
set_option maxRecDepth 100000 in
set_option maxHeartbeats 4000000 in
theorem k2_fewestBribes (g : g_A 43 M t n) {a b c : Int32} (e r o : Nat) (he : e < t 8 0) (hr : r < t 0 0) (ho : o < t 8 0) (hg : n (576 + (6 * e + r)) = 1) (hA : toF t n o < toF t n e → Q (some (.int (Int32.ofInt 0))) M) (hB : ¬ toF t n o < toF t n e → ¬ (n (540 + (6 * e + r)) = 0 ∧ n (618 + e) ≤ (r : Int) + 1) → Q (some (.int (Int32.ofInt (-2)))) M) (hC : ¬ toF t n o < toF t n e → n (540 + (6 * e + r)) = 0 → n (618 + e) ≤ (r : Int) + 1 → ∀ M' v, q_fs lB fA M M' → isBr t n e r (thB t n e r o) v → Q (some (.int (Int32.ofInt v))) M') (ha : a = nI e := by (first | assumption | (simp only [z_nat, z_lit, ← Int32.ofInt_add, ← Int32.ofInt_sub, ← Int32.ofInt_mul]; exact congrArg Int32.ofInt (by omega)) | (simp only [z_nat, z_lit, ← Int32.ofInt_add, ← Int32.ofInt_sub, ← Int32.ofInt_mul]; done) | exact congrArg Int32.ofInt (by omega) | rfl)) (hb : b = nI (r + 1) := by (first | assumption | (simp only [z_nat, z_lit, ← Int32.ofInt_add, ← Int32.ofInt_sub, ← Int32.ofInt_mul]; exact congrArg Int32.ofInt (by omega)) | (simp only [z_nat, z_lit, ← Int32.ofInt_add, ← Int32.ofInt_sub, ← Int32.ofInt_mul]; done) | exact congrArg Int32.ofInt (by omega) | rfl)) (hc : c = nI o := by (first | assumption | (simp only [z_nat, z_lit, ← Int32.ofInt_add, ← Int32.ofInt_sub, ← Int32.ofInt_mul]; exact congrArg Int32.ofInt (by omega)) | (simp only [z_nat, z_lit, ← Int32.ofInt_add, ← Int32.ofInt_sub, ← Int32.ofInt_mul]; done) | exact congrArg Int32.ofInt (by omega) | rfl)) : q_C q_mt (L, xs, q_shp) E nX4_fewestBribes (d + 5) 0 0 [.ref 256, .int (a), .int (b), .int (c)] M Q := by
  subst ha hb hc
  have h6 := g.R.e6
  have h7 := g.R.r6
  have h11 := g.R.j11
  have b1 : 0 ≤ toF t n e ∧ toF t n e ≤ 108000 := toE_b g.R (dr := t 1 0) (bar := -1) he
  have b2 : 0 ≤ toF t n o ∧ toF t n o ≤ 108000 := toE_b g.R (dr := t 1 0) (bar := -1) ho
  have b3 := ptE_b g.R (dr := t 1 0) (bar := -1) he hr
  have hba := (g.R.bn.2.1 e he).2
  have h9 := (g.R.be he).1
  have eo : M.1 50 o = Int32.ofInt (toF t n o) := g.to ho
  have ee : M.1 50 e = Int32.ofInt (toF t n e) := g.to he
  refine w_in 90 [72] ?_
  refine ⟨o, _, by (first | assumption | (simp only [z_nat, z_lit, ← Int32.ofInt_add, ← Int32.ofInt_sub, ← Int32.ofInt_mul]; exact congrArg Int32.ofInt (by omega)) | (simp only [z_nat, z_lit, ← Int32.ofInt_add, ← Int32.ofInt_sub, ← Int32.ofInt_mul]; done) | exact congrArg Int32.ofInt (by omega) | rfl), by (dsimp only; omega), eo, ?_⟩
  refine ⟨e, _, by (first | assumption | (simp only [z_nat, z_lit, ← Int32.ofInt_add, ← Int32.ofInt_sub, ← Int32.ofInt_mul]; exact congrArg Int32.ofInt (by omega)) | (simp only [z_nat, z_lit, ← Int32.ofInt_add, ← Int32.ofInt_sub, ← Int32.ofInt_mul]; done) | exact congrArg Int32.ofInt (by omega) | rfl), by (dsimp only; omega), ee, ?_⟩
  refine z_le 0 (toF t n o - toF t n e) (fun h1 => ?_) (fun h1 => ⟨_, rfl, hA (by omega)⟩)
  refine k2_isFailed_43 g.Z e r he hr (fun h2 => bn_t (by decide) ⟨_, rfl, hB (by omega) (fun z => by omega)⟩) (fun h2 => bn_f (by decide) ?_)
  refine ⟨e, _, by (first | assumption | (simp only [z_nat, z_lit, ← Int32.ofInt_add, ← Int32.ofInt_sub, ← Int32.ofInt_mul]; exact congrArg Int32.ofInt (by omega)) | (simp only [z_nat, z_lit, ← Int32.ofInt_add, ← Int32.ofInt_sub, ← Int32.ofInt_mul]; done) | exact congrArg Int32.ofInt (by omega) | rfl), by (dsimp only; omega), g.ba he, ?_⟩
  refine z_lt (n (618 + e) - 1) ((r + 1 : Nat) : Int) (fun h3 => ?_) (fun h3 => ⟨_, rfl, hB (by omega) (fun z => by omega)⟩)
  refine k2_seat_43 g.Z e r he hr (fun M1 hf1 p1 => ?_)
  have W := lp_m (W := fun i M' => ∀ D v, D = Int32.ofInt (toF t n o - toF t n e) → v = nI i → q_G q_mt (L, xs, q_shp) E nX4_fewestBribes (d + 5) 0 0 (q_Q (L, xs, q_shp) E Q) 72 [some (.ref 256), some (.int (nI e)), some (.int (nI (r + 1))), some (.int (nI o)), some (.int (D)), some (.int (v))] [] M') (J := fun i M' => q_fs [268, 269] [] M1 M' ∧ ∀ j, j < i → M'.1 268 j = nI (plm t n e r j) ∧ M'.1 269 j = Int32.ofInt (mk n e r j)) (t 2 0) ?_ ?_ 0 M1 (Nat.zero_le _) ⟨q_fs.rf, fun j hj => absurd hj (Nat.not_lt_zero _)⟩
  · refine W _ _ ?_ rfl
    (first | assumption | (simp only [z_nat, z_lit, ← Int32.ofInt_add, ← Int32.ofInt_sub, ← Int32.ofInt_mul]; exact congrArg Int32.ofInt (by omega)) | (simp only [z_nat, z_lit, ← Int32.ofInt_add, ← Int32.ofInt_sub, ← Int32.ofInt_mul]; done) | exact congrArg Int32.ofInt (by omega) | rfl)
  · rintro M' ⟨hf, hm⟩ D v rfl rfl
    have hfa : q_fs lB fA M M' := hf1.mono.tr hf.mono
    have g' := g.B43 hfa
    have p' : g_P M' t (onE t e) (fun j => mk n e r j) (n (432 + (6 * e + r))) (n (468 + (6 * e + r))) (n (504 + (6 * e + r))) (t 7 (n (6 * e + r)).toNat) (t 1 0) := by
      unfold g_P at p1 ⊢
      rw [hf.c1 238, hf.c1 239]
      exact p1
    refine w_at 90 [72] ?_
    refine ⟨_, g'.jN, ?_⟩
    refine z_le (t 2 0) (t 2 0) (fun _ => ?_) (fun h => by omega)
    refine ⟨e, _, by (first | assumption | (simp only [z_nat, z_lit, ← Int32.ofInt_add, ← Int32.ofInt_sub, ← Int32.ofInt_mul]; exact congrArg Int32.ofInt (by omega)) | (simp only [z_nat, z_lit, ← Int32.ofInt_add, ← Int32.ofInt_sub, ← Int32.ofInt_mul]; done) | exact congrArg Int32.ofInt (by omega) | rfl), by (dsimp only; omega), (g'.en he).1, ?_⟩
    refine k2_pointsOf_43 g'.Z e r he hr (fun _ => ?_) (fun z => by omega)
    refine k2_tryBribes g'.R g'.K he hr hg h2 p' hm (thB t n e r o) (by unfold thB; omega) (fun M2 bb hf2 hb hv => ?_) (hb := by unfold thB; (first | assumption | (simp only [z_nat, z_lit, ← Int32.ofInt_add, ← Int32.ofInt_sub, ← Int32.ofInt_mul]; exact congrArg Int32.ofInt (by omega)) | (simp only [z_nat, z_lit, ← Int32.ofInt_add, ← Int32.ofInt_sub, ← Int32.ofInt_mul]; done) | exact congrArg Int32.ofInt (by omega) | rfl))
    have hfb : q_fs lB fA M M2 := hfa.tr hf2.mono
    have hC := hC (by omega) h2 (by omega) M2
    refine z_le (bb : Int) 11 (fun h4 => ⟨_, rfl, hC bb hfb ?_⟩) (fun h4 => ⟨_, rfl, hC (-2) hfb ?_⟩) (ha := by have := hb.1; omega)
    · obtain ⟨x, y, z, htr, e1⟩ := hb.2.resolve_left (by omega)
      refine Or.inl ⟨bb, rfl, ?_, fun k hk => ?_⟩
      · rw [← e1]
        exact TR_SB g.R he hr hg h2 htr
      · obtain ⟨x', y', z', e2, h5⟩ := SB_TR g.R he hr hg h2 hk
        have := hv x' y' z' h5
        omega
    · refine Or.inr ⟨rfl, fun k hk => ?_⟩
      have hk2 := hk
      obtain ⟨B, -, e3, -⟩ := hk2
      have := fb_ct_le B (t 2 0)
      obtain ⟨x', y', z', e2, h5⟩ := SB_TR g.R he hr hg h2 hk
      have := hv x' y' z' h5
      omega
  · rintro i M' hi ⟨hf, hm⟩ ih D v rfl rfl
    have hfa : q_fs lB fA M M' := hf1.mono.tr hf.mono
    have g' := g.B43 hfa
    have p' : g_P M' t (onE t e) (fun j => mk n e r j) (n (432 + (6 * e + r))) (n (468 + (6 * e + r))) (n (504 + (6 * e + r))) (t 7 (n (6 * e + r)).toNat) (t 1 0) := by
      unfold g_P at p1 ⊢
      rw [hf.c1 238, hf.c1 239]
      exact p1
    refine w_at 90 [72] ?_
    refine ⟨_, g'.jN, ?_⟩
    refine z_le (t 2 0) i (fun h => by omega) (fun h => ?_)
    refine p_placeOf g'.K p' i (t 4 i) hi rfl ?_
    refine ⟨i, _, by (first | assumption | (simp only [z_nat, z_lit, ← Int32.ofInt_add, ← Int32.ofInt_sub, ← Int32.ofInt_mul]; exact congrArg Int32.ofInt (by omega)) | (simp only [z_nat, z_lit, ← Int32.ofInt_add, ← Int32.ofInt_sub, ← Int32.ofInt_mul]; done) | exact congrArg Int32.ofInt (by omega) | rfl), by (dsimp only; omega), rfl, ?_⟩
    have e39 : (q_si M' 268 i (nI (rk (ofS t (onE t e) (t 4 i)) (fun j => mk n e r j) (t 2 0) i))).1 239 i = Int32.ofInt (mk n e r i) := (p'.2.1 i hi).1
    refine ⟨i, _, by (first | assumption | (simp only [z_nat, z_lit, ← Int32.ofInt_add, ← Int32.ofInt_sub, ← Int32.ofInt_mul]; exact congrArg Int32.ofInt (by omega)) | (simp only [z_nat, z_lit, ← Int32.ofInt_add, ← Int32.ofInt_sub, ← Int32.ofInt_mul]; done) | exact congrArg Int32.ofInt (by omega) | rfl), by (dsimp only; omega), e39, ?_⟩
    refine ⟨i, _, by (first | assumption | (simp only [z_nat, z_lit, ← Int32.ofInt_add, ← Int32.ofInt_sub, ← Int32.ofInt_mul]; exact congrArg Int32.ofInt (by omega)) | (simp only [z_nat, z_lit, ← Int32.ofInt_add, ← Int32.ofInt_sub, ← Int32.ofInt_mul]; done) | exact congrArg Int32.ofInt (by omega) | rfl), by (dsimp only; omega), rfl, ?_⟩
    refine ih _ ⟨hf.s1.s1, fun j hj => ?_⟩ _ _ rfl (by (first | assumption | (simp only [z_nat, z_lit, ← Int32.ofInt_add, ← Int32.ofInt_sub, ← Int32.ofInt_mul]; exact congrArg Int32.ofInt (by omega)) | (simp only [z_nat, z_lit, ← Int32.ofInt_add, ← Int32.ofInt_sub, ← Int32.ofInt_mul]; done) | exact congrArg Int32.ofInt (by omega) | rfl))
    by_cases q : j = i
    · subst q
      exact ⟨(q_si_nn (by omega)).trans q_si_s, q_si_s⟩
    · exact ⟨(q_si_nn (by omega)).trans ((q_si_n q).trans (hm j (by omega)).1), (q_si_n q).trans ((q_si_nn (by omega)).trans (hm j (by omega)).2)⟩
set_option maxRecDepth 100000 in
set_option maxHeartbeats 4000000 in
theorem k_panelBits (g : g_R M t n) {a : Int32} (e : Nat) (he : e < t 8 0) (hQ : ∀ x, isMk x (fun j => j < t 2 0 ∧ onE t e j = true) → Q (some (.int x)) M) (ha : a = nI e := by (first | assumption | (simp only [z_nat, z_lit, ← Int32.ofInt_add, ← Int32.ofInt_sub, ← Int32.ofInt_mul]; exact congrArg Int32.ofInt (by omega)) | (simp only [z_nat, z_lit, ← Int32.ofInt_add, ← Int32.ofInt_sub, ← Int32.ofInt_mul]; done) | exact congrArg Int32.ofInt (by omega) | rfl)) : q_C q_mt (L, xs, q_shp) E nX12_panelBits (d + 2) 0 0 [.ref 271, .int (a)] M Q := by
  subst ha
  have h11 := g.j11
  have W := lp_up (W := fun i => ∀ u v, isMk u (fun j => j < i ∧ onE t e j = true) → v = nI i → q_G q_mt (L, xs, q_shp) E nX12_panelBits (d + 2) 0 0 (q_Q (L, xs, q_shp) E Q) 4 [some (.ref 271), some (.int (nI e)), some (.int (u)), some (.int (v))] [] M) (t 2 0) ?_ ?_ 0 (Nat.zero_le _)
  · refine w_in 90 [4] ?_
    exact W _ _ (fun j hj => ⟨fun z => absurd ((b_0 j).symm.trans z) (by decide), fun z => absurd z.1 (Nat.not_lt_zero _)⟩) rfl
  · rintro u v hu rfl
    refine w_at 90 [4] ?_
    refine ⟨2, _, by (first | assumption | (simp only [z_nat, z_lit, ← Int32.ofInt_add, ← Int32.ofInt_sub, ← Int32.ofInt_mul]; exact congrArg Int32.ofInt (by omega)) | (simp only [z_nat, z_lit, ← Int32.ofInt_add, ← Int32.ofInt_sub, ← Int32.ofInt_mul]; done) | exact congrArg Int32.ofInt (by omega) | rfl), by (dsimp only; omega), g.R2, ?_⟩
    exact z_le (t 2 0) (t 2 0) (fun h => ⟨_, rfl, hQ u hu⟩) (fun h => by omega)
  · rintro i hi ih u v hu rfl
    refine w_at 90 [4] ?_
    refine ⟨2, _, by (first | assumption | (simp only [z_nat, z_lit, ← Int32.ofInt_add, ← Int32.ofInt_sub, ← Int32.ofInt_mul]; exact congrArg Int32.ofInt (by omega)) | (simp only [z_nat, z_lit, ← Int32.ofInt_add, ← Int32.ofInt_sub, ← Int32.ofInt_mul]; done) | exact congrArg Int32.ofInt (by omega) | rfl), by (dsimp only; omega), g.R2, ?_⟩
    refine z_le (t 2 0) i (fun h => by omega) (fun h => ?_)
    refine k_judges g i e hi he (fun hp => br_f (by decide) ?_) (fun hp => br_t (by decide) ?_)
    · refine ih _ _ ?_ (by (first | assumption | (simp only [z_nat, z_lit, ← Int32.ofInt_add, ← Int32.ofInt_sub, ← Int32.ofInt_mul]; exact congrArg Int32.ofInt (by omega)) | (simp only [z_nat, z_lit, ← Int32.ofInt_add, ← Int32.ofInt_sub, ← Int32.ofInt_mul]; done) | exact congrArg Int32.ofInt (by omega) | rfl))
      refine hu.or (by omega) (fun j => ?_)
      constructor
      · rintro ⟨z1, z2⟩
        by_cases qi : j = i
        · exact Or.inr qi
        · exact Or.inl ⟨by omega, z2⟩
      · rintro (⟨z1, z2⟩ | z)
        · exact ⟨by omega, z2⟩
        · subst z
          exact ⟨by omega, hp⟩
    · refine ih _ _ ?_ (by (first | assumption | (simp only [z_nat, z_lit, ← Int32.ofInt_add, ← Int32.ofInt_sub, ← Int32.ofInt_mul]; exact congrArg Int32.ofInt (by omega)) | (simp only [z_nat, z_lit, ← Int32.ofInt_add, ← Int32.ofInt_sub, ← Int32.ofInt_mul]; done) | exact congrArg Int32.ofInt (by omega) | rfl))
      intro j hj
      rw [b_or, show bt (Int32.ofInt 0) j = false from b_0 j, Bool.or_false, hu j hj]
      constructor
      · rintro ⟨z1, z2⟩
        exact ⟨by omega, z2⟩
      · rintro ⟨z1, z2⟩
        by_cases qi : j = i
        · subst qi
          exact absurd (hp.symm.trans z2) (by decide)
        · exact ⟨by omega, z2⟩
set_option maxRecDepth 100000 in
set_option maxHeartbeats 4000000 in
theorem k_bits {a : Int32} (K : Nat) (hK : K < 2048) (hQ : Q (some (.int (nI (fb_ct (fun j => K.testBit j) 11)))) M) (ha : a = nI K := by (first | assumption | (simp only [z_nat, z_lit, ← Int32.ofInt_add, ← Int32.ofInt_sub, ← Int32.ofInt_mul]; exact congrArg Int32.ofInt (by omega)) | (simp only [z_nat, z_lit, ← Int32.ofInt_add, ← Int32.ofInt_sub, ← Int32.ofInt_mul]; done) | exact congrArg Int32.ofInt (by omega) | rfl)) : q_C q_mt (L, xs, q_shp) E nX12_bits (d) 0 0 [.int (a)] M Q := by
  subst ha
  have h12 : fb_ct (fun j => K.testBit j) 12 = fb_ct (fun j => K.testBit j) 11 := ct_f (Nat.testBit_lt_two_pow (show K < 2 ^ 11 from hK))
  rw [← h12] at hQ
  have W := lp_up (W := fun i => ∀ u v, u = nI (fb_ct (fun j => K.testBit j) i) → v = nI i → q_G q_mt (L, xs, q_shp) E nX12_bits (d) 0 0 (q_Q (L, xs, q_shp) E Q) 4 [some (.int (nI K)), some (.int (u)), some (.int (v))] [] M) 12 ?_ ?_ 0 (Nat.zero_le _)
  · refine w_in 90 [4] ?_
    exact W _ _ rfl rfl
  · rintro u v rfl rfl
    refine w_at 90 [4] ?_
    exact z_le 12 (12 : Nat) (fun h => ⟨_, rfl, hQ⟩) (fun h => by omega)
  · rintro i hi ih u v rfl rfl
    refine w_at 90 [4] ?_
    refine z_le 12 (i : Int) (fun h => by omega) (fun h => ?_)
    have e := b_at (x := nI K) (j := i) (by omega)
    rw [bt_nat (by omega)] at e
    refine ih _ _ ?_ (by (first | assumption | (simp only [z_nat, z_lit, ← Int32.ofInt_add, ← Int32.ofInt_sub, ← Int32.ofInt_mul]; exact congrArg Int32.ofInt (by omega)) | (simp only [z_nat, z_lit, ← Int32.ofInt_add, ← Int32.ofInt_sub, ← Int32.ofInt_mul]; done) | exact congrArg Int32.ofInt (by omega) | rfl))
    refine (congrArg (fun z => nI (fb_ct (fun j => K.testBit j) i) + z) e).trans ?_
    by_cases q : K.testBit i = true
    · rw [if_pos q, ct_t (p := fun j => K.testBit j) q]
      (first | assumption | (simp only [z_nat, z_lit, ← Int32.ofInt_add, ← Int32.ofInt_sub, ← Int32.ofInt_mul]; exact congrArg Int32.ofInt (by omega)) | (simp only [z_nat, z_lit, ← Int32.ofInt_add, ← Int32.ofInt_sub, ← Int32.ofInt_mul]; done) | exact congrArg Int32.ofInt (by omega) | rfl)
    · rw [if_neg q, ct_f (p := fun j => K.testBit j) (Bool.eq_false_iff.mpr q)]
      exact Int32.add_zero _
set_option maxRecDepth 100000 in
set_option maxHeartbeats 4000000 in
theorem k_bribedPoints (g : g_R M t n) {a b c : Int32} (e r K : Nat) (he : e < t 8 0) (hr : r < t 0 0) (hg : n (576 + (6 * e + r)) = 1) (h0 : n (540 + (6 * e + r)) = 0) (hK : ∀ i, i < t 2 0 → K.testBit i = true → onE t e i = true) (hQ : ∀ M', q_fs [293] fD M M' → Q (some (.int (Int32.ofInt (pB t n e r (fun i => K.testBit i))))) M') (ha : a = nI e := by (first | assumption | (simp only [z_nat, z_lit, ← Int32.ofInt_add, ← Int32.ofInt_sub, ← Int32.ofInt_mul]; exact congrArg Int32.ofInt (by omega)) | (simp only [z_nat, z_lit, ← Int32.ofInt_add, ← Int32.ofInt_sub, ← Int32.ofInt_mul]; done) | exact congrArg Int32.ofInt (by omega) | rfl)) (hb : b = nI (r + 1) := by (first | assumption | (simp only [z_nat, z_lit, ← Int32.ofInt_add, ← Int32.ofInt_sub, ← Int32.ofInt_mul]; exact congrArg Int32.ofInt (by omega)) | (simp only [z_nat, z_lit, ← Int32.ofInt_add, ← Int32.ofInt_sub, ← Int32.ofInt_mul]; done) | exact congrArg Int32.ofInt (by omega) | rfl)) (hc : c = nI K := by (first | assumption | (simp only [z_nat, z_lit, ← Int32.ofInt_add, ← Int32.ofInt_sub, ← Int32.ofInt_mul]; exact congrArg Int32.ofInt (by omega)) | (simp only [z_nat, z_lit, ← Int32.ofInt_add, ← Int32.ofInt_sub, ← Int32.ofInt_mul]; done) | exact congrArg Int32.ofInt (by omega) | rfl)) : q_C q_mt (L, xs, q_shp) E nX12_bribedPoints (d + 5) 0 0 [.ref 271, .int (a), .int (b), .int (c)] M Q := by
  subst ha hb hc
  have h11 := g.j11
  have hpr := prt_on g he hr hg h0
  refine w_in 90 [9] ?_
  refine k_laysDive g e r he hr (fun M3 hf3 l3 => ?_)
  have W := lp_m (W := fun i M' => ∀ v, v = nI i → q_G q_mt (L, xs, q_shp) E nX12_bribedPoints (d + 5) 0 0 (q_Q (L, xs, q_shp) E Q) 9 [some (.ref 271), some (.int (nI e)), some (.int (nI (r + 1))), some (.int (nI K)), some (.int (v))] [] M') (J := fun i M' => q_fs [293] [] M3 M' ∧ ∀ j, j < 11 → M'.1 293 j = Int32.ofInt (if j < i ∧ K.testBit j = true then 20 else mk n e r j)) (t 2 0) ?_ ?_ 0 M3 (Nat.zero_le _) ⟨q_fs.rf, fun j hj => by rw [if_neg (by omega)]; exact (l3.1 j hj).1⟩
  · exact W _ rfl
  · rintro M' ⟨hf, hm⟩ v rfl
    have hf4 : q_fs [293] fD M M' := hf3.tr hf.mono
    have g4 := g.fs hf4
    have l4 : g_L M' (mB n e r (fun i => decide (i < t 2 0) && K.testBit i)) (n (432 + (6 * e + r))) (n (468 + (6 * e + r))) (n (504 + (6 * e + r))) (t 7 (n (6 * e + r)).toNat) := by
      refine ⟨fun i hi => ⟨?_, mB_b g _ he hr i hi⟩, ⟨(hf.p1 271 36).trans l3.2.1.1, l3.2.1.2⟩, ⟨(hf.p1 271 37).trans l3.2.2.1.1, l3.2.2.1.2⟩, ⟨(hf.p1 271 38).trans l3.2.2.2.1.1, l3.2.2.2.1.2⟩, ⟨(hf.p1 271 39).trans l3.2.2.2.2.1, l3.2.2.2.2.2⟩⟩
      rw [hm i hi]
      unfold mB
      by_cases q : i < t 2 0 ∧ K.testBit i = true
      · rw [if_pos q, if_pos (by dsimp only; rw [q.2, decide_eq_true q.1]; rfl)]
      · rw [if_neg q, if_neg (fun z => q (by rw [Bool.and_eq_true, decide_eq_true_eq] at z; exact z))]
    have hpw : ∀ i, i < t 2 0 → prt (mB n e r (fun i => decide (i < t 2 0) && K.testBit i)) (-1) i = onE t e i := fun i hi => by
      by_cases q : K.testBit i = true
      · have e1 : mB n e r (fun i => decide (i < t 2 0) && K.testBit i) i = 20 := if_pos (by dsimp only; rw [q, decide_eq_true hi]; rfl)
        unfold prt
        rw [e1, decide_eq_false (by omega), decide_eq_false (by omega)]
        exact (hK i hi q).symm
      · have e1 : mB n e r (fun i => decide (i < t 2 0) && K.testBit i) i = mk n e r i := if_neg (by dsimp only; rw [Bool.eq_false_iff.mpr q, Bool.and_false]; decide)
        rw [← hpr i hi]
        unfold prt
        rw [e1]
    have ep : ptS t (prt (mB n e r (fun i => decide (i < t 2 0) && K.testBit i)) (-1)) (cB t n e r (fun i => decide (i < t 2 0) && K.testBit i)) (t 1 0) (t 7 (n (6 * e + r)).toNat) = pB t n e r (fun i => K.testBit i) := (ptS_cong hpw).trans (pB_cong g he hr hg h0 (fun i hi _ => by rw [decide_eq_true hi, Bool.true_and]))
    refine w_at 90 [9] ?_
    refine ⟨2, _, by (first | assumption | (simp only [z_nat, z_lit, ← Int32.ofInt_add, ← Int32.ofInt_sub, ← Int32.ofInt_mul]; exact congrArg Int32.ofInt (by omega)) | (simp only [z_nat, z_lit, ← Int32.ofInt_add, ← Int32.ofInt_sub, ← Int32.ofInt_mul]; done) | exact congrArg Int32.ofInt (by omega) | rfl), by (dsimp only; omega), g4.R2, ?_⟩
    refine z_le (t 2 0) (t 2 0) (fun _ => ?_) (fun h => by omega)
    refine ⟨1, _, by (first | assumption | (simp only [z_nat, z_lit, ← Int32.ofInt_add, ← Int32.ofInt_sub, ← Int32.ofInt_mul]; exact congrArg Int32.ofInt (by omega)) | (simp only [z_nat, z_lit, ← Int32.ofInt_add, ← Int32.ofInt_sub, ← Int32.ofInt_mul]; done) | exact congrArg Int32.ofInt (by omega) | rfl), by (dsimp only; omega), g4.R1, ?_⟩
    refine k_laidPoints g4 l4 (t 1 0) (-1) g.p3 (by omega) ?_
    rw [ep]
    exact ⟨_, rfl, hQ M' hf4⟩
  · rintro i M' hi ⟨hf, hm⟩ ih v rfl
    have hf4 : q_fs [293] fD M M' := hf3.tr hf.mono
    have g4 := g.fs hf4
    refine w_at 90 [9] ?_
    refine ⟨2, _, by (first | assumption | (simp only [z_nat, z_lit, ← Int32.ofInt_add, ← Int32.ofInt_sub, ← Int32.ofInt_mul]; exact congrArg Int32.ofInt (by omega)) | (simp only [z_nat, z_lit, ← Int32.ofInt_add, ← Int32.ofInt_sub, ← Int32.ofInt_mul]; done) | exact congrArg Int32.ofInt (by omega) | rfl), by (dsimp only; omega), g4.R2, ?_⟩
    refine z_le (t 2 0) i (fun h => by omega) (fun h => ?_)
    refine k_has (nI K) i (by omega) (fun h1 => br_f (by decide) ?_) (fun h1 => br_t (by decide) ?_)
    · rw [bt_nat (by omega)] at h1
      refine ⟨i, _, by (first | assumption | (simp only [z_nat, z_lit, ← Int32.ofInt_add, ← Int32.ofInt_sub, ← Int32.ofInt_mul]; exact congrArg Int32.ofInt (by omega)) | (simp only [z_nat, z_lit, ← Int32.ofInt_add, ← Int32.ofInt_sub, ← Int32.ofInt_mul]; done) | exact congrArg Int32.ofInt (by omega) | rfl), by (dsimp only; omega), rfl, ?_⟩
      refine ih _ ⟨hf.s1, fun j hj => ?_⟩ _ (by (first | assumption | (simp only [z_nat, z_lit, ← Int32.ofInt_add, ← Int32.ofInt_sub, ← Int32.ofInt_mul]; exact congrArg Int32.ofInt (by omega)) | (simp only [z_nat, z_lit, ← Int32.ofInt_add, ← Int32.ofInt_sub, ← Int32.ofInt_mul]; done) | exact congrArg Int32.ofInt (by omega) | rfl))
      by_cases q : j = i
      · subst q
        rw [q_si_s, if_pos ⟨by omega, h1⟩]
      · rw [q_si_n q, hm j hj]
        by_cases q2 : j < i ∧ K.testBit j = true
        · rw [if_pos q2, if_pos ⟨by omega, q2.2⟩]
        · rw [if_neg q2, if_neg (fun z => q2 ⟨by omega, z.2⟩)]
    · rw [bt_nat (by omega)] at h1
      refine ih _ ⟨hf, fun j hj => ?_⟩ _ (by (first | assumption | (simp only [z_nat, z_lit, ← Int32.ofInt_add, ← Int32.ofInt_sub, ← Int32.ofInt_mul]; exact congrArg Int32.ofInt (by omega)) | (simp only [z_nat, z_lit, ← Int32.ofInt_add, ← Int32.ofInt_sub, ← Int32.ofInt_mul]; done) | exact congrArg Int32.ofInt (by omega) | rfl))
      rw [hm j hj]
      by_cases q : j = i
      · subst q
        rw [if_neg (fun z => by omega), if_neg (fun z => absurd (h1.symm.trans z.2) (by decide))]
      · by_cases q2 : j < i ∧ K.testBit j = true
        · rw [if_pos q2, if_pos ⟨by omega, q2.2⟩]
        · rw [if_neg q2, if_neg (fun z => q2 ⟨by omega, z.2⟩)]
theorem sub_0 {K : Nat} {x : Int32} {p : Nat → Prop} (h : isMk x p) (hK : K < 2048) : (nI K &&& (x ^^^ (-1))) = 0 ↔ ∀ i, i < 32 → K.testBit i = true → p i := by
  constructor
  · intro e i hi hb
    have h1 : bt (nI K &&& (x ^^^ (-1))) i = bt 0 i := by rw [e]
    rw [b_and, b_xor, b_m1 i hi, b_0, bt_nat hi, hb, Bool.true_and] at h1
    refine (h i hi).mp ?_
    cases q : bt x i with
    | true => rfl
    | false => rw [q] at h1; exact absurd h1 (by decide)
  · intro hp
    refine b_ext (fun i hi => ?_)
    rw [b_and, b_xor, b_m1 i hi, b_0, bt_nat hi]
    cases q : K.testBit i with
    | false => rfl
    | true => rw [(h i hi).mpr (hp i hi q)]; rfl
theorem shl_J : ∀ J, J ≤ 11 → (1 : Int32) <<< (nI J &&& 31) = nI (2 ^ J) := by decide +kernel
/-- of the masks ahead of K the fewest -/
def brI (t : q_T) (n : sN) (e r : Nat) (thr : Int) (K : Nat) (v : Int) : Prop := (v = -2 ∧ ∀ k, k < K → (∀ i, i < t 2 0 → k.testBit i = true → onE t e i = true) → ¬ thr < pB t n e r (fun i => k.testBit i)) ∨ (∃ b : Nat, v = b ∧ b ≤ 11 ∧ SB t n e r thr b ∧ ∀ k, k < K → (∀ i, i < t 2 0 → k.testBit i = true → onE t e i = true) → thr < pB t n e r (fun i => k.testBit i) → b ≤ fb_ct (fun i => k.testBit i) (t 2 0))
set_option maxRecDepth 100000 in
set_option maxHeartbeats 4000000 in
theorem k_brLoop (g0 : g_A 43 M t n) (e r o : Nat) (he : e < t 8 0) (hr : r < t 0 0) (ho : o < t 8 0) (hg : n (576 + (6 * e + r)) = 1) (h0 : n (540 + (6 * e + r)) = 0) {M1 : q_M} (hf1 : q_fs lB fA M M1) {l4 l5 x : Int32} (h4 : l4 = Int32.ofInt (toF t n e - toF t n o)) (h5 : l5 = Int32.ofInt (ptE t n e r (t 1 0) (-1))) (hx : isMk x (fun j => j < t 2 0 ∧ onE t e j = true)) (hD : ¬ toF t n o < toF t n e) (hQ : ∀ M' v, q_fs lB fA M M' → isBr t n e r (thB t n e r o) v → Q (some (.int (Int32.ofInt v))) M') : q_G q_mt (L, xs, q_shp) E nX12_bribes (d + 8) 0 0 (q_Q (L, xs, q_shp) E Q) 92 [some (.ref 271), some (.int (nI e)), some (.int (nI (r + 1))), some (.int (nI o)), some (.int (l4)), some (.int (l5)), some (.int (x)), some (.int (Int32.ofInt (-2))), some (.int (Int32.ofInt 1))] [] M1 := by
  subst h4 h5
  have g := g0.R
  have h11 := g.j11
  have b1 : 0 ≤ toF t n e ∧ toF t n e ≤ 108000 := toE_b g (dr := t 1 0) (bar := -1) he
  have b2 : 0 ≤ toF t n o ∧ toF t n o ≤ 108000 := toE_b g (dr := t 1 0) (bar := -1) ho
  have b3 := ptE_b g (dr := t 1 0) (bar := -1) he hr
  have hJ : 2 ^ t 2 0 ≤ 2 ^ 11 := Nat.pow_le_pow_right (by decide) h11
  have hJ1 : 1 ≤ 2 ^ t 2 0 := Nat.one_le_two_pow
  have sh := shl_J (t 2 0) h11
  have cnt : ∀ K, K < 2 ^ t 2 0 → fb_ct (fun i => K.testBit i) 11 = fb_ct (fun i => K.testBit i) (t 2 0) := fun K hK => ct_eq h11 (fun _ _ => rfl) (fun i z1 _ => Nat.testBit_lt_two_pow (Nat.lt_of_lt_of_le hK (Nat.pow_le_pow_right (by decide) z1)))
  have W := lp_m (W := fun K M' => ∀ u v w, brI t n e r (thB t n e r o) K u → w = Int32.ofInt u → v = nI K → q_G q_mt (L, xs, q_shp) E nX12_bribes (d + 8) 0 0 (q_Q (L, xs, q_shp) E Q) 92 [some (.ref 271), some (.int (nI e)), some (.int (nI (r + 1))), some (.int (nI o)), some (.int (Int32.ofInt (toF t n e - toF t n o))), some (.int (Int32.ofInt (ptE t n e r (t 1 0) (-1)))), some (.int (x)), some (.int (w)), some (.int (v))] [] M') (J := fun _ M' => q_fs lB fA M M') (2 ^ t 2 0) ?_ ?_ 1 M1 hJ1 hf1
  · refine W (-2) _ _ (Or.inl ⟨rfl, fun k hk _ z => ?_⟩) rfl rfl
    obtain rfl : k = 0 := by omega
    have e0 : pB t n e r (fun i => Nat.testBit 0 i) = ptE t n e r (t 1 0) (-1) := by
      unfold ptE
      rw [if_neg (by omega), ptS_cong (prt_on g he hr hg h0)]
      unfold pB
      have em : mB n e r (fun i => Nat.testBit 0 i) = fun j => mk n e r j := funext fun i => if_neg (by dsimp only; rw [Nat.zero_testBit]; decide)
      rw [show cB t n e r (fun i => Nat.testBit 0 i) = cvE t n e r from by show cvt t (mB n e r (fun i => Nat.testBit 0 i)) _ _ _ = _; rw [em]]
    rw [e0] at z
    unfold thB at z
    omega
  · rintro M' hf u v w hI rfl rfl
    have g' := g.fs hf
    refine w_at 90 [92] ?_
    refine ⟨2, _, by (first | assumption | (simp only [z_nat, z_lit, ← Int32.ofInt_add, ← Int32.ofInt_sub, ← Int32.ofInt_mul]; exact congrArg Int32.ofInt (by omega)) | (simp only [z_nat, z_lit, ← Int32.ofInt_add, ← Int32.ofInt_sub, ← Int32.ofInt_mul]; done) | exact congrArg Int32.ofInt (by omega) | rfl), by (dsimp only; omega), g'.R2, ?_⟩
    refine z_le ((2 ^ t 2 0 : Nat) : Int) ((2 ^ t 2 0 : Nat) : Int) (fun _ => ⟨_, rfl, hQ M' u hf ?_⟩) (fun h => by omega) (hx := sh)
    have find : ∀ k, SB t n e r (thB t n e r o) k → ∃ K, K < 2 ^ t 2 0 ∧ (∀ i, i < t 2 0 → K.testBit i = true → onE t e i = true) ∧ thB t n e r o < pB t n e r (fun i => K.testBit i) ∧ fb_ct (fun i => K.testBit i) (t 2 0) = k := by
      rintro k ⟨B, hB, hk, hp⟩
      obtain ⟨K, hK, hb⟩ := mask_ex B (t 2 0)
      have hbe : ∀ i, i < t 2 0 → K.testBit i = B i := fun i hi => by rw [hb i, decide_eq_true hi, Bool.true_and]
      refine ⟨K, hK, fun i hi z => hB i hi ((hbe i hi).symm.trans z), ?_, ?_⟩
      · rw [pB_cong g he hr hg h0 (B' := B) (fun i hi _ => hbe i hi)]
        exact hp
      · rw [← hk]
        exact fb_ct_cong hbe
    rcases hI with ⟨rfl, hn⟩ | ⟨b, rfl, -, hS, hn⟩
    · refine Or.inr ⟨rfl, fun k hk => ?_⟩
      obtain ⟨K, hK, hs, hp, -⟩ := find k hk
      exact hn K hK hs hp
    · refine Or.inl ⟨b, rfl, hS, fun k hk => ?_⟩
      obtain ⟨K, hK, hs, hp, hc⟩ := find k hk
      have := hn K hK hs hp
      omega
  · rintro K M' hK hf ih u v w hI rfl rfl
    have g' := g.fs hf
    have hK2 : K < 2048 := Nat.lt_of_lt_of_le hK hJ
    have ub : -2 ≤ u ∧ u ≤ 11 := by
      rcases hI with ⟨rfl, -⟩ | ⟨b, rfl, hb, -⟩ <;> omega
    have cb : fb_ct (fun i => K.testBit i) 11 ≤ 11 := fb_ct_le _ _
    have nx : ∀ M2 u', q_fs lB fA M M2 → brI t n e r (thB t n e r o) (K + 1) u' → ∀ w v, w = Int32.ofInt u' → v = nI (K + 1) → q_G q_mt (L, xs, q_shp) E nX12_bribes (d + 8) 0 0 (q_Q (L, xs, q_shp) E Q) 92 [some (.ref 271), some (.int (nI e)), some (.int (nI (r + 1))), some (.int (nI o)), some (.int (Int32.ofInt (toF t n e - toF t n o))), some (.int (Int32.ofInt (ptE t n e r (t 1 0) (-1)))), some (.int (x)), some (.int (w)), some (.int (v))] [] M2 := fun M2 u' hf2 hI2 w v hw hv => ih M2 hf2 u' v w hI2 hw hv
    have same : (¬ ((∀ i, i < t 2 0 → K.testBit i = true → onE t e i = true) ∧ thB t n e r o < pB t n e r (fun i => K.testBit i)) ∨ (¬ u = -2 ∧ u ≤ fb_ct (fun i => K.testBit i) 11)) → brI t n e r (thB t n e r o) (K + 1) u := by
      intro hz
      rcases hI with ⟨rfl, hn⟩ | ⟨b, rfl, hb, hS, hn⟩
      · refine Or.inl ⟨rfl, fun k hk hs hp => ?_⟩
        by_cases q : k = K
        · subst q
          rcases hz with hz | hz
          · exact hz ⟨hs, hp⟩
          · exact hz.1 rfl
        · exact hn k (by omega) hs hp
      · refine Or.inr ⟨b, rfl, hb, hS, fun k hk hs hp => ?_⟩
        by_cases q : k = K
        · subst q
          rcases hz with hz | hz
          · exact absurd ⟨hs, hp⟩ hz
          · rw [← cnt k hK]
            omega
        · exact hn k (by omega) hs hp
    have better : (∀ i, i < t 2 0 → K.testBit i = true → onE t e i = true) → thB t n e r o < pB t n e r (fun i => K.testBit i) → (u = -2 ∨ (fb_ct (fun i => K.testBit i) 11 : Int) < u) → brI t n e r (thB t n e r o) (K + 1) (fb_ct (fun i => K.testBit i) 11) := by
      intro hs hp hu
      refine Or.inr ⟨fb_ct (fun i => K.testBit i) 11, rfl, cb, ⟨fun i => K.testBit i, hs, (cnt K hK).symm, hp⟩, fun k hk hs2 hp2 => ?_⟩
      by_cases q : k = K
      · subst q
        rw [cnt k hK]
        exact Nat.le_refl _
      · rcases hI with ⟨rfl, hn⟩ | ⟨b, rfl, hb, hS, hn⟩
        · exact absurd hp2 (hn k (by omega) hs2)
        · have := hn k (by omega) hs2 hp2
          omega
    have hsub := sub_0 (K := K) hx hK2
    have hsub2 : (nI K &&& (x ^^^ (-1))) = 0 ↔ ∀ i, i < t 2 0 → K.testBit i = true → onE t e i = true := by
      rw [hsub]
      constructor
      · intro z i hi hb
        exact (z i (by omega) hb).2
      · intro z i hi hb
        by_cases q : i < t 2 0
        · exact ⟨q, z i q hb⟩
        · rw [Nat.testBit_lt_two_pow (Nat.lt_of_lt_of_le hK (Nat.pow_le_pow_right (by decide) (by omega)))] at hb
          exact absurd hb (by decide)
    have bb := pB_b g (fun i => K.testBit i) he hr hg h0
    have thd : thB t n e r o = ptE t n e r (t 1 0) (-1) + (toF t n o - toF t n e) := rfl
    refine w_at 90 [92] ?_
    refine ⟨2, _, by (first | assumption | (simp only [z_nat, z_lit, ← Int32.ofInt_add, ← Int32.ofInt_sub, ← Int32.ofInt_mul]; exact congrArg Int32.ofInt (by omega)) | (simp only [z_nat, z_lit, ← Int32.ofInt_add, ← Int32.ofInt_sub, ← Int32.ofInt_mul]; done) | exact congrArg Int32.ofInt (by omega) | rfl), by (dsimp only; omega), g'.R2, ?_⟩
    refine z_le ((2 ^ t 2 0 : Nat) : Int) (K : Int) (fun h => by omega) (fun _ => ?_) (hx := sh)
    refine And.intro (fun z => ?_) (fun z => ?_)
    · exact nx M' u hf (same (Or.inl (fun z2 => z (hsub2.mpr z2.1)))) _ _ rfl (by (first | assumption | (simp only [z_nat, z_lit, ← Int32.ofInt_add, ← Int32.ofInt_sub, ← Int32.ofInt_mul]; exact congrArg Int32.ofInt (by omega)) | (simp only [z_nat, z_lit, ← Int32.ofInt_add, ← Int32.ofInt_sub, ← Int32.ofInt_mul]; done) | exact congrArg Int32.ofInt (by omega) | rfl))
    · have hs := hsub2.mp z
      refine z_eq u (-2) (fun hu => ?_) (fun hu => ?_)
      · refine k_bribedPoints g' e r K he hr hg h0 hs (fun M2 hf2 => ?_)
        have hf3 : q_fs lB fA M M2 := hf.tr hf2.mono
        refine z_le (toF t n e - toF t n o - ptE t n e r (t 1 0) (-1) + pB t n e r (fun i => K.testBit i)) 0 (fun h2 => ?_) (fun h2 => ?_)
        · exact nx M2 u hf3 (same (Or.inl (fun z2 => by have := z2.2; omega))) _ _ rfl (by (first | assumption | (simp only [z_nat, z_lit, ← Int32.ofInt_add, ← Int32.ofInt_sub, ← Int32.ofInt_mul]; exact congrArg Int32.ofInt (by omega)) | (simp only [z_nat, z_lit, ← Int32.ofInt_add, ← Int32.ofInt_sub, ← Int32.ofInt_mul]; done) | exact congrArg Int32.ofInt (by omega) | rfl))
        · refine k_bits K hK2 ?_
          exact nx M2 _ hf3 (better hs (by omega) (Or.inl hu)) _ _ rfl (by (first | assumption | (simp only [z_nat, z_lit, ← Int32.ofInt_add, ← Int32.ofInt_sub, ← Int32.ofInt_mul]; exact congrArg Int32.ofInt (by omega)) | (simp only [z_nat, z_lit, ← Int32.ofInt_add, ← Int32.ofInt_sub, ← Int32.ofInt_mul]; done) | exact congrArg Int32.ofInt (by omega) | rfl))
      · refine k_bits K hK2 ?_
        refine z_lt (fb_ct (fun i => K.testBit i) 11) u (fun h1 => ?_) (fun h1 => ?_)
        · refine k_bribedPoints g' e r K he hr hg h0 hs (fun M2 hf2 => ?_)
          have hf3 : q_fs lB fA M M2 := hf.tr hf2.mono
          refine z_le (toF t n e - toF t n o - ptE t n e r (t 1 0) (-1) + pB t n e r (fun i => K.testBit i)) 0 (fun h2 => ?_) (fun h2 => ?_)
          · exact nx M2 u hf3 (same (Or.inl (fun z2 => by have := z2.2; omega))) _ _ rfl (by (first | assumption | (simp only [z_nat, z_lit, ← Int32.ofInt_add, ← Int32.ofInt_sub, ← Int32.ofInt_mul]; exact congrArg Int32.ofInt (by omega)) | (simp only [z_nat, z_lit, ← Int32.ofInt_add, ← Int32.ofInt_sub, ← Int32.ofInt_mul]; done) | exact congrArg Int32.ofInt (by omega) | rfl))
          · refine k_bits K hK2 ?_
            exact nx M2 _ hf3 (better hs (by omega) (Or.inr h1)) _ _ rfl (by (first | assumption | (simp only [z_nat, z_lit, ← Int32.ofInt_add, ← Int32.ofInt_sub, ← Int32.ofInt_mul]; exact congrArg Int32.ofInt (by omega)) | (simp only [z_nat, z_lit, ← Int32.ofInt_add, ← Int32.ofInt_sub, ← Int32.ofInt_mul]; done) | exact congrArg Int32.ofInt (by omega) | rfl))
        · exact nx M' u hf (same (Or.inr ⟨hu, h1⟩)) _ _ rfl (by (first | assumption | (simp only [z_nat, z_lit, ← Int32.ofInt_add, ← Int32.ofInt_sub, ← Int32.ofInt_mul]; exact congrArg Int32.ofInt (by omega)) | (simp only [z_nat, z_lit, ← Int32.ofInt_add, ← Int32.ofInt_sub, ← Int32.ofInt_mul]; done) | exact congrArg Int32.ofInt (by omega) | rfl))
end BO
