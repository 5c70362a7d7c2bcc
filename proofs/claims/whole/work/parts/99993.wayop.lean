/-! the calls ways, way: both sides -/
section WO
variable {L : Nat} {xs : Nat → Int32} {E : q_E} {d : Nat} {M : q_M} {t : q_T} {n : sN} {Q : Option Value → q_M → Prop} {P : q_M → Prop}
abbrev lK : List Nat := [20, 245, 246, 247, 289, 290, 291]
abbrev fK : List (Nat × Nat) := [(244, 8), (271, 33)]
theorem ext_pc0 {pr : Nat} {alw : Nat → Nat → Bool} : exN t pr alw 0 = (ext (cWy t pr alw) (t 5 0) (t 0 0) 0 0).length := by
  have pc0 : (fb_ct (fun j => (0 : Nat).testBit j) 11) = 0 := fb_ct_zero.mpr (fun i _ => Nat.zero_testBit i)
  unfold exN
  rw [pc0]
  rfl
set_option maxRecDepth 100000 in
set_option maxHeartbeats 4000000 in
theorem k_waysLoop (g : g_R M t n) (wl : g_W M t) (bl : b_L t) (hs : g_st M t aAll) {e T : Nat} (he : e < t 8 0) (hN : 0 < t 0 0) (hQ : ∀ M', q_fs [289, 290] [] M M' → Q (some (.int (nI T))) M') : ∀ (Lr : List (List Nat)) (row : Nat → Nat) (acc : Nat) (M' : q_M), remP (cWy t (t 9 e) aAll) (t 5 0) (t 0 0) row (t 0 0) = Lr → acc + 1 + Lr.length = T → dst row (t 0 0) (t 5 0) → g_Y M' row (t 0 0) → q_fs [289, 290] [] M M' → ∀ u, u = nI acc → q_G q_mt (L, xs, q_shp) E nX12_ways (d + 6) 0 0 (q_Q (L, xs, q_shp) E Q) 26 [some (.ref 271), some (.int (nI e)), some (.int (u)), some (.int (Int32.ofInt 1))] [] M'
  | [], row, acc, M', hL, hT, hd, hrow, hf, u, hu => by
    subst hu
    have be := (g.be he).1
    have g' := g.fs hf
    refine w_at 90 [26] ?_
    refine z_eq 1 0 (fun z => by omega) (fun _ => ?_)
    refine ⟨0, _, by (first | assumption | (simp only [z_nat, z_lit, ← Int32.ofInt_add, ← Int32.ofInt_sub, ← Int32.ofInt_mul]; exact congrArg Int32.ofInt (by omega)) | (simp only [z_nat, z_lit, ← Int32.ofInt_add, ← Int32.ofInt_sub, ← Int32.ofInt_mul]; done) | exact congrArg Int32.ofInt (by omega) | rfl), by (dsimp only; omega), g'.R0, ?_⟩
    refine k_pairOf g' e he ?_
    refine k_goesToNext g' (wl.fs hf) bl (hs.eq (hf.c1 291) (by rw [hf.c1 271])) be hN hd (fun _ _ => rfl) hrow (fun _ M2 hf2 => ?_) (fun r' M2 z => by rw [hL] at z; cases z)
    refine w_at 90 [26] ?_
    refine z_eq 0 0 (fun _ => ⟨nI T, ?_, hQ M2 (hf.tr hf2)⟩) (fun z => absurd rfl z)
    rw [← hT]
    show nI acc + Int32.ofInt 1 = nI (acc + 1 + 0)
    (first | assumption | (simp only [z_nat, z_lit, ← Int32.ofInt_add, ← Int32.ofInt_sub, ← Int32.ofInt_mul]; exact congrArg Int32.ofInt (by omega)) | (simp only [z_nat, z_lit, ← Int32.ofInt_add, ← Int32.ofInt_sub, ← Int32.ofInt_mul]; done) | exact congrArg Int32.ofInt (by omega) | rfl)
  | x :: Lr, row, acc, M', hL, hT, hd, hrow, hf, u, hu => by
    subst hu
    have be := (g.be he).1
    have g' := g.fs hf
    refine w_at 90 [26] ?_
    refine z_eq 1 0 (fun z => by omega) (fun _ => ?_)
    refine ⟨0, _, by (first | assumption | (simp only [z_nat, z_lit, ← Int32.ofInt_add, ← Int32.ofInt_sub, ← Int32.ofInt_mul]; exact congrArg Int32.ofInt (by omega)) | (simp only [z_nat, z_lit, ← Int32.ofInt_add, ← Int32.ofInt_sub, ← Int32.ofInt_mul]; done) | exact congrArg Int32.ofInt (by omega) | rfl), by (dsimp only; omega), g'.R0, ?_⟩
    refine k_pairOf g' e he ?_
    refine k_goesToNext g' (wl.fs hf) bl (hs.eq (hf.c1 291) (by rw [hf.c1 271])) be hN hd (fun _ _ => rfl) hrow (fun z => by rw [hL] at z; cases z) (fun r' M2 z1 z2 z3 z4 hf2 => ?_)
    rw [hL] at z1
    have z5 := (List.cons.inj z1).2
    rw [List.length_cons] at hT
    exact k_waysLoop g wl bl hs he hN hQ Lr r' (acc + 1) M2 z5.symm (by omega) z2 z4 (hf.tr hf2) _ (by (first | assumption | (simp only [z_nat, z_lit, ← Int32.ofInt_add, ← Int32.ofInt_sub, ← Int32.ofInt_mul]; exact congrArg Int32.ofInt (by omega)) | (simp only [z_nat, z_lit, ← Int32.ofInt_add, ← Int32.ofInt_sub, ← Int32.ofInt_mul]; done) | exact congrArg Int32.ofInt (by omega) | rfl))
set_option maxRecDepth 100000 in
set_option maxHeartbeats 4000000 in
theorem o_ways {a : Int32} (g : g_A 43 M t n) (wl : g_W M t) (bl : b_L t) (hmo : g_Mo M t) (hP : ∀ M', q_fs lK fK M M' → g_Mo M' t → P M') : zOp L xs E nX11_ways nX12_ways (d + 10) [.int a] M P := by
  have h10 := g.R.d10
  by_cases q : ∃ e, e < t 8 0 ∧ a = nI e
  · obtain ⟨e, he, rfl⟩ := q
    have be := (g.R.be he).1
    have hN : 0 < t 0 0 := g.R.b2.2.2.2.1.mp (by omega)
    refine w_in 90 [] ?_
    refine d_hasEntrant g.C g.R.b (fun _ _ _ => br_f (by decide) ?_) (fun z => absurd ⟨e, he, rfl⟩ z)
    refine k2_countRows g.Z wl bl hmo e he (fun M1 hf1 ho1 hm1 => ⟨_, rfl, _, rfl, ?_⟩)
    have g1 : g_A 43 M1 t n := g.f3 hf1
    have w1 := wl.fs hf1
    refine w_in 90 [26] ?_
    refine c_X12_isEntrant g1.R.1 g1.R.b (fun _ _ _ => bn_t (by decide) ?_) (fun z => absurd ⟨e, he, rfl⟩ z)
    refine k_anyMay g1.R (fun M2 hf2 hs2 => ?_)
    have g2 := g1.R.fs hf2
    have w2 := w1.fs hf2
    have f2 : q_fs lK fK M M2 := hf1.mono.tr hf2.mono
    have o2 : g_Mo M2 t := ho1.fs h10 hf2
    refine k_pairOf g2 e he ?_
    refine k_goesToFirst g2 w2 bl hs2 be hN (fun z M3 hf3 => ?_) (fun r' M3 z1 z2 z3 z4 hf3 => ?_)
    · refine w_at 90 [26] ?_
      refine z_eq 0 0 (fun _ => ⟨_, rfl, ?_, hP M3 (f2.tr hf3.mono) (o2.fs h10 hf3)⟩) (fun z => absurd rfl z)
      rw [ext_pc0, z]
      rfl
    · refine k_waysLoop (d := d + 4) g2 w2 bl hs2 he hN (T := exN t (t 9 e) aAll 0) (fun M4 hf4 => ⟨rfl, hP M4 (f2.tr hf4.mono) (o2.fs h10 hf4)⟩) _ r' 0 M3 rfl ?_ z2 z4 hf3 _ rfl
      rw [ext_pc0, z1, List.length_cons]
      omega
  · refine w_in 90 [] ?_
    refine d_hasEntrant g.C g.R.b (fun i hi e => absurd ⟨i, hi, e⟩ q) (fun _ => br_t (by decide) ⟨_, rfl, _, rfl, ?_⟩)
    refine w_in 90 [26] ?_
    exact c_X12_isEntrant g.R.1 g.R.b (fun i hi e => absurd ⟨i, hi, e⟩ q) (fun _ => bn_f (by decide) ⟨_, rfl, rfl, hP M q_fs.rf hmo⟩)
-- the k-th row
set_option maxRecDepth 100000 in
set_option maxHeartbeats 4000000 in
theorem k_wayLoop (g : g_R M t n) (wl : g_W M t) (bl : b_L t) (hs : g_st M t aAll) {e r k : Nat} (he : e < t 8 0) (hr : r < t 0 0) (hk : k < 2147483648) (h1 : ∀ M' x rw', q_fs [289, 290] [] M M' → (ext (cWy t (t 9 e) aAll) (t 5 0) (t 0 0) 0 0)[k]? = some rw' → rw'[r]? = some x → Q (some (.int (nI x))) M') (h0 : (ext (cWy t (t 9 e) aAll) (t 5 0) (t 0 0) 0 0).length ≤ k → ∀ M', q_fs [289, 290] [] M M' → Q (some (.int (Int32.ofInt (-1)))) M') : ∀ (Lr : List (List Nat)) (row : Nat → Nat) (i : Nat) (M' : q_M), remP (cWy t (t 9 e) aAll) (t 5 0) (t 0 0) row (t 0 0) = Lr → i ≤ k → (ext (cWy t (t 9 e) aAll) (t 5 0) (t 0 0) 0 0).drop i = lrow row 0 (t 0 0) :: Lr → dst row (t 0 0) (t 5 0) → g_Y M' row (t 0 0) → q_fs [289, 290] [] M M' → ∀ u, u = nI i → q_G q_mt (L, xs, q_shp) E nX12_way (d + 6) 0 0 (q_Q (L, xs, q_shp) E Q) 40 [some (.ref 271), some (.int (nI e)), some (.int (nI k)), some (.int (nI (r + 1))), some (.int (Int32.ofInt 1)), some (.int (u))] [] M' := by
  have h6 := g.r6
  have be := (g.be he).1
  intro Lr
  induction Lr with
  | nil =>
    intro row i M' hL hi hdr hd hrow hf u hu
    subst hu
    have g' := g.fs hf
    by_cases q : i = k
    · subst q
      refine w_at 90 [40] ?_
      refine z_le (i : Int) (i : Int) (fun _ => ?_) (fun z => by omega)
      refine z_eq 1 0 (fun z => by omega) (fun _ => ?_)
      refine ⟨r, _, by (first | assumption | (simp only [z_nat, z_lit, ← Int32.ofInt_add, ← Int32.ofInt_sub, ← Int32.ofInt_mul]; exact congrArg Int32.ofInt (by omega)) | (simp only [z_nat, z_lit, ← Int32.ofInt_add, ← Int32.ofInt_sub, ← Int32.ofInt_mul]; done) | exact congrArg Int32.ofInt (by omega) | rfl), by (dsimp only; omega), hrow r hr, ?_⟩
      refine ⟨_, rfl, h1 M' (row r) (lrow row 0 (t 0 0)) hf ?_ (by rw [lrow_get hr, Nat.zero_add])⟩
      rw [← List.head?_drop, hdr]
      rfl
    · refine w_at 90 [40] ?_
      refine z_le (k : Int) (i : Int) (fun z => by omega) (fun _ => ?_)
      refine z_eq 1 0 (fun z => by omega) (fun _ => ?_)
      refine ⟨0, _, by (first | assumption | (simp only [z_nat, z_lit, ← Int32.ofInt_add, ← Int32.ofInt_sub, ← Int32.ofInt_mul]; exact congrArg Int32.ofInt (by omega)) | (simp only [z_nat, z_lit, ← Int32.ofInt_add, ← Int32.ofInt_sub, ← Int32.ofInt_mul]; done) | exact congrArg Int32.ofInt (by omega) | rfl), by (dsimp only; omega), g'.R0, ?_⟩
      refine k_pairOf g' e he ?_
      refine k_goesToNext g' (wl.fs hf) bl (hs.eq (hf.c1 291) (by rw [hf.c1 271])) be (by omega) hd (fun _ _ => rfl) hrow (fun _ M2 hf2 => ?_) (fun r' M2 z => by rw [hL] at z; cases z)
      have hlen : (ext (cWy t (t 9 e) aAll) (t 5 0) (t 0 0) 0 0).length ≤ k := by
        have := congrArg List.length hdr
        rw [List.length_drop, List.length_cons, List.length_nil] at this
        omega
      have fin : q_G q_mt (L, xs, q_shp) E nX12_way (d + 6) 0 0 (q_Q (L, xs, q_shp) E Q) 76 [some (.ref 271), some (.int (nI e)), some (.int (nI k)), some (.int (nI (r + 1))), some (.int (Int32.ofInt 0)), some (.int (nI (i + 1)))] [] M2 := by
        refine w_at 90 [40] ?_
        exact z_eq 0 0 (fun _ => ⟨_, rfl, h0 hlen M2 (hf.tr hf2)⟩) (fun z => absurd rfl z)
      have e1 : nI i + Int32.ofInt 1 = nI (i + 1) := by (first | assumption | (simp only [z_nat, z_lit, ← Int32.ofInt_add, ← Int32.ofInt_sub, ← Int32.ofInt_mul]; exact congrArg Int32.ofInt (by omega)) | (simp only [z_nat, z_lit, ← Int32.ofInt_add, ← Int32.ofInt_sub, ← Int32.ofInt_mul]; done) | exact congrArg Int32.ofInt (by omega) | rfl)
      have gt : ∀ u, u = nI (i + 1) → q_G q_mt (L, xs, q_shp) E nX12_way (d + 6) 0 0 (q_Q (L, xs, q_shp) E Q) 40 [some (.ref 271), some (.int (nI e)), some (.int (nI k)), some (.int (nI (r + 1))), some (.int (Int32.ofInt 0)), some (.int (u))] [] M2 := by
        intro u hu
        subst hu
        refine w_at 90 [40, 76] ?_
        refine z_le (k : Int) ((i + 1 : Nat) : Int) (fun _ => fin) (fun _ => ?_)
        exact z_eq 0 0 (fun _ => fin) (fun z => absurd rfl z)
      exact gt _ e1
  | cons x Lr ih =>
    intro row i M' hL hi hdr hd hrow hf u hu
    subst hu
    have g' := g.fs hf
    by_cases q : i = k
    · subst q
      refine w_at 90 [40] ?_
      refine z_le (i : Int) (i : Int) (fun _ => ?_) (fun z => by omega)
      refine z_eq 1 0 (fun z => by omega) (fun _ => ?_)
      refine ⟨r, _, by (first | assumption | (simp only [z_nat, z_lit, ← Int32.ofInt_add, ← Int32.ofInt_sub, ← Int32.ofInt_mul]; exact congrArg Int32.ofInt (by omega)) | (simp only [z_nat, z_lit, ← Int32.ofInt_add, ← Int32.ofInt_sub, ← Int32.ofInt_mul]; done) | exact congrArg Int32.ofInt (by omega) | rfl), by (dsimp only; omega), hrow r hr, ?_⟩
      refine ⟨_, rfl, h1 M' (row r) (lrow row 0 (t 0 0)) hf ?_ (by rw [lrow_get hr, Nat.zero_add])⟩
      rw [← List.head?_drop, hdr]
      rfl
    · refine w_at 90 [40] ?_
      refine z_le (k : Int) (i : Int) (fun z => by omega) (fun _ => ?_)
      refine z_eq 1 0 (fun z => by omega) (fun _ => ?_)
      refine ⟨0, _, by (first | assumption | (simp only [z_nat, z_lit, ← Int32.ofInt_add, ← Int32.ofInt_sub, ← Int32.ofInt_mul]; exact congrArg Int32.ofInt (by omega)) | (simp only [z_nat, z_lit, ← Int32.ofInt_add, ← Int32.ofInt_sub, ← Int32.ofInt_mul]; done) | exact congrArg Int32.ofInt (by omega) | rfl), by (dsimp only; omega), g'.R0, ?_⟩
      refine k_pairOf g' e he ?_
      refine k_goesToNext g' (wl.fs hf) bl (hs.eq (hf.c1 291) (by rw [hf.c1 271])) be (by omega) hd (fun _ _ => rfl) hrow (fun z => by rw [hL] at z; cases z) (fun r' M2 z1 z2 z3 z4 hf2 => ?_)
      rw [hL] at z1
      obtain ⟨y1, y2⟩ := List.cons.inj z1
      refine ih r' (i + 1) M2 y2.symm (by omega) ?_ z2 z4 (hf.tr hf2) _ (by (first | assumption | (simp only [z_nat, z_lit, ← Int32.ofInt_add, ← Int32.ofInt_sub, ← Int32.ofInt_mul]; exact congrArg Int32.ofInt (by omega)) | (simp only [z_nat, z_lit, ← Int32.ofInt_add, ← Int32.ofInt_sub, ← Int32.ofInt_mul]; done) | exact congrArg Int32.ofInt (by omega) | rfl))
      rw [← List.drop_drop, hdr, y1]
      rfl
set_option maxRecDepth 100000 in
set_option maxHeartbeats 4000000 in
theorem o_way {a b c : Int32} (g : g_A 43 M t n) (wl : g_W M t) (bl : b_L t) (hmo : g_Mo M t) (hP : ∀ M', q_fs lK fK M M' → g_Mo M' t → P M') : zOp L xs E nX11_way nX12_way (d + 10) [.int a, .int b, .int c] M P := by
  have h10 := g.R.d10
  have h6 := g.R.r6
  obtain ⟨k0, hk0, rfl⟩ := z_of b
  by_cases q : aCell t a c ∧ 0 ≤ k0
  · obtain ⟨⟨e, r, he, hr, rfl, rfl⟩, hk⟩ := q
    obtain ⟨k, rfl⟩ : ∃ k : Nat, k0 = k := ⟨k0.toNat, by omega⟩
    have be := (g.R.be he).1
    have hN : 0 < t 0 0 := by omega
    have big : exN t (t 9 e) aAll 0 ≤ 1000000 := by
      rw [ext_pc0]
      exact Nat.le_trans (ext_b h10) (Nat.pow_le_pow_right (n := 10) (by decide) h6)
    have ref : ∀ M1, q_fs lT [(244, 8)] M M1 → g_Mo M1 t → ∀ R : Option Value → q_M → Prop, (∀ M' x rw', q_fs lK fK M M' → g_Mo M' t → (ext (cWy t (t 9 e) aAll) (t 5 0) (t 0 0) 0 0)[k]? = some rw' → rw'[r]? = some x → R (some (.int (nI x))) M') → ((ext (cWy t (t 9 e) aAll) (t 5 0) (t 0 0) 0 0).length ≤ k → ∀ M', q_fs lK fK M M' → g_Mo M' t → R (some (.int (Int32.ofInt (-1)))) M') → q_C q_mt (L, xs, q_shp) E nX12_way (d + 10) 0 0 (.ref 271 :: [.int (nI e), .int (Int32.ofInt k), .int (nI (r + 1))]) M1 R := by
      intro M1 hf1 ho1 R r1 r0
      have g1 : g_A 43 M1 t n := g.f3 hf1
      have w1 := wl.fs hf1
      refine w_in 90 [40] ?_
      refine c_X12_isEntrant g1.R.1 g1.R.b (fun _ _ _ => br_f (by decide) ?_) (fun z => absurd ⟨e, he, rfl⟩ z)
      refine z_lt (k : Int) 0 (fun z => by omega) (fun _ => ?_)
      refine c_X12_isRound g1.R.1 g1.R.b (fun _ _ _ _ => bn_t (by decide) ?_) (fun z => absurd ⟨r + 1, by omega, by omega, rfl⟩ z)
      refine k_anyMay g1.R (fun M2 hf2 hs2 => ?_)
      have g2 := g1.R.fs hf2
      have w2 := w1.fs hf2
      have f2 : q_fs lK fK M M2 := hf1.mono.tr hf2.mono
      have o2 : g_Mo M2 t := ho1.fs h10 hf2
      refine k_pairOf g2 e he ?_
      refine k_goesToFirst g2 w2 bl hs2 be hN (fun z M3 hf3 => ?_) (fun r' M3 z1 z2 z3 z4 hf3 => ?_)
      · have hz : (ext (cWy t (t 9 e) aAll) (t 5 0) (t 0 0) 0 0).length ≤ k := by rw [z]; exact Nat.zero_le _
        have fin : q_G q_mt (L, xs, q_shp) E nX12_way (d + 10) 0 0 (q_Q (L, xs, q_shp) E R) 76 [some (.ref 271), some (.int (nI e)), some (.int (Int32.ofInt k)), some (.int (nI (r + 1))), some (.int 0), some (.int (Int32.ofInt 0))] [] M3 := by
          refine w_at 90 [40] ?_
          exact z_eq 0 0 (fun _ => ⟨_, rfl, r0 hz M3 (f2.tr hf3.mono) (o2.fs h10 hf3)⟩) (fun z => absurd rfl z)
        refine w_at 90 [40, 76] ?_
        refine z_le (k : Int) 0 (fun _ => fin) (fun _ => ?_)
        exact z_eq 0 0 (fun _ => fin) (fun z => absurd rfl z)
      · exact k_wayLoop (d := d + 4) g2 w2 bl hs2 he hr (by omega) (fun M' x rw' hf h1 h2 => r1 M' x rw' (f2.tr hf.mono) (o2.fs h10 hf) h1 h2) (fun z M' hf => r0 z M' (f2.tr hf.mono) (o2.fs h10 hf)) _ r' 0 M3 rfl (Nat.zero_le _) z1 z2 z4 hf3 _ rfl
    refine w_in 90 [] ?_
    refine k2_isCell g (fun _ => br_f (by decide) ?_) (fun z => absurd ⟨e, r, he, hr, rfl, rfl⟩ z)
    refine z_lt (k : Int) 0 (fun z => by omega) (fun _ => ?_)
    refine k2_countRows g.Z wl bl hmo e he (fun M1 hf1 ho1 hm1 => ?_)
    refine z_lt (k : Int) (exN t (t 9 e) aAll 0) (fun hlt => ?_) (fun hge => ⟨_, rfl, _, rfl, ?_⟩)
    · refine k2_diveInRow (g.Z.f3 hf1) hm1 e k r he rfl hr (by omega) (fun x rw' h1 h2 _ => ⟨_, rfl, _, rfl, ?_⟩)
      refine ref M1 hf1 ho1 _ (fun M' x' rw2 hf ho h3 h4 => ⟨?_, hP M' hf ho⟩) (fun z => ?_)
      · rw [h1] at h3
        cases h3
        rw [h2] at h4
        cases h4
        rfl
      · rw [ext_pc0] at hlt
        omega
    · refine ref M1 hf1 ho1 _ (fun M' x' rw2 hf ho h3 h4 => ?_) (fun z M' hf ho => ⟨rfl, hP M' hf ho⟩)
      rw [ext_pc0] at hge
      rw [List.getElem?_eq_none (by omega)] at h3
      cases h3
  · have fin : q_C q_mt (L, xs, q_shp) E nX12_way (d + 10) 0 0 (.ref 271 :: [.int a, .int (Int32.ofInt k0), .int c]) M (fun v' M'' => v' = some (.int (Int32.ofInt (-1))) ∧ P M'') := by
      refine w_in 90 [40] ?_
      refine c_X12_isEntrant g.R.1 g.R.b (fun e he e1 => br_f (by decide) ?_) (fun z => br_t (by decide) ⟨_, rfl, rfl, hP M q_fs.rf hmo⟩)
      refine z_lt k0 0 (fun z => ⟨_, rfl, rfl, hP M q_fs.rf hmo⟩) (fun z1 => ?_)
      refine c_X12_isRound g.R.1 g.R.b (fun r r1 r2 e2 => ?_) (fun z => bn_f (by decide) ⟨_, rfl, rfl, hP M q_fs.rf hmo⟩)
      exact absurd ⟨⟨e, r - 1, he, by omega, e1, by rw [e2, show r - 1 + 1 = r by omega]⟩, z1⟩ q
    refine w_in 90 [] ?_
    refine k2_isCell g (fun z1 => br_f (by decide) ?_) (fun z => br_t (by decide) ⟨_, rfl, _, rfl, fin⟩)
    exact z_lt k0 0 (fun z => ⟨_, rfl, _, rfl, fin⟩) (fun z2 => absurd ⟨z1, z2⟩ q)
end WO
