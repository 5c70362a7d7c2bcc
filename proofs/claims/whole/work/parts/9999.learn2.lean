/-! the class's table of sets walked -/
theorem sh_nI : ∀ D, D < 11 → ((1 : Int32) <<< (nI D &&& 31)) = nI (2 ^ D) := by decide +kernel
theorem pw_b {D : Nat} (h : D ≤ 10) : 2 ^ D ≤ 1024 := Nat.pow_le_pow_right (n := 2) (by decide) h
section LE
variable {L : Nat} {xs : Nat → Int32} {E : q_E} {d : Nat} {M : q_M} {t : q_T} {n : sN} {Q : Option Value → q_M → Prop} {P : q_M → Prop}
set_option maxRecDepth 100000 in
set_option maxHeartbeats 4000000 in
theorem k2_isFit (g : g_Z 43 M t n) (wl : g_W M t) (bl : b_L t) {a b c : Int32} (S x pr : Nat) (hS : S < 1024) (hx : x < t 5 0) (hp : pr ≤ 1) (h1 : ∀ M', q_fs [20, 245] [] M M' → obey t S x pr → Q (some (.int 1)) M') (h0 : ∀ M', q_fs [20, 245] [] M M' → ¬ obey t S x pr → Q (some (.int 0)) M') (ha : a = nI S := by (first | assumption | (simp only [z_nat, z_lit, ← Int32.ofInt_add, ← Int32.ofInt_sub, ← Int32.ofInt_mul]; exact congrArg Int32.ofInt (by omega)) | (simp only [z_nat, z_lit, ← Int32.ofInt_add, ← Int32.ofInt_sub, ← Int32.ofInt_mul]; done) | exact congrArg Int32.ofInt (by omega) | rfl)) (hb : b = nI x := by (first | assumption | (simp only [z_nat, z_lit, ← Int32.ofInt_add, ← Int32.ofInt_sub, ← Int32.ofInt_mul]; exact congrArg Int32.ofInt (by omega)) | (simp only [z_nat, z_lit, ← Int32.ofInt_add, ← Int32.ofInt_sub, ← Int32.ofInt_mul]; done) | exact congrArg Int32.ofInt (by omega) | rfl)) (hc : c = nI pr := by (first | assumption | (simp only [z_nat, z_lit, ← Int32.ofInt_add, ← Int32.ofInt_sub, ← Int32.ofInt_mul]; exact congrArg Int32.ofInt (by omega)) | (simp only [z_nat, z_lit, ← Int32.ofInt_add, ← Int32.ofInt_sub, ← Int32.ofInt_mul]; done) | exact congrArg Int32.ofInt (by omega) | rfl)) : q_C q_mt (L, xs, q_shp) E nX10_isFit (d + 3) 0 0 [.ref 244, .int (a), .int (b), .int (c)] M Q := by
  subst ha hb hc
  have l6 := bl.1
  refine w_in 90 [10] ?_
  refine k2_gather g S x pr hS hx hp (fun M1 hf1 hm1 => ?_)
  have W := lp_m (W := fun l M' => ∀ v, v = nI l → q_G q_mt (L, xs, q_shp) E nX10_isFit (d + 3) 0 0 (q_Q (L, xs, q_shp) E Q) 10 [some (.ref 244), some (.int (nI S)), some (.int (nI x)), some (.int (nI pr)), some (.int (v))] [] M') (J := fun l M' => q_fs [20] [] M1 M' ∧ ∀ i, i < l → lwS t i S x pr = true) (t 17 0) ?_ ?_ 0 M1 (Nat.zero_le _) ⟨q_fs.rf, fun i hi => absurd hi (Nat.not_lt_zero _)⟩
  · exact W _ rfl
  · rintro M' ⟨hf, hm⟩ v rfl
    have w' := (wl.fs hf1).fs hf
    refine w_at 90 [10] ?_
    refine ⟨_, w'.1, ?_⟩
    exact z_le (t 17 0) (t 17 0) (fun _ => ⟨z_1, h1 M' (hf1.mono.tr hf.mono) hm⟩) (fun z => by omega)
  · rintro l M' hl ⟨hf, hm⟩ ih v rfl
    have w' := (wl.fs hf1).fs hf
    refine w_at 90 [10] ?_
    refine ⟨_, w'.1, ?_⟩
    refine z_le (t 17 0) (l : Int) (fun z => by omega) (fun _ => ?_)
    refine k2_isSoL w' bl (F := fcL t S x pr) (fun f hf' => by rw [hf.c2 245]; exact hm1 f hf') l hl (fun M2 hf2 hs => bn_t (by decide) ?_) (fun M2 hf2 hs => bn_f (by decide) ⟨z_0, h0 M2 ((hf1.mono.tr hf.mono).tr hf2.mono) (fun z => ?_)⟩)
    · refine ih M2 ⟨hf.tr hf2, fun i hi => ?_⟩ _ (by (first | assumption | (simp only [z_nat, z_lit, ← Int32.ofInt_add, ← Int32.ofInt_sub, ← Int32.ofInt_mul]; exact congrArg Int32.ofInt (by omega)) | (simp only [z_nat, z_lit, ← Int32.ofInt_add, ← Int32.ofInt_sub, ← Int32.ofInt_mul]; done) | exact congrArg Int32.ofInt (by omega) | rfl))
      by_cases z : i = l
      · rw [z]
        exact hs
      · exact hm i (by omega)
    · have y := z l hl
      unfold lwS at y
      rw [hs] at y
      cases y
/-- outside the pair's table -/
def outT (pr : Nat) (M M' : q_M) : Prop := ∀ i, ¬ (1024 * pr ≤ i ∧ i < 1024 * pr + 1024) → M'.1 246 i = M.1 246 i ∧ M'.1 247 i = M.1 247 i
theorem outT.tr {pr : Nat} {M M' M'' : q_M} (h : outT pr M M') (h' : outT pr M' M'') : outT pr M M'' := fun i hi => ⟨(h' i hi).1.trans (h i hi).1, (h' i hi).2.trans (h i hi).2⟩
theorem outT.fs {l : List Nat} {f : List (Nat × Nat)} {pr : Nat} {M' : q_M} (h : q_fs l f M M') (h1 : ∀ i, q_scr l f 246 i = false := by intro i; exact rfl) (h2 : ∀ i, q_scr l f 247 i = false := by intro i; exact rfl) : outT pr M M' := fun i _ => ⟨(h 246 i (h1 i)).1, (h 247 i (h2 i)).1⟩
/-- marked: by a set below s -/
def mkT (t : q_T) (pr s S : Nat) : Prop := S = 0 ∨ ∃ S' d, S' < s ∧ rch' t pr S' ∧ (fb_ct (fun j => S'.testBit j) 11) < t 0 0 ∧ d < t 5 0 ∧ cWy t pr aAll (fb_ct (fun j => S'.testBit j) 11) S' d = true ∧ S = S' ||| 2 ^ d
theorem mkT_r {pr S : Nat} (h10 : t 5 0 ≤ 10) : mkT t pr S S ↔ rch' t pr S := by
  constructor
  · rintro (rfl | ⟨S', x, -, h1, h2, h3, h4, rfl⟩)
    · exact rch_0
    · exact (rch_s h10 h1 h2 h3 h4).1
  · intro h
    by_cases q : S = 0
    · exact Or.inl q
    · obtain ⟨S', x, h1, h2, h3, h4, rfl⟩ := rch_inv h10 h q
      exact Or.inr ⟨S', x, or_lt (cWy_t.mp h4).2.1, h1, h2, h3, h4, rfl⟩
abbrev lT : List Nat := [20, 245, 246, 247]
set_option maxRecDepth 100000 in
set_option maxHeartbeats 4000000 in
theorem k2_learnFits (g : g_Z 43 M t n) (wl : g_W M t) (bl : b_L t) {a b c : Int32} (pr : Nat) (hp : pr ≤ 1) (hQ : ∀ M', q_fs lT [] M M' → outT pr M M' → (∀ S, S < 2 ^ t 5 0 → rch' t pr S → ∀ x, x < t 5 0 → bt (M'.1 246 (1024 * pr + S)) x = (decide ((fb_ct (fun j => S.testBit j) 11) < t 0 0) && cWy t pr aAll (fb_ct (fun j => S.testBit j) 11) S x)) → Q none M') (ha : a = nI pr := by (first | assumption | (simp only [z_nat, z_lit, ← Int32.ofInt_add, ← Int32.ofInt_sub, ← Int32.ofInt_mul]; exact congrArg Int32.ofInt (by omega)) | (simp only [z_nat, z_lit, ← Int32.ofInt_add, ← Int32.ofInt_sub, ← Int32.ofInt_mul]; done) | exact congrArg Int32.ofInt (by omega) | rfl)) (hb : b = nI (1024 * pr) := by (first | assumption | (simp only [z_nat, z_lit, ← Int32.ofInt_add, ← Int32.ofInt_sub, ← Int32.ofInt_mul]; exact congrArg Int32.ofInt (by omega)) | (simp only [z_nat, z_lit, ← Int32.ofInt_add, ← Int32.ofInt_sub, ← Int32.ofInt_mul]; done) | exact congrArg Int32.ofInt (by omega) | rfl)) (hc : c = nI (2 ^ t 5 0) := by (first | assumption | (simp only [z_nat, z_lit, ← Int32.ofInt_add, ← Int32.ofInt_sub, ← Int32.ofInt_mul]; exact congrArg Int32.ofInt (by omega)) | (simp only [z_nat, z_lit, ← Int32.ofInt_add, ← Int32.ofInt_sub, ← Int32.ofInt_mul]; done) | exact congrArg Int32.ofInt (by omega) | rfl)) : q_C q_mt (L, xs, q_shp) E nX10_learnFits (d + 4) 0 0 [.ref 244, .int (a), .int (b), .int (c)] M Q := by
  subst ha hb hc
  have h10 := g.R.d10
  have h6 := g.R.r6
  have hpw := pw_b h10
  generalize hPw : 2 ^ t 5 0 = PW at *
  have l6 := bl.1
  -- behind the first s sets
  have L2 : ∀ M1, q_fs lT [] M M1 → outT pr M M1 → (∀ S, S < PW → M1.1 246 (1024 * pr + S) = Int32.ofInt 0 ∧ (mkT t pr 0 S → M1.1 247 (1024 * pr + S) = Int32.ofInt 1) ∧ (¬ mkT t pr 0 S → M1.1 247 (1024 * pr + S) = Int32.ofInt 0)) → ∀ x, q_G q_mt (L, xs, q_shp) E nX10_learnFits (d + 4) 0 0 (q_Q (L, xs, q_shp) E Q) 47 [some (.ref 244), some (.int (nI pr)), some (.int (nI (1024 * pr))), some (.int (nI (PW))), some (.int (Int32.ofInt 0)), x] [] M1 := by
    intro M1 hf1 ho1 hm1 x0
    have W := lp_m (W := fun s M' => ∀ v x, v = nI s → q_G q_mt (L, xs, q_shp) E nX10_learnFits (d + 4) 0 0 (q_Q (L, xs, q_shp) E Q) 47 [some (.ref 244), some (.int (nI pr)), some (.int (nI (1024 * pr))), some (.int (nI (PW))), some (.int (v)), x] [] M') (J := fun s M' => q_fs lT [] M M' ∧ outT pr M M' ∧ (∀ S, S < PW → (mkT t pr s S → M'.1 247 (1024 * pr + S) = Int32.ofInt 1) ∧ (¬ mkT t pr s S → M'.1 247 (1024 * pr + S) = Int32.ofInt 0)) ∧ (∀ S, s ≤ S → S < PW → M'.1 246 (1024 * pr + S) = Int32.ofInt 0) ∧ (∀ S, S < s → S < PW → rch' t pr S → ∀ x, x < t 5 0 → bt (M'.1 246 (1024 * pr + S)) x = (decide ((fb_ct (fun j => S.testBit j) 11) < t 0 0) && cWy t pr aAll (fb_ct (fun j => S.testBit j) 11) S x))) (PW) ?_ ?_ 0 M1 (Nat.zero_le _) ⟨hf1, ho1, fun S hS => (hm1 S hS).2, fun S _ hS => (hm1 S hS).1, fun S hS => by omega⟩
    · exact W _ _ rfl
    · rintro M' ⟨hf, ho, hA, hB, hC⟩ v x rfl
      refine w_at 90 [3, 47, 86] ?_
      exact z_le (PW : Int) (PW : Int) (fun _ => hQ M' hf ho (fun S hS hr => hC S hS hS hr)) (fun z => by omega)
    · rintro s M' hs ⟨hf, ho, hA, hB, hC⟩ ih v x rfl
      have g' := g.f3 hf
      have pc11 := fb_ct_le (fun j => s.testBit j) 11
      have eb : bcF (nI s) = nI (fb_ct (fun j => s.testBit j) 11) := bc_ok (fun j hj => bt_S (by omega) hj)
      have step : (¬ rch' t pr s ∨ ¬ (fb_ct (fun j => s.testBit j) 11) < t 0 0) → ∀ v x, v = nI (s + 1) → q_G q_mt (L, xs, q_shp) E nX10_learnFits (d + 4) 0 0 (q_Q (L, xs, q_shp) E Q) 47 [some (.ref 244), some (.int (nI pr)), some (.int (nI (1024 * pr))), some (.int (nI (PW))), some (.int (v)), x] [] M' := by
        intro hno v x hv
        have em : ∀ S, mkT t pr (s + 1) S ↔ mkT t pr s S := fun S => by
          constructor
          · rintro (h | ⟨S', y, h0, h1, h2, h3, h4, h5⟩)
            · exact Or.inl h
            · refine Or.inr ⟨S', y, ?_, h1, h2, h3, h4, h5⟩
              refine Classical.byContradiction (fun z => ?_)
              have : S' = s := by omega
              subst this
              exact hno.elim (fun w => w h1) (fun w => w h2)
          · rintro (h | ⟨S', y, h0, h⟩)
            · exact Or.inl h
            · exact Or.inr ⟨S', y, by omega, h⟩
        refine ih M' ⟨hf, ho, fun S hS => ?_, fun S h1 h2 => hB S (by omega) h2, fun S h1 h2 hr y hy => ?_⟩ _ _ hv
        · rw [em S]
          exact hA S hS
        · by_cases z : S = s
          · subst z
            have q : ¬ (fb_ct (fun j => S.testBit j) 11) < t 0 0 := hno.elim (fun w => absurd hr w) id
            rw [hB S (Nat.le_refl _) h2, decide_eq_false q, Bool.false_and]
            exact b_0 y
          · exact hC S (by omega) h2 hr y hy
      refine w_at 90 [3, 47, 86] ?_
      refine z_le (PW : Int) (s : Int) (fun z => by omega) (fun _ => ?_)
      by_cases hr : rch' t pr s
      · have e1 := (hA s hs).1 ((mkT_r h10).mpr hr)
        refine ⟨1024 * pr + s, _, by (first | assumption | (simp only [z_nat, z_lit, ← Int32.ofInt_add, ← Int32.ofInt_sub, ← Int32.ofInt_mul]; exact congrArg Int32.ofInt (by omega)) | (simp only [z_nat, z_lit, ← Int32.ofInt_add, ← Int32.ofInt_sub, ← Int32.ofInt_mul]; done) | exact congrArg Int32.ofInt (by omega) | rfl), by (dsimp only; omega), e1, ?_⟩
        refine z_eq 1 0 (fun z => by omega) (fun _ => ?_)
        refine p_bitCount ?_
        rw [eb]
        refine ⟨_, g'.ro, ?_⟩
        refine z_lt (fb_ct (fun j => s.testBit j) 11) (t 0 0) (fun hN => ?_) (fun hN => ?_)
        · -- its dives, one by one
          have I := lp_m (W := fun x M2 => ∀ v, v = nI x → q_G q_mt (L, xs, q_shp) E nX10_learnFits (d + 4) 0 0 (q_Q (L, xs, q_shp) E Q) 86 [some (.ref 244), some (.int (nI pr)), some (.int (nI (1024 * pr))), some (.int (nI (PW))), some (.int (nI s)), some (.int (v))] [] M2) (J := fun x M2 => q_fs lT [] M' M2 ∧ outT pr M' M2 ∧ (∀ S, S < PW → ((mkT t pr s S ∨ ∃ y, y < x ∧ cWy t pr aAll (fb_ct (fun j => s.testBit j) 11) s y = true ∧ S = s ||| 2 ^ y) → M2.1 247 (1024 * pr + S) = Int32.ofInt 1) ∧ (¬ (mkT t pr s S ∨ ∃ y, y < x ∧ cWy t pr aAll (fb_ct (fun j => s.testBit j) 11) s y = true ∧ S = s ||| 2 ^ y) → M2.1 247 (1024 * pr + S) = Int32.ofInt 0)) ∧ (∀ i, ¬ i = 1024 * pr + s → M2.1 246 i = M'.1 246 i) ∧ ∀ i, i < 32 → bt (M2.1 246 (1024 * pr + s)) i = (decide (i < x) && cWy t pr aAll (fb_ct (fun j => s.testBit j) 11) s i)) (t 5 0) ?_ ?_ 0 M' (Nat.zero_le _) ⟨q_fs.rf, fun i _ => ⟨rfl, rfl⟩, fun S hS => ⟨fun z => (hA S hS).1 (z.elim id (fun ⟨y, hy, _⟩ => by omega)), fun z => (hA S hS).2 (fun w => z (Or.inl w))⟩, fun i _ => rfl, fun i hi => by rw [hB s (Nat.le_refl _) hs, decide_eq_false (Nat.not_lt_zero _), Bool.false_and]; exact b_0 i⟩
          · exact I _ rfl
          · rintro M2 ⟨hf2, ho2, hA2, hB2, hC2⟩ v rfl
            have g2 := g'.f3 hf2
            refine w_at 90 [3, 47, 86] ?_
            refine ⟨_, g2.dN, ?_⟩
            refine z_le (t 5 0) (t 5 0) (fun _ => ?_) (fun z => by omega)
            have em : ∀ S, mkT t pr (s + 1) S ↔ (mkT t pr s S ∨ ∃ y, y < t 5 0 ∧ cWy t pr aAll (fb_ct (fun j => s.testBit j) 11) s y = true ∧ S = s ||| 2 ^ y) := fun S => by
              constructor
              · rintro (h | ⟨S', y, h0, h1, h2, h3, h4, h5⟩)
                · exact Or.inl (Or.inl h)
                · by_cases z : S' = s
                  · subst z
                    exact Or.inr ⟨y, h3, h4, h5⟩
                  · exact Or.inl (Or.inr ⟨S', y, by omega, h1, h2, h3, h4, h5⟩)
              · rintro ((h | ⟨S', y, h0, h⟩) | ⟨y, h3, h4, h5⟩)
                · exact Or.inl h
                · exact Or.inr ⟨S', y, by omega, h⟩
                · exact Or.inr ⟨s, y, by omega, hr, by omega, h3, h4, h5⟩
            refine ih M2 ⟨hf.tr hf2, ho.tr ho2, fun S hS => ?_, fun S h1 h2 => ?_, fun S h1 h2 hr' y hy => ?_⟩ _ _ (by (first | assumption | (simp only [z_nat, z_lit, ← Int32.ofInt_add, ← Int32.ofInt_sub, ← Int32.ofInt_mul]; exact congrArg Int32.ofInt (by omega)) | (simp only [z_nat, z_lit, ← Int32.ofInt_add, ← Int32.ofInt_sub, ← Int32.ofInt_mul]; done) | exact congrArg Int32.ofInt (by omega) | rfl))
            · rw [em S]
              exact hA2 S hS
            · rw [hB2 _ (by omega)]
              exact hB S (by omega) h2
            · by_cases z : S = s
              · subst z
                rw [hC2 y (by omega), decide_eq_true hy, decide_eq_true (by omega)]
              · rw [hB2 _ (by omega)]
                exact hC S (by omega) h2 hr' y hy
          · rintro x M2 hx ⟨hf2, ho2, hA2, hB2, hC2⟩ ih2 v rfl
            have g2 := g'.f3 hf2
            have w2 : g_W M2 t := (wl.fs hf).fs hf2
            have ebx := b_at (x := nI s) (j := x) (by omega)
            rw [bt_nat (by omega)] at ebx
            have skip : cWy t pr aAll (fb_ct (fun j => s.testBit j) 11) s x = false → ∀ M3, q_fs [20, 245] [] M2 M3 → ∀ v, v = nI (x + 1) → q_G q_mt (L, xs, q_shp) E nX10_learnFits (d + 4) 0 0 (q_Q (L, xs, q_shp) E Q) 86 [some (.ref 244), some (.int (nI pr)), some (.int (nI (1024 * pr))), some (.int (nI (PW))), some (.int (nI s)), some (.int (v))] [] M3 := by
              intro hc M3 hf3 v hv
              have em : ∀ S, (∃ y, y < x + 1 ∧ cWy t pr aAll (fb_ct (fun j => s.testBit j) 11) s y = true ∧ S = s ||| 2 ^ y) ↔ ∃ y, y < x ∧ cWy t pr aAll (fb_ct (fun j => s.testBit j) 11) s y = true ∧ S = s ||| 2 ^ y := fun S => by
                constructor
                · rintro ⟨y, hy, h1, h2⟩
                  refine ⟨y, ?_, h1, h2⟩
                  refine Classical.byContradiction (fun z => ?_)
                  have : y = x := by omega
                  rw [this, hc] at h1
                  cases h1
                · rintro ⟨y, hy, h⟩
                  exact ⟨y, by omega, h⟩
              refine ih2 M3 ⟨hf2.tr hf3.mono, ho2.tr (outT.fs hf3), fun S hS => ?_, fun i hi => ?_, fun i hi => ?_⟩ v hv
              · rw [em S, hf3.c1 247]
                exact hA2 S hS
              · rw [hf3.c1 246]
                exact hB2 i hi
              · rw [hf3.c1 246, hC2 i hi]
                by_cases z : i = x
                · rw [z, hc, Bool.and_false, Bool.and_false]
                · by_cases z2 : i < x
                  · rw [decide_eq_true z2, decide_eq_true (by omega)]
                  · rw [decide_eq_false z2, decide_eq_false (by omega)]
            refine w_at 90 [3, 47, 86] ?_
            refine ⟨_, g2.dN, ?_⟩
            refine z_le (t 5 0) (x : Int) (fun z => by omega) (fun _ => ?_)
            by_cases q : s.testBit x = true
            · rw [if_pos q] at ebx
              refine z_ne 1 0 (fun _ => ?_) (fun z => by omega) (hx := ebx)
              exact skip (cWy_f (fun z => by rw [q] at z; cases z.2.1)) M2 q_fs.rf _ (by (first | assumption | (simp only [z_nat, z_lit, ← Int32.ofInt_add, ← Int32.ofInt_sub, ← Int32.ofInt_mul]; exact congrArg Int32.ofInt (by omega)) | (simp only [z_nat, z_lit, ← Int32.ofInt_add, ← Int32.ofInt_sub, ← Int32.ofInt_mul]; done) | exact congrArg Int32.ofInt (by omega) | rfl))
            · rw [if_neg q] at ebx
              have q : s.testBit x = false := by simpa using q
              refine z_ne 0 0 (fun z => absurd rfl z) (fun _ => ?_) (hx := ebx)
              refine k2_isFit g2 w2 bl s x pr (by omega) hx hp (fun M3 hf3 hob => br_f (by decide) ?_) (fun M3 hf3 hob => br_t (by decide) ?_)
              · have hc : cWy t pr aAll (fb_ct (fun j => s.testBit j) 11) s x = true := cWy_t.mpr ⟨rfl, q, hob⟩
                have hob2 : s ||| 2 ^ x < PW := by
                  rw [← hPw] at hs ⊢
                  exact or_b hs hx
                have hlt := or_lt q
                have e46 : M3.1 246 (1024 * pr + s) = M2.1 246 (1024 * pr + s) := by rw [hf3.c1 246]
                refine ⟨1024 * pr + s, _, by (first | assumption | (simp only [z_nat, z_lit, ← Int32.ofInt_add, ← Int32.ofInt_sub, ← Int32.ofInt_mul]; exact congrArg Int32.ofInt (by omega)) | (simp only [z_nat, z_lit, ← Int32.ofInt_add, ← Int32.ofInt_sub, ← Int32.ofInt_mul]; done) | exact congrArg Int32.ofInt (by omega) | rfl), by (dsimp only; omega), e46, ?_⟩
                refine ⟨1024 * pr + s, _, by (first | assumption | (simp only [z_nat, z_lit, ← Int32.ofInt_add, ← Int32.ofInt_sub, ← Int32.ofInt_mul]; exact congrArg Int32.ofInt (by omega)) | (simp only [z_nat, z_lit, ← Int32.ofInt_add, ← Int32.ofInt_sub, ← Int32.ofInt_mul]; done) | exact congrArg Int32.ofInt (by omega) | rfl), by (dsimp only; omega), rfl, ?_⟩
                have eo := or_nI (S := s) (d := x) (by omega) (by omega)
                refine ⟨1024 * pr + (s ||| 2 ^ x), _, (congrArg (fun z => nI (1024 * pr) + z) eo).trans (by (first | assumption | (simp only [z_nat, z_lit, ← Int32.ofInt_add, ← Int32.ofInt_sub, ← Int32.ofInt_mul]; exact congrArg Int32.ofInt (by omega)) | (simp only [z_nat, z_lit, ← Int32.ofInt_add, ← Int32.ofInt_sub, ← Int32.ofInt_mul]; done) | exact congrArg Int32.ofInt (by omega) | rfl)), by (dsimp only; omega), rfl, ?_⟩
                refine ih2 _ ⟨(hf2.tr hf3.mono).s1.s1, ?_, fun S hS => ?_, fun i hi => ?_, fun i hi => ?_⟩ _ (by (first | assumption | (simp only [z_nat, z_lit, ← Int32.ofInt_add, ← Int32.ofInt_sub, ← Int32.ofInt_mul]; exact congrArg Int32.ofInt (by omega)) | (simp only [z_nat, z_lit, ← Int32.ofInt_add, ← Int32.ofInt_sub, ← Int32.ofInt_mul]; done) | exact congrArg Int32.ofInt (by omega) | rfl))
                · refine (ho2.tr (outT.fs hf3)).tr (fun i hi => ⟨?_, ?_⟩)
                  · exact (q_si_nn (by omega)).trans (q_si_n (by omega))
                  · exact q_si_n (by omega)
                · by_cases z : S = s ||| 2 ^ x
                  · subst z
                    refine ⟨fun _ => q_si_s, fun w => absurd (Or.inr ⟨x, by omega, hc, rfl⟩) w⟩
                  · have e : (q_si (q_si M3 246 (1024 * pr + s) (M2.1 246 (1024 * pr + s) ||| (Int32.ofInt 1 <<< (nI x &&& 31)))) 247 (1024 * pr + (s ||| 2 ^ x)) (Int32.ofInt 1)).1 247 (1024 * pr + S) = M2.1 247 (1024 * pr + S) := by
                      rw [q_si_n (by omega)]
                      show M3.1 247 _ = _
                      rw [hf3.c1 247]
                    refine ⟨fun w => e.trans ((hA2 S hS).1 ?_), fun w => e.trans ((hA2 S hS).2 ?_)⟩
                    · refine w.imp id (fun ⟨y, hy, h1, h2⟩ => ⟨y, ?_, h1, h2⟩)
                      refine Classical.byContradiction (fun w2 => ?_)
                      have : y = x := by omega
                      subst this
                      exact z h2
                    · intro w2
                      exact w (w2.imp id (fun ⟨y, hy, h⟩ => ⟨y, by omega, h⟩))
                · refine (q_si_nn (by omega)).trans ((q_si_n hi).trans ?_)
                  rw [hf3.c1 246]
                  exact hB2 i hi
                · have e : (q_si (q_si M3 246 (1024 * pr + s) (M2.1 246 (1024 * pr + s) ||| (Int32.ofInt 1 <<< (nI x &&& 31)))) 247 (1024 * pr + (s ||| 2 ^ x)) (Int32.ofInt 1)).1 246 (1024 * pr + s) = M2.1 246 (1024 * pr + s) ||| (Int32.ofInt 1 <<< (nI x &&& 31)) := (q_si_nn (by omega)).trans q_si_s
                  refine (congrArg (fun z => bt z i) e).trans ?_
                  refine (b_set (by omega) hi).trans ?_
                  rw [hC2 i hi]
                  by_cases z : i = x
                  · rw [z, decide_eq_true rfl, Bool.or_true, decide_eq_true (Nat.lt_succ_self x), hc]
                    rfl
                  · rw [decide_eq_false z, Bool.or_false]
                    by_cases z2 : i < x
                    · rw [decide_eq_true z2, decide_eq_true (by omega)]
                    · rw [decide_eq_false z2, decide_eq_false (by omega)]
              · exact skip (cWy_f (fun z => hob z.2.2)) M3 hf3 _ (by (first | assumption | (simp only [z_nat, z_lit, ← Int32.ofInt_add, ← Int32.ofInt_sub, ← Int32.ofInt_mul]; exact congrArg Int32.ofInt (by omega)) | (simp only [z_nat, z_lit, ← Int32.ofInt_add, ← Int32.ofInt_sub, ← Int32.ofInt_mul]; done) | exact congrArg Int32.ofInt (by omega) | rfl))
        · exact step (Or.inr (by omega)) _ _ (by (first | assumption | (simp only [z_nat, z_lit, ← Int32.ofInt_add, ← Int32.ofInt_sub, ← Int32.ofInt_mul]; exact congrArg Int32.ofInt (by omega)) | (simp only [z_nat, z_lit, ← Int32.ofInt_add, ← Int32.ofInt_sub, ← Int32.ofInt_mul]; done) | exact congrArg Int32.ofInt (by omega) | rfl))
      · have e1 := (hA s hs).2 (fun z => hr ((mkT_r h10).mp z))
        refine ⟨1024 * pr + s, _, by (first | assumption | (simp only [z_nat, z_lit, ← Int32.ofInt_add, ← Int32.ofInt_sub, ← Int32.ofInt_mul]; exact congrArg Int32.ofInt (by omega)) | (simp only [z_nat, z_lit, ← Int32.ofInt_add, ← Int32.ofInt_sub, ← Int32.ofInt_mul]; done) | exact congrArg Int32.ofInt (by omega) | rfl), by (dsimp only; omega), e1, ?_⟩
        refine z_eq 0 0 (fun _ => ?_) (fun z => absurd rfl z)
        exact step (Or.inl hr) _ _ (by (first | assumption | (simp only [z_nat, z_lit, ← Int32.ofInt_add, ← Int32.ofInt_sub, ← Int32.ofInt_mul]; exact congrArg Int32.ofInt (by omega)) | (simp only [z_nat, z_lit, ← Int32.ofInt_add, ← Int32.ofInt_sub, ← Int32.ofInt_mul]; done) | exact congrArg Int32.ofInt (by omega) | rfl))
  have W := lp_m (W := fun k M' => ∀ v x, v = nI k → q_G q_mt (L, xs, q_shp) E nX10_learnFits (d + 4) 0 0 (q_Q (L, xs, q_shp) E Q) 3 [some (.ref 244), some (.int (nI pr)), some (.int (nI (1024 * pr))), some (.int (nI (PW))), some (.int (v)), x] [] M') (J := fun k M' => q_fs lT [] M M' ∧ outT pr M M' ∧ ∀ S, S < k → M'.1 246 (1024 * pr + S) = Int32.ofInt 0 ∧ M'.1 247 (1024 * pr + S) = Int32.ofInt (if S = 0 then 1 else 0)) (PW) ?_ ?_ 0 M (Nat.zero_le _) ⟨q_fs.rf, fun i _ => ⟨rfl, rfl⟩, fun S hS => by omega⟩
  · refine w_in 90 [3, 47, 86] ?_
    exact W _ _ rfl
  · rintro M' ⟨hf, ho, hm⟩ v x rfl
    refine w_at 90 [3, 47, 86] ?_
    refine z_le (PW : Int) (PW : Int) (fun _ => ?_) (fun z => by omega)
    refine L2 M' hf ho (fun S hS => ⟨(hm S hS).1, fun z => ?_, fun z => ?_⟩) x
    · rw [(hm S hS).2, if_pos (z.elim id (fun ⟨S', y, h, _⟩ => by omega))]
    · rw [(hm S hS).2, if_neg (fun w => z (Or.inl w))]
  · rintro k M' hk ⟨hf, ho, hm⟩ ih v x rfl
    have nx : ∀ y : Int, y = (if k = 0 then 1 else 0) → q_fs lT [] M (q_si (q_si M' 246 (1024 * pr + k) (Int32.ofInt 0)) 247 (1024 * pr + k) (Int32.ofInt y)) ∧ outT pr M (q_si (q_si M' 246 (1024 * pr + k) (Int32.ofInt 0)) 247 (1024 * pr + k) (Int32.ofInt y)) ∧ ∀ S, S < k + 1 → (q_si (q_si M' 246 (1024 * pr + k) (Int32.ofInt 0)) 247 (1024 * pr + k) (Int32.ofInt y)).1 246 (1024 * pr + S) = Int32.ofInt 0 ∧ (q_si (q_si M' 246 (1024 * pr + k) (Int32.ofInt 0)) 247 (1024 * pr + k) (Int32.ofInt y)).1 247 (1024 * pr + S) = Int32.ofInt (if S = 0 then 1 else 0) := fun y hy => by
      refine ⟨hf.s1.s1, ho.tr (fun i hi => ⟨(q_si_nn (by omega)).trans (q_si_n (by omega)), q_si_n (by omega)⟩), fun S hS => ?_⟩
      by_cases z : S = k
      · subst z
        exact ⟨(q_si_nn (by omega)).trans q_si_s, by rw [q_si_s, hy]⟩
      · have := hm S (by omega)
        exact ⟨(q_si_nn (by omega)).trans ((q_si_n (by omega)).trans this.1), (q_si_n (by omega)).trans this.2⟩
    refine w_at 90 [3, 47, 86] ?_
    refine z_le (PW : Int) (k : Int) (fun z => by omega) (fun _ => ?_)
    refine ⟨1024 * pr + k, _, by (first | assumption | (simp only [z_nat, z_lit, ← Int32.ofInt_add, ← Int32.ofInt_sub, ← Int32.ofInt_mul]; exact congrArg Int32.ofInt (by omega)) | (simp only [z_nat, z_lit, ← Int32.ofInt_add, ← Int32.ofInt_sub, ← Int32.ofInt_mul]; done) | exact congrArg Int32.ofInt (by omega) | rfl), by (dsimp only; omega), rfl, ?_⟩
    refine z_ne (k : Int) 0 (fun z => ?_) (fun z => ?_)
    · refine ⟨1024 * pr + k, _, by (first | assumption | (simp only [z_nat, z_lit, ← Int32.ofInt_add, ← Int32.ofInt_sub, ← Int32.ofInt_mul]; exact congrArg Int32.ofInt (by omega)) | (simp only [z_nat, z_lit, ← Int32.ofInt_add, ← Int32.ofInt_sub, ← Int32.ofInt_mul]; done) | exact congrArg Int32.ofInt (by omega) | rfl), by (dsimp only; omega), rfl, ?_⟩
      exact ih _ (nx 0 (by rw [if_neg (by omega)])) _ _ (by (first | assumption | (simp only [z_nat, z_lit, ← Int32.ofInt_add, ← Int32.ofInt_sub, ← Int32.ofInt_mul]; exact congrArg Int32.ofInt (by omega)) | (simp only [z_nat, z_lit, ← Int32.ofInt_add, ← Int32.ofInt_sub, ← Int32.ofInt_mul]; done) | exact congrArg Int32.ofInt (by omega) | rfl))
    · refine ⟨1024 * pr + k, _, by (first | assumption | (simp only [z_nat, z_lit, ← Int32.ofInt_add, ← Int32.ofInt_sub, ← Int32.ofInt_mul]; exact congrArg Int32.ofInt (by omega)) | (simp only [z_nat, z_lit, ← Int32.ofInt_add, ← Int32.ofInt_sub, ← Int32.ofInt_mul]; done) | exact congrArg Int32.ofInt (by omega) | rfl), by (dsimp only; omega), rfl, ?_⟩
      exact ih _ (nx 1 (by rw [if_pos (by omega)])) _ _ (by (first | assumption | (simp only [z_nat, z_lit, ← Int32.ofInt_add, ← Int32.ofInt_sub, ← Int32.ofInt_mul]; exact congrArg Int32.ofInt (by omega)) | (simp only [z_nat, z_lit, ← Int32.ofInt_add, ← Int32.ofInt_sub, ← Int32.ofInt_mul]; done) | exact congrArg Int32.ofInt (by omega) | rfl))
end LE
