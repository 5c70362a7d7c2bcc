/-! the first best row told by the class -/
section TL
variable {L : Nat} {xs : Nat → Int32} {E : q_E} {d : Nat} {M : q_M} {t : q_T} {n : sN} {Q : Option Value → q_M → Prop} {P : q_M → Prop}
variable {alw : Nat → Nat → Bool} {wt : Nat → Bool}
theorem g_al.fs {l : List Nat} {f : List (Nat × Nat)} {M' : q_M} (h : g_al M t alw wt) (hf : q_fs l f M M') (h1 : ∀ i, q_scr l f 249 i = false := by intro i; exact rfl) (h2 : ∀ i, q_scr l f 250 i = false := by intro i; exact rfl) : g_al M' t alw wt := by
  unfold g_al at h ⊢
  rw [hf.c1 249 h1, hf.c1 250 h2]
  exact h
theorem g_Mm.fs {l : List Nat} {f : List (Nat × Nat)} {M' : q_M} {pr : Nat} (h : g_Mm M t pr) (hf : q_fs l f M M') (h1 : ∀ i, q_scr l f 246 i = false := by intro i; exact rfl) (h2 : ∀ i, q_scr l f 247 i = false := by intro i; exact rfl) : g_Mm M' t pr := by
  unfold g_Mm at h ⊢
  rw [hf.c1 246 h1, hf.c1 247 h2]
  exact h
def topsK (M : q_M) (t : q_T) (pr : Nat) (alw : Nat → Nat → Bool) (cst : Nat → Nat → Int) (lo : Nat) : Prop := ∀ S, lo ≤ S → S < 2 ^ t 5 0 → rch' t pr S → M.1 248 S = Int32.ofInt (tpS t pr alw cst S)
set_option maxRecDepth 100000 in
set_option maxHeartbeats 4000000 in
theorem k2_findTops (g : g_Z 43 M t n) {pr : Nat} (hm : g_Mm M t pr) (hal : g_al M t alw wt) {a : Int32} (e : Nat) (he : e < t 8 0) (hpr : t 9 e = pr) (hQ : ∀ M', q_fs [248] [] M M' → topsK M' t pr alw (cstE t e wt) 0 → Q none M') (ha : a = nI e := by (first | assumption | (simp only [z_nat, z_lit, ← Int32.ofInt_add, ← Int32.ofInt_sub, ← Int32.ofInt_mul]; exact congrArg Int32.ofInt (by omega)) | (simp only [z_nat, z_lit, ← Int32.ofInt_add, ← Int32.ofInt_sub, ← Int32.ofInt_mul]; done) | exact congrArg Int32.ofInt (by omega) | rfl)) : q_C q_mt (L, xs, q_shp) E nX10_findTops (d + 4) 0 0 [.ref 244, .int (a)] M Q := by
  subst ha
  have h10 := g.R.d10
  have h6 := g.R.r6
  have hpw := pw_b h10
  have es := sh_nI (t 5 0) (by omega)
  generalize hPw : 2 ^ t 5 0 = PW at es hpw
  have W := lp_m (W := fun k M' => ∀ v x y, v = Int32.ofInt ((PW : Int) - 1 - k) → q_G q_mt (L, xs, q_shp) E nX10_findTops (d + 4) 0 0 (q_Q (L, xs, q_shp) E Q) 12 [some (.ref 244), some (.int (nI e)), some (.int (v)), x, y] [] M') (J := fun k M' => q_fs [248] [] M M' ∧ topsK M' t pr alw (cstE t e wt) (PW - k)) PW ?_ ?_ 0 M (Nat.zero_le _) ⟨q_fs.rf, fun S h1 h2 => by rw [hPw] at h2; omega⟩
  · refine w_in 90 [12, 60] ?_
    refine ⟨_, g.dN, ?_⟩
    refine W _ _ _ ?_
    refine (congrArg (fun z => z - Int32.ofInt 1) es).trans ?_
    rw [z_nat, ← Int32.ofInt_sub]
    exact congrArg Int32.ofInt (by omega)
  · rintro M' ⟨hf, hA⟩ v x y rfl
    rw [Nat.sub_self] at hA
    refine w_at 90 [12, 60] ?_
    exact z_lt ((PW : Int) - 1 - PW) 0 (fun _ => hQ M' hf hA) (fun z => by omega)
  · rintro k M' hk ⟨hf, hA⟩ ih v x y rfl
    obtain ⟨S, hSk⟩ : ∃ S : Nat, S + 1 + k = PW := ⟨PW - 1 - k, by omega⟩
    have ev : Int32.ofInt ((PW : Int) - 1 - k) = nI S := by
      rw [z_nat]
      exact congrArg Int32.ofInt (by omega)
    rw [ev]
    have hS : S < 2 ^ t 5 0 := by omega
    have g2 := g.f3 hf
    have pc11 := fb_ct_le (fun j => S.testBit j) 11
    have ebc : bcF (nI S) = nI (fb_ct (fun j => S.testBit j) 11) := bc_ok (fun j hj => bt_S (by omega) hj)
    have pcN : rch' t pr S → (fb_ct (fun j => S.testBit j) 11) ≤ t 0 0 := fun hr => by
      obtain ⟨row, kk, hkk, hdst, -, rfl⟩ := hr
      rw [stO_pc hdst (by omega)]
      exact hkk
    -- the set's own is laid: the next set
    have nx : ∀ M2, q_fs [248] [] M M2 → (∀ S', ¬ S' = S → M2.1 248 S' = M'.1 248 S') → (rch' t pr S → M2.1 248 S = Int32.ofInt (tpS t pr alw (cstE t e wt) S)) → ∀ v x y, v = nI S + Int32.ofInt (-1) → q_G q_mt (L, xs, q_shp) E nX10_findTops (d + 4) 0 0 (q_Q (L, xs, q_shp) E Q) 12 [some (.ref 244), some (.int (nI e)), some (.int (v)), x, y] [] M2 := by
      intro M2 hf2 h1 h2 v x y hv
      refine ih M2 ⟨hf2, fun S' y1 y2 hr' => ?_⟩ v x y ?_
      · by_cases z : S' = S
        · subst z
          exact h2 hr'
        · rw [h1 S' z]
          exact hA S' (by omega) y2 hr'
      · rw [hv, z_nat, ← Int32.ofInt_add]
        exact congrArg Int32.ofInt (by omega)
    have small : ∀ v0 : Int32, (fb_ct (fun j => S.testBit j) 11) < t 0 0 → v0 = Int32.ofInt (-1) → q_G q_mt (L, xs, q_shp) E nX10_findTops (d + 4) 0 0 (q_Q (L, xs, q_shp) E Q) 60 [some (.ref 244), some (.int (nI e)), some (.int (nI S)), some (.int (nI (fb_ct (fun j => S.testBit j) 11))), some (.int (Int32.ofInt 0))] [] (q_si M' 248 S v0) := by
      intro v0 hN hv0
      subst hv0
      have L := lp_m (W := fun i M2 => ∀ v, v = nI i → q_G q_mt (L, xs, q_shp) E nX10_findTops (d + 4) 0 0 (q_Q (L, xs, q_shp) E Q) 60 [some (.ref 244), some (.int (nI e)), some (.int (nI S)), some (.int (nI (fb_ct (fun j => S.testBit j) 11))), some (.int (v))] [] M2) (J := fun i M2 => q_fs [248] [] M M2 ∧ (∀ S', ¬ S' = S → M2.1 248 S' = M'.1 248 S') ∧ (rch' t pr S → M2.1 248 S = Int32.ofInt (rM (cdV (cWy t pr alw) (t 5 0) (cstE t e wt) (t 0 0 - (fb_ct (fun j => S.testBit j) 11) - 1) (fb_ct (fun j => S.testBit j) 11) S) i))) (t 5 0) ?_ ?_ 0 (q_si M' 248 S (Int32.ofInt (-1))) (Nat.zero_le _) ⟨hf.s1, fun S' z => q_si_n z, fun _ => q_si_s⟩
      · exact L _ rfl
      · rintro M2 ⟨hf2, hB, hC⟩ v rfl
        have g3 := g.f3 hf2
        refine w_at 90 [12, 60] ?_
        refine ⟨_, g3.dN, ?_⟩
        refine z_le (t 5 0) (t 5 0) (fun _ => ?_) (fun z => by omega)
        refine nx M2 hf2 hB (fun hr => ?_) _ _ _ rfl
        rw [hC hr]
        refine congrArg Int32.ofInt ?_
        unfold tpS
        have := (ext_mx (C := cWy t pr alw) (D := t 5 0) (k := t 0 0 - (fb_ct (fun j => S.testBit j) 11) - 1) (p := (fb_ct (fun j => S.testBit j) 11)) (S := S) (cst_0 (t := t) (e := e) (wt := wt))).1
        rw [show t 0 0 - (fb_ct (fun j => S.testBit j) 11) - 1 + 1 = t 0 0 - (fb_ct (fun j => S.testBit j) 11) by omega] at this
        exact this.symm
      · rintro i M2 hi ⟨hf2, hB, hC⟩ ih2 v rfl
        have g3 := g.f3 hf2
        refine w_at 90 [12, 60] ?_
        refine ⟨_, g3.dN, ?_⟩
        refine z_le (t 5 0) (i : Int) (fun z => by omega) (fun _ => ?_)
        refine ⟨S, M2.1 248 S, rfl, by (dsimp only; omega), rfl, ?_⟩
        refine k2_pointsBy g3 (hm.fs hf2) (hal.fs hf2) e S i he hpr hS hN hi (fun hr S' y1 y2 hr' => by rw [hB S' (by omega)]; exact hA S' (by omega) y2 hr') (fun v hv => ?_)
        refine ⟨S, _, rfl, by (dsimp only; omega), rfl, ?_⟩
        refine ih2 _ ⟨hf2.s1, fun S' z => (q_si_n z).trans (hB S' z), fun hr => ?_⟩ _ (by (first | assumption | (simp only [z_nat, z_lit, ← Int32.ofInt_add, ← Int32.ofInt_sub, ← Int32.ofInt_mul]; exact congrArg Int32.ofInt (by omega)) | (simp only [z_nat, z_lit, ← Int32.ofInt_add, ← Int32.ofInt_sub, ← Int32.ofInt_mul]; done) | exact congrArg Int32.ofInt (by omega) | rfl))
        have b1 := cdV_108 (wt := wt) (alw := alw) (pr := pr) (e := e) g.R (k := t 0 0 - (fb_ct (fun j => S.testBit j) 11) - 1) (p := (fb_ct (fun j => S.testBit j) 11)) (S := S) (by omega) hi
        have b2 := rM_b (f := cdV (cWy t pr alw) (t 5 0) (cstE t e wt) (t 0 0 - (fb_ct (fun j => S.testBit j) 11) - 1) (fb_ct (fun j => S.testBit j) 11) S) (c := 126000) (by omega) (m := i) (fun y hy => cdV_108 (wt := wt) (alw := alw) (pr := pr) (e := e) g.R (by omega) (by omega))
        rw [q_si_s, hC hr, hv hr]
        exact z_max (by omega) (by omega)
    refine w_at 90 [12, 60] ?_
    refine z_lt (S : Int) 0 (fun z => by omega) (fun _ => ?_)
    refine p_bitCount ?_
    rw [ebc]
    refine ⟨_, g2.ro, ?_⟩
    refine z_ne (fb_ct (fun j => S.testBit j) 11) (t 0 0) (fun z => ?_) (fun z => ?_)
    · refine ⟨S, _, by (first | assumption | (simp only [z_nat, z_lit, ← Int32.ofInt_add, ← Int32.ofInt_sub, ← Int32.ofInt_mul]; exact congrArg Int32.ofInt (by omega)) | (simp only [z_nat, z_lit, ← Int32.ofInt_add, ← Int32.ofInt_sub, ← Int32.ofInt_mul]; done) | exact congrArg Int32.ofInt (by omega) | rfl), by (dsimp only; omega), rfl, ?_⟩
      have e0 : (q_si M' 248 S (Int32.ofInt (-1))).1 6 0 = nI (t 0 0) := g2.ro
      refine ⟨_, e0, ?_⟩
      refine z_lt (fb_ct (fun j => S.testBit j) 11) (t 0 0) (fun hN => ?_) (fun hN => ?_)
      · exact small _ (by omega) rfl
      · exact nx _ hf.s1 (fun S' w => q_si_n w) (fun hr => by have := pcN hr; omega) _ _ _ rfl
    · refine ⟨S, _, by (first | assumption | (simp only [z_nat, z_lit, ← Int32.ofInt_add, ← Int32.ofInt_sub, ← Int32.ofInt_mul]; exact congrArg Int32.ofInt (by omega)) | (simp only [z_nat, z_lit, ← Int32.ofInt_add, ← Int32.ofInt_sub, ← Int32.ofInt_mul]; done) | exact congrArg Int32.ofInt (by omega) | rfl), by (dsimp only; omega), rfl, ?_⟩
      have e0 : (q_si M' 248 S (Int32.ofInt 0)).1 6 0 = nI (t 0 0) := g2.ro
      refine ⟨_, e0, ?_⟩
      refine z_lt (fb_ct (fun j => S.testBit j) 11) (t 0 0) (fun hN => by omega) (fun hN => ?_)
      refine nx _ hf.s1 (fun S' w => q_si_n w) (fun hr => ?_) _ _ _ rfl
      rw [q_si_s]
      refine congrArg Int32.ofInt ?_
      unfold tpS
      rw [show t 0 0 - (fb_ct (fun j => S.testBit j) 11) = 0 by omega]
      rfl
set_option maxRecDepth 100000 in
set_option maxHeartbeats 4000000 in
theorem k2_findTopDive (g : g_Z 43 M t n) {pr : Nat} (hm : g_Mm M t pr) (hal : g_al M t alw wt) {a b : Int32} (e S : Nat) (he : e < t 8 0) (hpr : t 9 e = pr) (hS : S < 2 ^ t 5 0) (hr : rch' t pr S) (hN : (fb_ct (fun j => S.testBit j) 11) < t 0 0) (hT : topsK M t pr alw (cstE t e wt) 0) (hne : ¬ tpS t pr alw (cstE t e wt) S = -1) (hQ : ∀ x, x < t 5 0 → cWy t pr alw (fb_ct (fun j => S.testBit j) 11) S x = true → ¬ mx (vl (cstE t e wt) ((fb_ct (fun j => S.testBit j) 11) + 1)) (ext (cWy t pr alw) (t 5 0) (t 0 0 - (fb_ct (fun j => S.testBit j) 11) - 1) ((fb_ct (fun j => S.testBit j) 11) + 1) (S ||| 2 ^ x)) = -1 → ar (vl (cstE t e wt) (fb_ct (fun j => S.testBit j) 11)) (ext (cWy t pr alw) (t 5 0) (t 0 0 - (fb_ct (fun j => S.testBit j) 11)) (fb_ct (fun j => S.testBit j) 11) S) = x :: ar (vl (cstE t e wt) ((fb_ct (fun j => S.testBit j) 11) + 1)) (ext (cWy t pr alw) (t 5 0) (t 0 0 - (fb_ct (fun j => S.testBit j) 11) - 1) ((fb_ct (fun j => S.testBit j) 11) + 1) (S ||| 2 ^ x)) → Q (some (.int (nI x))) M) (ha : a = nI e := by (first | assumption | (simp only [z_nat, z_lit, ← Int32.ofInt_add, ← Int32.ofInt_sub, ← Int32.ofInt_mul]; exact congrArg Int32.ofInt (by omega)) | (simp only [z_nat, z_lit, ← Int32.ofInt_add, ← Int32.ofInt_sub, ← Int32.ofInt_mul]; done) | exact congrArg Int32.ofInt (by omega) | rfl)) (hb : b = nI S := by (first | assumption | (simp only [z_nat, z_lit, ← Int32.ofInt_add, ← Int32.ofInt_sub, ← Int32.ofInt_mul]; exact congrArg Int32.ofInt (by omega)) | (simp only [z_nat, z_lit, ← Int32.ofInt_add, ← Int32.ofInt_sub, ← Int32.ofInt_mul]; done) | exact congrArg Int32.ofInt (by omega) | rfl)) : q_C q_mt (L, xs, q_shp) E nX10_findTopDive (d + 4) 0 0 [.ref 244, .int (a), .int (b)] M Q := by
  subst ha hb
  have h10 := g.R.d10
  have h6 := g.R.r6
  have hpw := pw_b h10
  have pc11 := fb_ct_le (fun j => S.testBit j) 11
  have ebc : bcF (nI S) = nI (fb_ct (fun j => S.testBit j) 11) := bc_ok (fun j hj => bt_S (by omega) hj)
  obtain ⟨m1, m2⟩ := ext_mx (C := cWy t pr alw) (D := t 5 0) (k := t 0 0 - (fb_ct (fun j => S.testBit j) 11) - 1) (p := (fb_ct (fun j => S.testBit j) 11)) (S := S) (cst_0 (t := t) (e := e) (wt := wt))
  rw [show t 0 0 - (fb_ct (fun j => S.testBit j) 11) - 1 + 1 = t 0 0 - (fb_ct (fun j => S.testBit j) 11) by omega] at m1 m2
  have etp : tpS t pr alw (cstE t e wt) S = rM (cdV (cWy t pr alw) (t 5 0) (cstE t e wt) (t 0 0 - (fb_ct (fun j => S.testBit j) 11) - 1) (fb_ct (fun j => S.testBit j) 11) S) (t 5 0) := m1
  have e48 := hT S (Nat.zero_le _) hS hr
  rw [etp] at e48 hne
  obtain ⟨x0, x1, x2, x3, x4⟩ := m2 hne
  have b2 := rM_b (f := cdV (cWy t pr alw) (t 5 0) (cstE t e wt) (t 0 0 - (fb_ct (fun j => S.testBit j) 11) - 1) (fb_ct (fun j => S.testBit j) 11) S) (c := 126000) (by omega) (m := t 5 0) (fun y hy => cdV_108 (wt := wt) (alw := alw) (pr := pr) (e := e) g.R (by omega) hy)
  have W := lp_up (W := fun i => i ≤ x0 → ∀ v y, v = nI i → q_G q_mt (L, xs, q_shp) E nX10_findTopDive (d + 4) 0 0 (q_Q (L, xs, q_shp) E Q) 18 [some (.ref 244), some (.int (nI e)), some (.int (nI S)), some (.int (v)), y] [] M) (t 5 0) ?_ ?_ 0 (Nat.zero_le _)
  · refine w_in 90 [18] ?_
    refine p_bitCount ?_
    rw [ebc]
    refine ⟨_, g.ro, ?_⟩
    refine z_lt (fb_ct (fun j => S.testBit j) 11) (t 0 0) (fun _ => ?_) (fun z => by omega)
    exact W (Nat.zero_le _) _ _ rfl
  · intro z
    omega
  · rintro i hi ih hix v y rfl
    have b1 := cdV_108 (wt := wt) (alw := alw) (pr := pr) (e := e) g.R (k := t 0 0 - (fb_ct (fun j => S.testBit j) 11) - 1) (p := (fb_ct (fun j => S.testBit j) 11)) (S := S) (by omega) hi
    refine w_at 90 [18] ?_
    refine ⟨_, g.dN, ?_⟩
    refine z_le (t 5 0) (i : Int) (fun z => by omega) (fun _ => ?_)
    refine k2_pointsBy g hm hal e S i he hpr hS hN hi (fun _ S' y1 y2 hr' => hT S' (Nat.zero_le _) y2 hr') (fun v hv => ?_)
    rw [hv hr]
    by_cases q : i = x0
    · subst q
      refine z_eq (cdV (cWy t pr alw) (t 5 0) (cstE t e wt) (t 0 0 - (fb_ct (fun j => S.testBit j) 11) - 1) (fb_ct (fun j => S.testBit j) 11) S i) (-1) (fun z => absurd (x2.symm.trans z) hne) (fun _ => ?_)
      refine ⟨S, _, by (first | assumption | (simp only [z_nat, z_lit, ← Int32.ofInt_add, ← Int32.ofInt_sub, ← Int32.ofInt_mul]; exact congrArg Int32.ofInt (by omega)) | (simp only [z_nat, z_lit, ← Int32.ofInt_add, ← Int32.ofInt_sub, ← Int32.ofInt_mul]; done) | exact congrArg Int32.ofInt (by omega) | rfl), by (dsimp only; omega), e48, ?_⟩
      refine z_ne (cdV (cWy t pr alw) (t 5 0) (cstE t e wt) (t 0 0 - (fb_ct (fun j => S.testBit j) 11) - 1) (fb_ct (fun j => S.testBit j) 11) S i) (rM (cdV (cWy t pr alw) (t 5 0) (cstE t e wt) (t 0 0 - (fb_ct (fun j => S.testBit j) 11) - 1) (fb_ct (fun j => S.testBit j) 11) S) (t 5 0)) (fun z => absurd x2 z) (fun _ => ⟨_, rfl, ?_⟩)
      have hcc : cWy t pr alw (fb_ct (fun j => S.testBit j) 11) S i = true ∧ ¬ mx (vl (cstE t e wt) ((fb_ct (fun j => S.testBit j) 11) + 1)) (ext (cWy t pr alw) (t 5 0) (t 0 0 - (fb_ct (fun j => S.testBit j) 11) - 1) ((fb_ct (fun j => S.testBit j) 11) + 1) (S ||| 2 ^ i)) = -1 := Classical.byContradiction (fun z => hne (x2.symm.trans (if_neg z)))
      exact hQ i hi hcc.1 hcc.2 x4
    · have nq := x3 i (by omega)
      refine z_eq (cdV (cWy t pr alw) (t 5 0) (cstE t e wt) (t 0 0 - (fb_ct (fun j => S.testBit j) 11) - 1) (fb_ct (fun j => S.testBit j) 11) S i) (-1) (fun z => ?_) (fun z => ?_)
      · exact ih (by omega) _ _ (by (first | assumption | (simp only [z_nat, z_lit, ← Int32.ofInt_add, ← Int32.ofInt_sub, ← Int32.ofInt_mul]; exact congrArg Int32.ofInt (by omega)) | (simp only [z_nat, z_lit, ← Int32.ofInt_add, ← Int32.ofInt_sub, ← Int32.ofInt_mul]; done) | exact congrArg Int32.ofInt (by omega) | rfl))
      · refine ⟨S, _, by (first | assumption | (simp only [z_nat, z_lit, ← Int32.ofInt_add, ← Int32.ofInt_sub, ← Int32.ofInt_mul]; exact congrArg Int32.ofInt (by omega)) | (simp only [z_nat, z_lit, ← Int32.ofInt_add, ← Int32.ofInt_sub, ← Int32.ofInt_mul]; done) | exact congrArg Int32.ofInt (by omega) | rfl), by (dsimp only; omega), e48, ?_⟩
        refine z_ne (cdV (cWy t pr alw) (t 5 0) (cstE t e wt) (t 0 0 - (fb_ct (fun j => S.testBit j) 11) - 1) (fb_ct (fun j => S.testBit j) 11) S i) (rM (cdV (cWy t pr alw) (t 5 0) (cstE t e wt) (t 0 0 - (fb_ct (fun j => S.testBit j) 11) - 1) (fb_ct (fun j => S.testBit j) 11) S) (t 5 0)) (fun _ => ?_) (fun z => absurd z nq)
        exact ih (by omega) _ _ (by (first | assumption | (simp only [z_nat, z_lit, ← Int32.ofInt_add, ← Int32.ofInt_sub, ← Int32.ofInt_mul]; exact congrArg Int32.ofInt (by omega)) | (simp only [z_nat, z_lit, ← Int32.ofInt_add, ← Int32.ofInt_sub, ← Int32.ofInt_mul]; done) | exact congrArg Int32.ofInt (by omega) | rfl))
end TL
