/-! rows that obey, as the reference walks them -/
def obB (t : q_T) (S x pr : Nat) : Bool := decide (fb_ct (fun l => lwS t l S x pr) (t 17 0) = t 17 0)
theorem obB_t {t : q_T} {S x pr : Nat} : obB t S x pr = true ↔ obey t S x pr := by
  unfold obB
  rw [decide_eq_true_eq, fb_ct_all]
  rfl
/-- what may stand where -/
def cWy (t : q_T) (pr : Nat) (alw : Nat → Nat → Bool) : CT := fun p S d => alw p d && (!S.testBit d && obB t S d pr)
theorem cWy_t {t : q_T} {pr : Nat} {alw : Nat → Nat → Bool} {p S d : Nat} : cWy t pr alw p S d = true ↔ alw p d = true ∧ S.testBit d = false ∧ obey t S d pr := by
  unfold cWy
  rw [Bool.and_eq_true, Bool.and_eq_true, Bool.not_eq_true', obB_t]
theorem cWy_f {t : q_T} {pr : Nat} {alw : Nat → Nat → Bool} {p S d : Nat} (h : ¬ (alw p d = true ∧ S.testBit d = false ∧ obey t S d pr)) : cWy t pr alw p S d = false := Bool.eq_false_iff.mpr (fun z => h (cWy_t.mp z))
/-- stays and pool of the reference -/
def g_st (M : q_M) (t : q_T) (alw : Nat → Nat → Bool) : Prop := ∀ p, p < t 0 0 → (M.1 291 p = Int32.ofInt (-1) ∧ ∀ d, d < t 5 0 → bt (M.1 271 33) d = alw p d) ∨ ∃ s, s < t 5 0 ∧ M.1 291 p = nI s ∧ (∀ d, alw p d = decide (d = s)) ∧ ∀ i, i < t 0 0 → ¬ i = p → alw i s = false
section WF
variable {L : Nat} {xs : Nat → Int32} {E : q_E} {d : Nat} {M : q_M} {t : q_T} {n : sN} {Q : Option Value → q_M → Prop} {P : q_M → Prop}
variable {alw : Nat → Nat → Bool} {row : Nat → Nat}
theorem g_st.eq {M' : q_M} (h : g_st M t alw) (e1 : M'.1 291 = M.1 291) (e2 : M'.1 271 33 = M.1 271 33) : g_st M' t alw := by
  unfold g_st at h ⊢
  rw [e1, e2]
  exact h
set_option maxRecDepth 100000 in
set_option maxHeartbeats 4000000 in
theorem k_nextAt (g : g_R M t n) (hs : g_st M t alw) {b : Int32} (p a : Nat) (hp : p < t 0 0) (ha : a ≤ t 5 0) (hrow : g_Y M row p) (hd : dst row p (t 5 0)) (h289 : M.1 289 p = Int32.ofInt ((a : Int) - 1)) (hal : ∀ i, i < p → alw i (row i) = true) (hala : a = 0 ∨ alw p (a - 1) = true) (h1 : ∀ x, a ≤ x → x < t 5 0 → alw p x = true → (stO row p).testBit x = false → (∀ y, a ≤ y → y < x → ¬ (alw p y = true ∧ (stO row p).testBit y = false)) → Q (some (.int (nI x))) M) (h0 : (∀ y, a ≤ y → y < t 5 0 → ¬ (alw p y = true ∧ (stO row p).testBit y = false)) → Q (some (.int (Int32.ofInt (-1)))) M) (hb : b = nI p := by (first | assumption | (simp only [z_nat, z_lit, ← Int32.ofInt_add, ← Int32.ofInt_sub, ← Int32.ofInt_mul]; exact congrArg Int32.ofInt (by omega)) | (simp only [z_nat, z_lit, ← Int32.ofInt_add, ← Int32.ofInt_sub, ← Int32.ofInt_mul]; done) | exact congrArg Int32.ofInt (by omega) | rfl)) : q_C q_mt (L, xs, q_shp) E nX12_nextAt (d + 1) 0 0 [.ref 271, .int (b)] M Q := by
  subst hb
  have h6 := g.r6
  have h10 := g.d10
  rcases hs p hp with ⟨e1, hpool⟩ | ⟨s, hs5, e1, hal1, hal2⟩
  · have W := lp_up (W := fun k => a ≤ k → (∀ y, a ≤ y → y < k → ¬ (alw p y = true ∧ (stO row p).testBit y = false)) → ∀ v, v = nI k → q_G q_mt (L, xs, q_shp) E nX12_nextAt (d + 1) 0 0 (q_Q (L, xs, q_shp) E Q) 40 [some (.ref 271), some (.int (nI p)), some (.int (v))] [] M) (t 5 0) ?_ ?_ a ha
    · refine w_in 90 [40] ?_
      refine ⟨p, _, by (first | assumption | (simp only [z_nat, z_lit, ← Int32.ofInt_add, ← Int32.ofInt_sub, ← Int32.ofInt_mul]; exact congrArg Int32.ofInt (by omega)) | (simp only [z_nat, z_lit, ← Int32.ofInt_add, ← Int32.ofInt_sub, ← Int32.ofInt_mul]; done) | exact congrArg Int32.ofInt (by omega) | rfl), by (dsimp only; omega), e1, ?_⟩
      refine z_eq (-1) (-1) (fun _ => ?_) (fun z => absurd rfl z)
      refine ⟨p, _, by (first | assumption | (simp only [z_nat, z_lit, ← Int32.ofInt_add, ← Int32.ofInt_sub, ← Int32.ofInt_mul]; exact congrArg Int32.ofInt (by omega)) | (simp only [z_nat, z_lit, ← Int32.ofInt_add, ← Int32.ofInt_sub, ← Int32.ofInt_mul]; done) | exact congrArg Int32.ofInt (by omega) | rfl), by (dsimp only; omega), h289, ?_⟩
      exact W (Nat.le_refl _) (fun y h1 h2 => by omega) _ (by (first | assumption | (simp only [z_nat, z_lit, ← Int32.ofInt_add, ← Int32.ofInt_sub, ← Int32.ofInt_mul]; exact congrArg Int32.ofInt (by omega)) | (simp only [z_nat, z_lit, ← Int32.ofInt_add, ← Int32.ofInt_sub, ← Int32.ofInt_mul]; done) | exact congrArg Int32.ofInt (by omega) | rfl))
    · rintro _ hno v rfl
      refine w_at 90 [40] ?_
      refine ⟨3, _, by (first | assumption | (simp only [z_nat, z_lit, ← Int32.ofInt_add, ← Int32.ofInt_sub, ← Int32.ofInt_mul]; exact congrArg Int32.ofInt (by omega)) | (simp only [z_nat, z_lit, ← Int32.ofInt_add, ← Int32.ofInt_sub, ← Int32.ofInt_mul]; done) | exact congrArg Int32.ofInt (by omega) | rfl), by (dsimp only; omega), g.R3, ?_⟩
      exact z_le (t 5 0) (t 5 0) (fun _ => ⟨_, rfl, h0 hno⟩) (fun z => by omega)
    · rintro k hk ih hak hno v rfl
      have nx : ¬ (alw p k = true ∧ (stO row p).testBit k = false) → ∀ y, a ≤ y → y < k + 1 → ¬ (alw p y = true ∧ (stO row p).testBit y = false) := fun z y y1 y2 => by
        by_cases w : y = k
        · rw [w]
          exact z
        · exact hno y y1 (by omega)
      refine w_at 90 [40] ?_
      refine ⟨3, _, by (first | assumption | (simp only [z_nat, z_lit, ← Int32.ofInt_add, ← Int32.ofInt_sub, ← Int32.ofInt_mul]; exact congrArg Int32.ofInt (by omega)) | (simp only [z_nat, z_lit, ← Int32.ofInt_add, ← Int32.ofInt_sub, ← Int32.ofInt_mul]; done) | exact congrArg Int32.ofInt (by omega) | rfl), by (dsimp only; omega), g.R3, ?_⟩
      refine z_le (t 5 0) (k : Int) (fun z => by omega) (fun _ => ?_)
      refine ⟨_, rfl, ?_⟩
      refine k_has (M.1 271 33) k (by omega) (fun hh => br_f (by decide) ?_) (fun hh => br_t (by decide) ?_)
      · rw [hpool k hk] at hh
        refine k_isAhead g k p (by omega) (by omega) hrow (fun i hi => by have := hd.1 i hi; omega) (fun hx => bn_t (by decide) ?_) (fun hx => bn_f (by decide) ⟨_, rfl, ?_⟩)
        · exact ih (by omega) (nx (fun z => by rw [stO_iff.mpr hx] at z; cases z.2)) _ (by (first | assumption | (simp only [z_nat, z_lit, ← Int32.ofInt_add, ← Int32.ofInt_sub, ← Int32.ofInt_mul]; exact congrArg Int32.ofInt (by omega)) | (simp only [z_nat, z_lit, ← Int32.ofInt_add, ← Int32.ofInt_sub, ← Int32.ofInt_mul]; done) | exact congrArg Int32.ofInt (by omega) | rfl))
        · exact h1 k hak hk hh (Bool.eq_false_iff.mpr (fun z => hx (stO_iff.mp z))) hno
      · rw [hpool k hk] at hh
        exact ih (by omega) (nx (fun z => by rw [hh] at z; cases z.1)) _ (by (first | assumption | (simp only [z_nat, z_lit, ← Int32.ofInt_add, ← Int32.ofInt_sub, ← Int32.ofInt_mul]; exact congrArg Int32.ofInt (by omega)) | (simp only [z_nat, z_lit, ← Int32.ofInt_add, ← Int32.ofInt_sub, ← Int32.ofInt_mul]; done) | exact congrArg Int32.ofInt (by omega) | rfl))
  · have hns : (stO row p).testBit s = false := Bool.eq_false_iff.mpr (fun z => by
      obtain ⟨i, hi, e⟩ := stO_iff.mp z
      have a1 := hal i hi
      rw [e, hal2 i (by omega) (by omega)] at a1
      cases a1)
    refine w_in 90 [40] ?_
    refine ⟨p, _, by (first | assumption | (simp only [z_nat, z_lit, ← Int32.ofInt_add, ← Int32.ofInt_sub, ← Int32.ofInt_mul]; exact congrArg Int32.ofInt (by omega)) | (simp only [z_nat, z_lit, ← Int32.ofInt_add, ← Int32.ofInt_sub, ← Int32.ofInt_mul]; done) | exact congrArg Int32.ofInt (by omega) | rfl), by (dsimp only; omega), e1, ?_⟩
    refine z_eq (s : Int) (-1) (fun z => by omega) (fun _ => ?_)
    refine ⟨p, _, by (first | assumption | (simp only [z_nat, z_lit, ← Int32.ofInt_add, ← Int32.ofInt_sub, ← Int32.ofInt_mul]; exact congrArg Int32.ofInt (by omega)) | (simp only [z_nat, z_lit, ← Int32.ofInt_add, ← Int32.ofInt_sub, ← Int32.ofInt_mul]; done) | exact congrArg Int32.ofInt (by omega) | rfl), by (dsimp only; omega), h289, ?_⟩
    refine z_ne ((a : Int) - 1) (-1) (fun z => ⟨_, rfl, h0 (fun y y1 y2 w => ?_)⟩) (fun z => ?_)
    · have ya := w.1
      rw [hal1 y, decide_eq_true_eq] at ya
      rcases hala with q | q
      · omega
      · rw [hal1, decide_eq_true_eq] at q
        omega
    · refine ⟨p, _, by (first | assumption | (simp only [z_nat, z_lit, ← Int32.ofInt_add, ← Int32.ofInt_sub, ← Int32.ofInt_mul]; exact congrArg Int32.ofInt (by omega)) | (simp only [z_nat, z_lit, ← Int32.ofInt_add, ← Int32.ofInt_sub, ← Int32.ofInt_mul]; done) | exact congrArg Int32.ofInt (by omega) | rfl), by (dsimp only; omega), e1, ?_⟩
      refine ⟨_, rfl, h1 s (by omega) hs5 (by rw [hal1, decide_eq_true rfl]) hns (fun y y1 y2 w => ?_)⟩
      have ya := w.1
      rw [hal1 y, decide_eq_true_eq] at ya
      omega
-- the search goes on from place p
set_option maxRecDepth 100000 in
set_option maxHeartbeats 4000000 in
theorem k_goLoop (g : g_R M t n) (wl : g_W M t) (bl : b_L t) (hs : g_st M t alw) {pr : Nat} (hpr : pr ≤ 1) {R0 : List (List Nat)} {y1 : Value} (h0 : R0 = [] → ∀ M', q_fs [289, 290] [] M M' → Q (some (.int 0)) M') (h1 : ∀ r' M', R0 = lrow r' 0 (t 0 0) :: remP (cWy t pr alw) (t 5 0) (t 0 0) r' (t 0 0) → dst r' (t 0 0) (t 5 0) → (∀ i, i < t 0 0 → alw i (r' i) = true) → g_Y M' r' (t 0 0) → q_fs [289, 290] [] M M' → Q (some (.int 1)) M') : ∀ (m p : Nat) (row : Nat → Nat) (a : Nat) (M' : q_M), muR (t 5 0) (t 0 0) row p a ≤ m → p < t 0 0 → a ≤ t 5 0 → dst row p (t 5 0) → (∀ i, i < p → alw i (row i) = true) → (a = 0 ∨ alw p (a - 1) = true) → g_Y M' row p → M'.1 289 p = Int32.ofInt ((a : Int) - 1) → q_fs [289, 290] [] M M' → gAh (cWy t pr alw) (t 5 0) (t 0 0) row p a = R0 → ∀ v w x, v = nI p → w = nI (t 0 0 - 1) → q_G q_mt (L, xs, q_shp) E nX12_goesToNext (d + 4) 0 0 (q_Q (L, xs, q_shp) E Q) 12 [some (.ref 271), some y1, some (.int (nI pr)), some (.int (v)), some (.int (w)), x] [] M' := by
  have h6 := g.r6
  have h10 := g.d10
  have l6 := bl.1
  intro m
  induction m with
  | zero =>
    intro p row a M' hmu hp ha
    unfold muR at hmu
    have : 0 < 12 ^ (t 0 0 - 1 - p) := Nat.pow_pos (by decide)
    have : 1 * 12 ^ (t 0 0 - 1 - p) ≤ (t 5 0 + 1 - a) * 12 ^ (t 0 0 - 1 - p) := Nat.mul_le_mul_right _ (by omega)
    omega
  | succ m ih =>
    intro p row a M' hmu hp ha hd hal hala hrow h289 hf hG v w x hv hw
    subst hv hw
    have g' := g.fs hf
    refine w_at 90 [12] ?_
    refine z_lt (p : Int) 0 (fun z => by omega) (fun _ => ?_)
    refine k_nextAt g' (hs.eq (hf.c1 291) (by rw [hf.c1 271])) p a hp ha hrow hd h289 hal hala (fun dd x1 x2 x3 x4 x5 => ?_) (fun hno => ?_)
    · -- a dive to try
      refine ⟨p, _, by (first | assumption | (simp only [z_nat, z_lit, ← Int32.ofInt_add, ← Int32.ofInt_sub, ← Int32.ofInt_mul]; exact congrArg Int32.ofInt (by omega)) | (simp only [z_nat, z_lit, ← Int32.ofInt_add, ← Int32.ofInt_sub, ← Int32.ofInt_mul]; done) | exact congrArg Int32.ofInt (by omega) | rfl), by (dsimp only; omega), rfl, ?_⟩
      have hf2 : q_fs [289, 290] [] M (q_si M' 289 p (nI dd)) := hf.s1
      have hrow2 : g_Y (q_si M' 289 p (nI dd)) (updR row p dd) (p + 1) := fun i hi => by
        by_cases z : i = p
        · rw [z, q_si_s, upd_at]
        · rw [q_si_n z, upd_lt i (by omega)]
          exact hrow i (by omega)
      have hd2 : dst (updR row p dd) (p + 1) (t 5 0) := by
        refine ⟨fun i hi => ?_, fun i j hi hj hne e => ?_⟩
        · by_cases z : i = p
          · rw [z, upd_at]
            exact x2
          · rw [upd_lt i (by omega)]
            exact hd.1 i (by omega)
        · have nin : ∀ k, k < p → ¬ row k = dd := fun k hk e => by
            rw [stO_iff.mpr ⟨k, hk, e⟩] at x4
            cases x4
          by_cases zi : i = p
          · by_cases zj : j = p
            · omega
            · rw [zi, upd_at, upd_lt j (by omega)] at e
              exact nin j (by omega) e.symm
          · by_cases zj : j = p
            · rw [zj, upd_at, upd_lt i (by omega)] at e
              exact nin i (by omega) e
            · rw [upd_lt i (by omega), upd_lt j (by omega)] at e
              exact hd.2 i j (by omega) (by omega) hne e
      have hal2 : ∀ i, i < p + 1 → alw i (updR row p dd i) = true := fun i hi => by
        by_cases z : i = p
        · rw [z, upd_at]
          exact x3
        · rw [upd_lt i (by omega)]
          exact hal i (by omega)
      have eS : stO (updR row p dd) p = stO row p := stO_eq upd_lt
      have bef : ∀ y, a ≤ y → y < dd → cWy t pr alw p (stO row p) y = false := fun y y1 y2 => cWy_f (fun z => x5 y y1 y2 ⟨z.1, z.2.1⟩)
      refine z_ne (dd : Int) (-1) (fun _ => ?_) (fun z => by omega)
      refine k_brokenAt (g.fs hf2) (wl.fs hf2) bl p pr (by omega) hrow2 hd2 hpr (fun M3 l hf3 hb => ?_) (fun M3 hf3 hb => ?_)
      · have hl := hb.1
        refine z_ne (l : Int) (-1) (fun _ => ?_) (fun z => by omega)
        have nob := hb.no
        rw [eS, upd_at] at nob
        have e := gAh_skip (N := t 0 0) (row := row) (p := p) (C := cWy t pr alw) x1 x2 (fun y y1 y2 => by
          by_cases z : y = dd
          · rw [z]
            exact cWy_f (fun w => nob w.2.2)
          · exact bef y y1 (by omega))
        refine ih p (updR row p dd) (dd + 1) M3 ?_ hp (by omega) (hd2.le (by omega)) (fun i hi => hal2 i (by omega)) (Or.inr (by rw [Nat.add_sub_cancel]; exact x3)) (fun i hi => by rw [hf3.c1 289]; exact hrow2 i (by omega)) ?_ (hf2.tr hf3.mono) (e.symm.trans hG) _ _ _ rfl rfl
        · have := mu_skip (N := t 0 0) (row := row) (p := p) x1 x2
          omega
        · rw [hf3.c1 289, q_si_s, z_nat]
          exact congrArg Int32.ofInt (by omega)
      · refine z_ne (-1) (-1) (fun z => absurd rfl z) (fun _ => ?_)
        rw [eS, upd_at] at hb
        have hc : cWy t pr alw p (stO row p) dd = true := cWy_t.mpr ⟨x3, x4, hb⟩
        refine z_ne (p : Int) ((t 0 0 - 1 : Nat) : Int) (fun z => ?_) (fun z => ?_)
        · have e := gAh_down (N := t 0 0) x1 x2 bef hc (by omega)
          refine ⟨p + 1, _, by (first | assumption | (simp only [z_nat, z_lit, ← Int32.ofInt_add, ← Int32.ofInt_sub, ← Int32.ofInt_mul]; exact congrArg Int32.ofInt (by omega)) | (simp only [z_nat, z_lit, ← Int32.ofInt_add, ← Int32.ofInt_sub, ← Int32.ofInt_mul]; done) | exact congrArg Int32.ofInt (by omega) | rfl), by (dsimp only; omega), rfl, ?_⟩
          refine ih (p + 1) (updR row p dd) 0 _ ?_ (by omega) (Nat.zero_le _) hd2 hal2 (Or.inl rfl) (fun i hi => ?_) ?_ ((hf2.tr hf3.mono).s1) (e.symm.trans hG) _ _ _ (by (first | assumption | (simp only [z_nat, z_lit, ← Int32.ofInt_add, ← Int32.ofInt_sub, ← Int32.ofInt_mul]; exact congrArg Int32.ofInt (by omega)) | (simp only [z_nat, z_lit, ← Int32.ofInt_add, ← Int32.ofInt_sub, ← Int32.ofInt_mul]; done) | exact congrArg Int32.ofInt (by omega) | rfl)) rfl
          · have := mu_down (N := t 0 0) (row := row) (p := p) x1 x2 h10 (by omega)
            omega
          · rw [q_si_n (by omega), hf3.c1 289]
            exact hrow2 i hi
          · rw [q_si_s]
            rfl
        · have hpn : p + 1 = t 0 0 := by omega
          have e := gAh_hit (N := t 0 0) x1 x2 bef hc hpn
          refine ⟨z_1, h1 (updR row p dd) M3 (hG.symm.trans e) (by rw [← hpn]; exact hd2) (fun i hi => hal2 i (by omega)) (fun i hi => by rw [hf3.c1 289]; exact hrow2 i (by omega)) (hf2.tr hf3.mono)⟩
    · -- none is left here
      refine ⟨p, _, by (first | assumption | (simp only [z_nat, z_lit, ← Int32.ofInt_add, ← Int32.ofInt_sub, ← Int32.ofInt_mul]; exact congrArg Int32.ofInt (by omega)) | (simp only [z_nat, z_lit, ← Int32.ofInt_add, ← Int32.ofInt_sub, ← Int32.ofInt_mul]; done) | exact congrArg Int32.ofInt (by omega) | rfl), by (dsimp only; omega), rfl, ?_⟩
      have hf2 : q_fs [289, 290] [] M (q_si M' 289 p (Int32.ofInt (-1))) := hf.s1
      refine z_ne (-1) (-1) (fun z => absurd rfl z) (fun _ => ?_)
      have e := gAh_end (N := t 0 0) (row := row) (p := p) (a := a) (C := cWy t pr alw) (D := t 5 0) (fun y y1 y2 => cWy_f (fun z => hno y y1 y2 ⟨z.1, z.2.1⟩))
      rw [e] at hG
      by_cases hp0 : p = 0
      · subst hp0
        refine w_at 90 [12] ?_
        exact z_lt (-1) 0 (fun _ => ⟨z_0, h0 hG.symm _ hf2⟩) (fun z => by omega)
      · obtain ⟨p', rfl⟩ : ∃ p', p = p' + 1 := ⟨p - 1, by omega⟩
        have hr' := hd.1 p' (by omega)
        refine ih p' row (row p' + 1) _ ?_ (by omega) (by omega) (hd.le (by omega)) (fun i hi => hal i (by omega)) (Or.inr (by rw [Nat.add_sub_cancel]; exact hal p' (by omega))) (fun i hi => ?_) ?_ hf2 hG _ _ _ (by rw [q_m1 (by omega)]; rfl) rfl
        · have := mu_back (N := t 0 0) (row := row) (p := p') (a := a) ha hr' hp
          omega
        · rw [q_si_n (by omega)]
          exact hrow i (by omega)
        · rw [q_si_n (by omega), hrow p' (by omega), z_nat]
          exact congrArg Int32.ofInt (by omega)
-- the next row behind one that stands
set_option maxRecDepth 100000 in
set_option maxHeartbeats 4000000 in
theorem k_goesToNext (g : g_R M t n) (wl : g_W M t) (bl : b_L t) (hs : g_st M t alw) {a b : Int32} {pr : Nat} (hpr : pr ≤ 1) (hN : 0 < t 0 0) (hd : dst row (t 0 0) (t 5 0)) (hal : ∀ i, i < t 0 0 → alw i (row i) = true) (hrow : g_Y M row (t 0 0)) (h0 : remP (cWy t pr alw) (t 5 0) (t 0 0) row (t 0 0) = [] → ∀ M', q_fs [289, 290] [] M M' → Q (some (.int 0)) M') (h1 : ∀ r' M', remP (cWy t pr alw) (t 5 0) (t 0 0) row (t 0 0) = lrow r' 0 (t 0 0) :: remP (cWy t pr alw) (t 5 0) (t 0 0) r' (t 0 0) → dst r' (t 0 0) (t 5 0) → (∀ i, i < t 0 0 → alw i (r' i) = true) → g_Y M' r' (t 0 0) → q_fs [289, 290] [] M M' → Q (some (.int 1)) M') (ha : a = nI (t 0 0 - 1) := by (first | assumption | (simp only [z_nat, z_lit, ← Int32.ofInt_add, ← Int32.ofInt_sub, ← Int32.ofInt_mul]; exact congrArg Int32.ofInt (by omega)) | (simp only [z_nat, z_lit, ← Int32.ofInt_add, ← Int32.ofInt_sub, ← Int32.ofInt_mul]; done) | exact congrArg Int32.ofInt (by omega) | rfl)) (hb : b = nI pr := by (first | assumption | (simp only [z_nat, z_lit, ← Int32.ofInt_add, ← Int32.ofInt_sub, ← Int32.ofInt_mul]; exact congrArg Int32.ofInt (by omega)) | (simp only [z_nat, z_lit, ← Int32.ofInt_add, ← Int32.ofInt_sub, ← Int32.ofInt_mul]; done) | exact congrArg Int32.ofInt (by omega) | rfl)) : q_C q_mt (L, xs, q_shp) E nX12_goesToNext (d + 4) 0 0 [.ref 271, .int (a), .int (b)] M Q := by
  subst ha hb
  have h6 := g.r6
  have hl := hd.1 (t 0 0 - 1) (by omega)
  have e : gAh (cWy t pr alw) (t 5 0) (t 0 0) row (t 0 0 - 1) (row (t 0 0 - 1) + 1) = remP (cWy t pr alw) (t 5 0) (t 0 0) row (t 0 0) := by
    conv => rhs; rw [show t 0 0 = (t 0 0 - 1) + 1 by omega]
    rw [gAh_back, show t 0 0 - 1 + 1 = t 0 0 by omega]
  refine w_in 90 [12] ?_
  refine ⟨0, _, by (first | assumption | (simp only [z_nat, z_lit, ← Int32.ofInt_add, ← Int32.ofInt_sub, ← Int32.ofInt_mul]; exact congrArg Int32.ofInt (by omega)) | (simp only [z_nat, z_lit, ← Int32.ofInt_add, ← Int32.ofInt_sub, ← Int32.ofInt_mul]; done) | exact congrArg Int32.ofInt (by omega) | rfl), by (dsimp only; omega), g.R0, ?_⟩
  refine k_goLoop g wl bl hs hpr h0 h1 _ (t 0 0 - 1) row (row (t 0 0 - 1) + 1) M (Nat.le_refl _) (by omega) (by omega) (hd.le (by omega)) (fun i hi => hal i (by omega)) (Or.inr (by rw [Nat.add_sub_cancel]; exact hal _ (by omega))) (fun i hi => hrow i (by omega)) ?_ q_fs.rf e _ _ _ rfl (by (first | assumption | (simp only [z_nat, z_lit, ← Int32.ofInt_add, ← Int32.ofInt_sub, ← Int32.ofInt_mul]; exact congrArg Int32.ofInt (by omega)) | (simp only [z_nat, z_lit, ← Int32.ofInt_add, ← Int32.ofInt_sub, ← Int32.ofInt_mul]; done) | exact congrArg Int32.ofInt (by omega) | rfl))
  rw [hrow _ (by omega), z_nat]
  exact congrArg Int32.ofInt (by omega)
set_option maxRecDepth 100000 in
set_option maxHeartbeats 4000000 in
theorem k_goesToFirst (g : g_R M t n) (wl : g_W M t) (bl : b_L t) (hs : g_st M t alw) {b : Int32} {pr : Nat} (hpr : pr ≤ 1) (hN : 0 < t 0 0) (h0 : ext (cWy t pr alw) (t 5 0) (t 0 0) 0 0 = [] → ∀ M', q_fs [289, 290] [] M M' → Q (some (.int 0)) M') (h1 : ∀ r' M', ext (cWy t pr alw) (t 5 0) (t 0 0) 0 0 = lrow r' 0 (t 0 0) :: remP (cWy t pr alw) (t 5 0) (t 0 0) r' (t 0 0) → dst r' (t 0 0) (t 5 0) → (∀ i, i < t 0 0 → alw i (r' i) = true) → g_Y M' r' (t 0 0) → q_fs [289, 290] [] M M' → Q (some (.int 1)) M') (hb : b = nI pr := by (first | assumption | (simp only [z_nat, z_lit, ← Int32.ofInt_add, ← Int32.ofInt_sub, ← Int32.ofInt_mul]; exact congrArg Int32.ofInt (by omega)) | (simp only [z_nat, z_lit, ← Int32.ofInt_add, ← Int32.ofInt_sub, ← Int32.ofInt_mul]; done) | exact congrArg Int32.ofInt (by omega) | rfl)) : q_C q_mt (L, xs, q_shp) E nX12_goesToFirst (d + 5) 0 0 [.ref 271, .int (b)] M Q := by
  subst hb
  have h6 := g.r6
  have hf2 : q_fs [289, 290] [] M (q_si M 289 0 (Int32.ofInt (-1))) := q_fs.rf.s1
  have e : gAh (cWy t pr alw) (t 5 0) (t 0 0) (fun _ => 0) 0 0 = ext (cWy t pr alw) (t 5 0) (t 0 0) 0 0 := by
    unfold gAh
    rw [exA_0, show t 0 0 - 1 - 0 + 1 = t 0 0 by omega]
    show (ext _ _ _ _ _).map (fun x => [] ++ x) ++ [] = _
    rw [List.append_nil]
    exact List.map_id _
  refine w_in 90 [] ?_
  refine ⟨0, _, by (first | assumption | (simp only [z_nat, z_lit, ← Int32.ofInt_add, ← Int32.ofInt_sub, ← Int32.ofInt_mul]; exact congrArg Int32.ofInt (by omega)) | (simp only [z_nat, z_lit, ← Int32.ofInt_add, ← Int32.ofInt_sub, ← Int32.ofInt_mul]; done) | exact congrArg Int32.ofInt (by omega) | rfl), by (dsimp only; omega), rfl, ?_⟩
  have g2 := g.fs hf2
  have inner : ∀ Q' : Option Value → q_M → Prop, (ext (cWy t pr alw) (t 5 0) (t 0 0) 0 0 = [] → ∀ M', q_fs [289, 290] [] M M' → Q' (some (.int 0)) M') → (∀ r' M', ext (cWy t pr alw) (t 5 0) (t 0 0) 0 0 = lrow r' 0 (t 0 0) :: remP (cWy t pr alw) (t 5 0) (t 0 0) r' (t 0 0) → dst r' (t 0 0) (t 5 0) → (∀ i, i < t 0 0 → alw i (r' i) = true) → g_Y M' r' (t 0 0) → q_fs [289, 290] [] M M' → Q' (some (.int 1)) M') → q_C q_mt (L, xs, q_shp) E nX12_goesToNext (d + 4) 0 0 [.ref 271, .int (Int32.ofInt 0), .int (nI pr)] (q_si M 289 0 (Int32.ofInt (-1))) Q' := by
    intro Q' q0 q1
    refine w_in 90 [12] ?_
    refine ⟨0, _, by (first | assumption | (simp only [z_nat, z_lit, ← Int32.ofInt_add, ← Int32.ofInt_sub, ← Int32.ofInt_mul]; exact congrArg Int32.ofInt (by omega)) | (simp only [z_nat, z_lit, ← Int32.ofInt_add, ← Int32.ofInt_sub, ← Int32.ofInt_mul]; done) | exact congrArg Int32.ofInt (by omega) | rfl), by (dsimp only; omega), g2.R0, ?_⟩
    refine k_goLoop g2 (wl.fs hf2) bl (hs.eq (hf2.c1 291) (by rw [hf2.c1 271])) hpr (fun z M' hf => q0 z M' (hf2.tr hf)) (fun r' M' z1 z2 z3 z4 hf => q1 r' M' z1 z2 z3 z4 (hf2.tr hf)) _ 0 (fun _ => 0) 0 _ (Nat.le_refl _) hN (Nat.zero_le _) ⟨fun i hi => by omega, fun i j hi => by omega⟩ (fun i hi => by omega) (Or.inl rfl) (fun i hi => by omega) q_si_s q_fs.rf e _ _ _ rfl (by (first | assumption | (simp only [z_nat, z_lit, ← Int32.ofInt_add, ← Int32.ofInt_sub, ← Int32.ofInt_mul]; exact congrArg Int32.ofInt (by omega)) | (simp only [z_nat, z_lit, ← Int32.ofInt_add, ← Int32.ofInt_sub, ← Int32.ofInt_mul]; done) | exact congrArg Int32.ofInt (by omega) | rfl))
  exact inner _ (fun z M' hf => ⟨Or.inl rfl, h0 z M' hf⟩) (fun r' M' z1 z2 z3 z4 hf => ⟨Or.inr rfl, h1 r' M' z1 z2 z3 z4 hf⟩)
/-- anything may stand anywhere -/
abbrev aAll : Nat → Nat → Bool := fun _ _ => true
theorem bt_low : ∀ D, D < 11 → ∀ i, i < D → bt (((1 : Int32) <<< (nI D &&& 31)) - Int32.ofInt 1) i = true := by decide +kernel
set_option maxRecDepth 100000 in
set_option maxHeartbeats 4000000 in
theorem k_anyMay (g : g_R M t n) (hQ : ∀ M', q_fs [291] [(271, 33)] M M' → g_st M' t aAll → Q none M') : q_C q_mt (L, xs, q_shp) E nX12_anyMay (d) 0 0 [.ref 271] M Q := by
  have h10 := g.d10
  have h6 := g.r6
  have W := lp_m (W := fun k M' => ∀ v, v = nI k → q_G q_mt (L, xs, q_shp) E nX12_anyMay (d) 0 0 (q_Q (L, xs, q_shp) E Q) 16 [some (.ref 271), some (.int (v))] [] M') (J := fun k M' => q_fs [291] [(271, 33)] M M' ∧ M'.1 271 33 = ((1 : Int32) <<< (nI (t 5 0) &&& 31)) - Int32.ofInt 1 ∧ ∀ p, p < k → M'.1 291 p = Int32.ofInt (-1)) 6 ?_ ?_ 0
  · refine w_in 90 [16] ?_
    refine ⟨3, _, by (first | assumption | (simp only [z_nat, z_lit, ← Int32.ofInt_add, ← Int32.ofInt_sub, ← Int32.ofInt_mul]; exact congrArg Int32.ofInt (by omega)) | (simp only [z_nat, z_lit, ← Int32.ofInt_add, ← Int32.ofInt_sub, ← Int32.ofInt_mul]; done) | exact congrArg Int32.ofInt (by omega) | rfl), by (dsimp only; omega), g.R3, ?_⟩
    refine ⟨_, rfl, ?_⟩
    exact W _ (Nat.zero_le _) ⟨q_fs.rf.s1, q_si_s, fun p hp => by omega⟩ _ rfl
  · rintro M' ⟨hf, hp, hm⟩ v rfl
    refine w_at 90 [16] ?_
    refine z_le 6 (6 : Nat) (fun _ => hQ M' hf (fun p hpN => Or.inl ⟨hm p (by omega), fun x hx => ?_⟩)) (fun z => by omega)
    rw [hp]
    exact bt_low (t 5 0) (by omega) x hx
  · rintro k M' hk ⟨hf, hp, hm⟩ ih v rfl
    refine w_at 90 [16] ?_
    refine z_le 6 (k : Int) (fun z => by omega) (fun _ => ?_)
    refine ⟨k, _, by (first | assumption | (simp only [z_nat, z_lit, ← Int32.ofInt_add, ← Int32.ofInt_sub, ← Int32.ofInt_mul]; exact congrArg Int32.ofInt (by omega)) | (simp only [z_nat, z_lit, ← Int32.ofInt_add, ← Int32.ofInt_sub, ← Int32.ofInt_mul]; done) | exact congrArg Int32.ofInt (by omega) | rfl), by (dsimp only; omega), rfl, ?_⟩
    refine ih _ ⟨hf.s1, ?_, fun p hp => ?_⟩ _ (by (first | assumption | (simp only [z_nat, z_lit, ← Int32.ofInt_add, ← Int32.ofInt_sub, ← Int32.ofInt_mul]; exact congrArg Int32.ofInt (by omega)) | (simp only [z_nat, z_lit, ← Int32.ofInt_add, ← Int32.ofInt_sub, ← Int32.ofInt_mul]; done) | exact congrArg Int32.ofInt (by omega) | rfl))
    · exact hp
    by_cases z : p = k
    · rw [z, q_si_s]
    · rw [q_si_n z]
      exact hm p (by omega)
end WF
