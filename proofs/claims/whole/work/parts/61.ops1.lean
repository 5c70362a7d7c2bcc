/-! the calls points, total, worth, look, board, marked, expected, needs, goes -/
/-- nothing is given outside -/
def b_X (t : q_T) (n : sN) : Prop := ∀ s, s < 36 → ¬ (s / 6 < t 8 0 ∧ s % 6 < t 0 0) → n (576 + s) = 0
/-- of one who is in the first dives were given -/
def b_G (t : q_T) (n : sN) : Prop := ∀ e, e < t 8 0 → inE n e = true → ∀ r, r < t 0 0 → (n (576 + (6 * e + r)) = 1 ↔ r < gvN t n e)
def apF (t : q_T) (n : sN) (e r : Nat) : Int := if n (576 + (6 * e + r)) = 1 then ptE t n e r (t 1 0) (-1) else 0
section O1
variable {L : Nat} {xs : Nat → Int32} {E : q_E} {d : Nat} {M : q_M} {t : q_T} {n : sN} {Q : Option Value → q_M → Prop} {P : q_M → Prop}
set_option maxRecDepth 100000 in
set_option maxHeartbeats 4000000 in
theorem k_isIn {x y z : Int32} (v lo hi : Int) (hv : -2147483648 ≤ v ∧ v < 2147483648) (hl : -2147483648 ≤ lo ∧ lo < 2147483648) (hh : -2147483648 ≤ hi ∧ hi < 2147483648) (h1 : lo ≤ v → v ≤ hi → Q (some (.int 1)) M) (h0 : ¬ (lo ≤ v ∧ v ≤ hi) → Q (some (.int 0)) M) (hx : x = Int32.ofInt v := by (first | assumption | (simp only [z_nat, z_lit, ← Int32.ofInt_add, ← Int32.ofInt_sub, ← Int32.ofInt_mul]; exact congrArg Int32.ofInt (by omega)) | (simp only [z_nat, z_lit, ← Int32.ofInt_add, ← Int32.ofInt_sub, ← Int32.ofInt_mul]; done) | exact congrArg Int32.ofInt (by omega) | rfl)) (hy : y = Int32.ofInt lo := by (first | assumption | (simp only [z_nat, z_lit, ← Int32.ofInt_add, ← Int32.ofInt_sub, ← Int32.ofInt_mul]; exact congrArg Int32.ofInt (by omega)) | (simp only [z_nat, z_lit, ← Int32.ofInt_add, ← Int32.ofInt_sub, ← Int32.ofInt_mul]; done) | exact congrArg Int32.ofInt (by omega) | rfl)) (hz : z = Int32.ofInt hi := by (first | assumption | (simp only [z_nat, z_lit, ← Int32.ofInt_add, ← Int32.ofInt_sub, ← Int32.ofInt_mul]; exact congrArg Int32.ofInt (by omega)) | (simp only [z_nat, z_lit, ← Int32.ofInt_add, ← Int32.ofInt_sub, ← Int32.ofInt_mul]; done) | exact congrArg Int32.ofInt (by omega) | rfl)) : q_C q_mt (L, xs, q_shp) E nX12_isIn (d) 0 0 [.int (x), .int (y), .int (z)] M Q := by
  subst hx hy hz
  refine w_in 90 [] ?_
  refine z_lt v lo (fun h => ⟨z_0, h0 (by omega)⟩) (fun h => ?_)
  exact z_lt hi v (fun h2 => ⟨z_0, h0 (by omega)⟩) (fun h2 => ⟨z_1, h1 h (by omega)⟩)
set_option maxRecDepth 100000 in
set_option maxHeartbeats 4000000 in
theorem k2_isAward {x : Int32} (v : Int) (hv : -2147483648 ≤ v ∧ v < 2147483648) (h1 : 0 ≤ v → v ≤ 20 → Q (some (.int 1)) M) (h0 : ¬ (0 ≤ v ∧ v ≤ 20) → Q (some (.int 0)) M) (hx : x = Int32.ofInt v := by (first | assumption | (simp only [z_nat, z_lit, ← Int32.ofInt_add, ← Int32.ofInt_sub, ← Int32.ofInt_mul]; exact congrArg Int32.ofInt (by omega)) | (simp only [z_nat, z_lit, ← Int32.ofInt_add, ← Int32.ofInt_sub, ← Int32.ofInt_mul]; done) | exact congrArg Int32.ofInt (by omega) | rfl)) : q_C q_mt (L, xs, q_shp) E nX11_isAward (d) 0 0 [.int (x)] M Q := by
  subst hx
  refine w_in 90 [] ?_
  refine z_lt v 0 (fun h => ⟨z_0, h0 (by omega)⟩) (fun h => ?_)
  exact z_lt 20 v (fun h2 => ⟨z_0, h0 (by omega)⟩) (fun h2 => ⟨z_1, h1 h (by omega)⟩)
/-- arguments that name a round of an entrant -/
def aCell (t : q_T) (a b : Int32) : Prop := ∃ e r, e < t 8 0 ∧ r < t 0 0 ∧ a = nI e ∧ b = nI (r + 1)
theorem aCell.no {a b : Int32} (h : ¬ aCell t a b) : ¬ ((∃ e, e < t 8 0 ∧ a = nI e) ∧ ∃ r, 1 ≤ r ∧ r ≤ t 0 0 ∧ b = nI r) := by
  rintro ⟨⟨e, he, e1⟩, r, h1, h2, e2⟩
  exact h ⟨e, r - 1, he, by omega, e1, by rw [e2, show r - 1 + 1 = r by omega]⟩
theorem aCell.y {e r : Nat} (he : e < t 8 0) (hr : r < t 0 0) : (∃ e', e' < t 8 0 ∧ nI e = nI e') ∧ ∃ r', 1 ≤ r' ∧ r' ≤ t 0 0 ∧ nI (r + 1) = nI r' := ⟨⟨e, he, rfl⟩, r + 1, by omega, by omega, rfl⟩
set_option maxRecDepth 100000 in
set_option maxHeartbeats 4000000 in
theorem k2_isCell {c : Nat} (g : g_A c M t n) {a b : Int32} (h1 : aCell t a b → Q (some (.int 1)) M) (h0 : ¬ aCell t a b → Q (some (.int 0)) M) : q_C q_mt (L, xs, q_shp) E nX11_isCell (d + 1) 0 0 [.ref 2, .int (a), .int (b)] M Q := by
  by_cases q : aCell t a b
  · obtain ⟨e, r, he, hr, rfl, rfl⟩ := q
    exact c_X11_isCell g.C g.R.b (fun _ _ _ _ _ _ _ => h1 ⟨e, r, he, hr, rfl, rfl⟩) (fun z => absurd (aCell.y he hr) z)
  · exact c_X11_isCell g.C g.R.b (fun e he e1 r r1 r2 e2 => absurd ⟨⟨e, he, e1⟩, r, r1, r2, e2⟩ (aCell.no q)) (fun _ => h0 q)
set_option maxRecDepth 100000 in
set_option maxHeartbeats 4000000 in
theorem k2_isGiven (g : g_A 43 M t n) {a b : Int32} (h1 : ∀ e r, e < t 8 0 → r < t 0 0 → a = nI e → b = nI (r + 1) → n (576 + (6 * e + r)) = 1 → Q (some (.int 1)) M) (h0 : (¬ ∃ e r, e < t 8 0 ∧ r < t 0 0 ∧ a = nI e ∧ b = nI (r + 1) ∧ n (576 + (6 * e + r)) = 1) → Q (some (.int 0)) M) : q_C q_mt (L, xs, q_shp) E nX11_isGiven (d + 2) 0 0 [.ref 2, .int (a), .int (b)] M Q := by
  refine w_in 90 [] ?_
  refine k2_isCell g (fun q => br_f (by decide) ?_) (fun q => br_t (by decide) ⟨z_0, h0 (fun z => ?_)⟩)
  · obtain ⟨e, r, he, hr, rfl, rfl⟩ := q
    have hb := ptE_b g.R (dr := t 1 0) (bar := -1) he hr
    refine k2_pointsOf_43 g.Z e r he hr (fun h => ?_) (fun h => ?_)
    · exact z_lt (ptE t n e r (t 1 0) (-1)) 0 (fun z => by omega) (fun _ => ⟨z_1, h1 e r he hr rfl rfl h⟩)
    · refine z_lt (-1) 0 (fun _ => ⟨z_0, h0 (fun z => ?_)⟩) (fun z => by omega)
      obtain ⟨e', r', he', hr', e1, e2, h2⟩ := z
      have h6 := g.R.e6
      have h7 := g.R.r6
      have q1 := (nI_eq (by omega) (by omega)).mp e1
      have q2 := (nI_eq (by omega) (by omega)).mp e2
      rw [← q1, ← show r = r' by omega] at h2
      omega
  · obtain ⟨e, r, he, hr, e1, e2, -⟩ := z
    exact q ⟨e, r, he, hr, e1, e2⟩
set_option maxRecDepth 100000 in
set_option maxHeartbeats 4000000 in
theorem k_isGivenDive (g : g_R M t n) {a b : Int32} (h1 : ∀ e r, e < t 8 0 → r < t 0 0 → a = nI e → b = nI (r + 1) → n (576 + (6 * e + r)) = 1 → Q (some (.int 1)) M) (h0 : (¬ ∃ e r, e < t 8 0 ∧ r < t 0 0 ∧ a = nI e ∧ b = nI (r + 1) ∧ n (576 + (6 * e + r)) = 1) → Q (some (.int 0)) M) : q_C q_mt (L, xs, q_shp) E nX12_isGivenDive (d + 2) 0 0 [.ref 271, .int (a), .int (b)] M Q := by
  refine w_in 90 [] ?_
  refine c_X12_isEntrant g.1 g.b (fun e he e1 => br_f (by decide) ?_) (fun q => br_t (by decide) ⟨z_0, h0 (fun z => ?_)⟩)
  · refine c_X12_isRound g.1 g.b (fun r r1 r2 e2 => br_f (by decide) ?_) (fun q => br_t (by decide) ⟨z_0, h0 (fun z => ?_)⟩)
    · subst e1 e2
      refine k_isGiven g e (r - 1) he (by omega) (fun h => br_f (by decide) ⟨z_1, h1 e (r - 1) he (by omega) rfl ?_ h⟩) (fun h => br_t (by decide) ⟨z_0, h0 (fun z => ?_)⟩) (hb := by rw [show r - 1 + 1 = r by omega])
      · rw [show r - 1 + 1 = r by omega]
      · obtain ⟨e', r', he', hr', e1, e2, h2⟩ := z
        have h6 := g.e6
        have h7 := g.r6
        have q1 := (nI_eq (by omega) (by omega)).mp e1
        have q2 := (nI_eq (by omega) (by omega)).mp e2
        rw [← q1, ← show r - 1 = r' by omega] at h2
        omega
    · obtain ⟨e', r', he', hr', -, e2, -⟩ := z
      exact q ⟨r' + 1, by omega, by omega, e2⟩
  · obtain ⟨e', r', he', hr', e1, -, -⟩ := z
    exact q ⟨e', he', e1⟩
set_option maxRecDepth 100000 in
set_option maxHeartbeats 4000000 in
theorem o_points {a b : Int32} (g : g_A 43 M t n) (hP : ∀ M', q_fs [293] fD M M' → P M') : zOp L xs E nX11_points nX12_points (d + 8) [.int a, .int b] M P := by
  by_cases q : ∃ e r, e < t 8 0 ∧ r < t 0 0 ∧ a = nI e ∧ b = nI (r + 1) ∧ n (576 + (6 * e + r)) = 1
  · obtain ⟨e, r, he, hr, rfl, rfl, hg⟩ := q
    refine w_in 90 [] ?_
    refine k2_isCell g (fun _ => br_f (by decide) ?_) (fun z => absurd ⟨e, r, he, hr, rfl, rfl⟩ z)
    refine k2_pointsOf_43 g.Z e r he hr (fun _ => ⟨_, rfl, _, rfl, ?_⟩) (fun h => by omega)
    refine w_in 90 [] ?_
    refine k_isGivenDive g.R (fun _ _ _ _ _ _ _ => br_f (by decide) ?_) (fun z => absurd ⟨e, r, he, hr, rfl, rfl, hg⟩ z)
    exact k_pointsOf g.R e r he hr (fun M' hf => ⟨_, rfl, rfl, hP M' hf⟩)
  · have fin : q_C q_mt (L, xs, q_shp) E nX12_points (d + 8) 0 0 (.ref 271 :: [.int a, .int b]) M (fun v' M'' => v' = some (.int (Int32.ofInt (-1))) ∧ P M'') := by
      refine w_in 90 [] ?_
      exact k_isGivenDive g.R (fun e r he hr e1 e2 h => absurd ⟨e, r, he, hr, e1, e2, h⟩ q) (fun _ => br_t (by decide) ⟨_, rfl, rfl, hP M q_fs.rf⟩)
    refine w_in 90 [] ?_
    refine k2_isCell g (fun z => br_f (by decide) ?_) (fun _ => br_t (by decide) ⟨_, rfl, _, rfl, fin⟩)
    obtain ⟨e, r, he, hr, rfl, rfl⟩ := z
    exact k2_pointsOf_43 g.Z e r he hr (fun h => absurd ⟨e, r, he, hr, rfl, rfl, h⟩ q) (fun _ => ⟨_, rfl, _, rfl, fin⟩)
set_option maxRecDepth 100000 in
set_option maxHeartbeats 4000000 in
theorem k2_sumPoints (g : g_A 43 M t n) (hX : b_X t n) {a : Int32} (e : Nat) (he : e < t 8 0) (hQ : Q (some (.int (Int32.ofInt (fb_si (apF t n e) (t 0 0))))) M) (ha : a = nI e := by (first | assumption | (simp only [z_nat, z_lit, ← Int32.ofInt_add, ← Int32.ofInt_sub, ← Int32.ofInt_mul]; exact congrArg Int32.ofInt (by omega)) | (simp only [z_nat, z_lit, ← Int32.ofInt_add, ← Int32.ofInt_sub, ← Int32.ofInt_mul]; done) | exact congrArg Int32.ofInt (by omega) | rfl)) : q_C q_mt (L, xs, q_shp) E nX8_sumPoints (d + 2) 0 0 [.ref 43, .int (a)] M Q := by
  subst ha
  have h6 := g.R.e6
  have h7 := g.R.r6
  have hb : ∀ r, r < 6 → (0 ≤ apF t n e r ∧ apF t n e r ≤ 18000) ∧ (t 0 0 ≤ r → apF t n e r = 0) ∧ M.1 45 (16 * (6 * e + r)) = Int32.ofInt (if n (576 + (6 * e + r)) = 1 then apF t n e r else -1) := fun r hr => by
    have h1 := (g.S.2.1 (6 * e + r) (by omega)).1.1
    unfold pS at h1
    rw [show (6 * e + r) / 6 = e by omega, show (6 * e + r) % 6 = r by omega, oZ_1 (g.1.2.1.2.2.2.2.1.mp (by omega))] at h1
    by_cases q : r < t 0 0
    · have hp := ptE_b g.R (dr := t 1 0) (bar := -1) he q
      unfold apF
      refine ⟨by split <;> omega, fun z => by omega, h1.trans ?_⟩
      split <;> rfl
    · have hz := hX (6 * e + r) (by omega) (by omega)
      unfold apF
      rw [hz] at h1 ⊢
      exact ⟨by simp, fun _ => by simp, h1⟩
  have es : fb_si (apF t n e) 6 = fb_si (apF t n e) (t 0 0) := by
    obtain ⟨j, hj⟩ : ∃ j, 6 = t 0 0 + j := ⟨6 - t 0 0, by omega⟩
    rw [hj, fb_si_split]
    have hz : ∀ i, i ≤ j → fb_si (fun k => apF t n e (t 0 0 + k)) i = 0 := by
      intro i
      induction i with
      | zero => intro _; rfl
      | succ i ih =>
        intro hi
        rw [fb_si_succ, ih (by omega), (hb (t 0 0 + i) (by omega)).2.1 (by omega)]
        rfl
    rw [hz j (Nat.le_refl _), Int.add_zero]
  rw [← es] at hQ
  have W := lp_up (W := fun r => ∀ u v, u = Int32.ofInt (fb_si (apF t n e) r) → v = nI (r + 1) → q_G q_mt (L, xs, q_shp) E nX8_sumPoints (d + 2) 0 0 (q_Q (L, xs, q_shp) E Q) 4 [some (.ref 43), some (.int (nI e)), some (.int (u)), some (.int (v))] [] M) 6 ?_ ?_ 0 (Nat.zero_le _)
  · refine w_in 90 [4] ?_
    exact W _ _ rfl rfl
  · rintro u v rfl rfl
    refine w_at 90 [4] ?_
    exact z_lt 6 ((6 + 1 : Nat) : Int) (fun h => ⟨_, rfl, hQ⟩) (fun h => by omega)
  · rintro r hr ih u v rfl rfl
    have h1 := hb r hr
    refine w_at 90 [4] ?_
    refine z_lt 6 ((r + 1 : Nat) : Int) (fun h => by omega) (fun h => ?_)
    refine w_in 90 [] ?_
    refine k2_slotOf e r ?_
    refine ⟨16 * (6 * e + r), _, by (first | assumption | (simp only [z_nat, z_lit, ← Int32.ofInt_add, ← Int32.ofInt_sub, ← Int32.ofInt_mul]; exact congrArg Int32.ofInt (by omega)) | (simp only [z_nat, z_lit, ← Int32.ofInt_add, ← Int32.ofInt_sub, ← Int32.ofInt_mul]; done) | exact congrArg Int32.ofInt (by omega) | rfl), by (dsimp only; omega), h1.2.2, ?_⟩
    refine ⟨_, rfl, ?_⟩
    have em : (if Int32.ofInt 0 < Int32.ofInt (if n (576 + (6 * e + r)) = 1 then apF t n e r else -1) then Int32.ofInt (if n (576 + (6 * e + r)) = 1 then apF t n e r else -1) else Int32.ofInt 0) = Int32.ofInt (apF t n e r) := by
      have zt : ∀ y : Int, (-2147483648 ≤ y ∧ y < 2147483648) → (Int32.ofInt 0 < Int32.ofInt y ↔ 0 < y) := fun y hy => by rw [Int32.lt_iff_toInt_lt, z_toInt (by omega), z_toInt hy]
      by_cases q : n (576 + (6 * e + r)) = 1
      · rw [if_pos q]
        by_cases q2 : 0 < apF t n e r
        · rw [if_pos ((zt _ (by omega)).mpr q2)]
        · rw [if_neg (fun z => q2 ((zt _ (by omega)).mp z)), show apF t n e r = 0 by omega]
      · rw [if_neg q, if_neg (by decide)]
        unfold apF
        rw [if_neg q]
    refine ih _ _ ?_ (by (first | assumption | (simp only [z_nat, z_lit, ← Int32.ofInt_add, ← Int32.ofInt_sub, ← Int32.ofInt_mul]; exact congrArg Int32.ofInt (by omega)) | (simp only [z_nat, z_lit, ← Int32.ofInt_add, ← Int32.ofInt_sub, ← Int32.ofInt_mul]; done) | exact congrArg Int32.ofInt (by omega) | rfl))
    rw [fb_si_succ]
    show Int32.ofInt (fb_si (apF t n e) r) + (if Int32.ofInt 0 < Int32.ofInt (if n (576 + (6 * e + r)) = 1 then apF t n e r else -1) then Int32.ofInt (if n (576 + (6 * e + r)) = 1 then apF t n e r else -1) else Int32.ofInt 0) = _
    rw [em]
    (first | assumption | (simp only [z_nat, z_lit, ← Int32.ofInt_add, ← Int32.ofInt_sub, ← Int32.ofInt_mul]; exact congrArg Int32.ofInt (by omega)) | (simp only [z_nat, z_lit, ← Int32.ofInt_add, ← Int32.ofInt_sub, ← Int32.ofInt_mul]; done) | exact congrArg Int32.ofInt (by omega) | rfl)
set_option maxRecDepth 100000 in
set_option maxHeartbeats 4000000 in
theorem o_total {a b : Int32} (g : g_A 43 M t n) (hX : b_X t n) (hP : ∀ M', q_fs [293] fD M M' → P M') : zOp L xs E nX11_total nX12_total (d + 9) [.int a, .int b] M P := by
  obtain ⟨w, hw, rfl⟩ := z_of b
  have h7 := g.R.r6
  by_cases q : ∃ e, e < t 8 0 ∧ a = nI e
  · obtain ⟨e, he, rfl⟩ := q
    have h6 := g.R.e6
    refine w_in 90 [] ?_
    refine d_hasEntrant g.C g.R.b (fun _ _ _ => bn_t (by decide) ?_) (fun z => absurd ⟨e, he, rfl⟩ z)
    refine z_ne w 0 (fun h0 => ?_) (fun h0 => ?_)
    · refine z_ne w 1 (fun h1 => ⟨_, rfl, _, rfl, ?_⟩) (fun h1 => ?_)
      · refine w_in 90 [] ?_
        refine c_X12_isEntrant g.R.1 g.R.b (fun _ _ _ => br_f (by decide) ?_) (fun z => absurd ⟨e, he, rfl⟩ z)
        exact k_isIn w 0 1 hw (by omega) (by omega) (fun z1 z2 => by omega) (fun _ => bn_f (by decide) ⟨_, rfl, rfl, hP M q_fs.rf⟩)
      · refine k2_sumPoints g hX e he ⟨_, rfl, _, rfl, ?_⟩
        have W := lp_m (W := fun r M' => ∀ u v, u = Int32.ofInt (fb_si (apF t n e) r) → v = nI (r + 1) → q_G q_mt (L, xs, q_shp) E nX12_total (d + 9) 0 0 (q_Q (L, xs, q_shp) E (fun v' M'' => v' = some (.int (Int32.ofInt (fb_si (apF t n e) (t 0 0)))) ∧ P M'')) 34 [some (.ref 271), some (.int (nI e)), some (.int (Int32.ofInt w)), some (.int u), some (.int v)] [] M') (J := fun r M' => q_fs [293] fD M M') (t 0 0) ?_ ?_ 0 M (Nat.zero_le _) q_fs.rf
        · refine w_in 90 [34] ?_
          refine c_X12_isEntrant g.R.1 g.R.b (fun _ _ _ => br_f (by decide) ?_) (fun z => absurd ⟨e, he, rfl⟩ z)
          refine k_isIn w 0 1 hw (by omega) (by omega) (fun z1 z2 => bn_t (by decide) ?_) (fun z => by omega)
          exact z_ne w 0 (fun _ => W _ _ rfl rfl) (fun z => by omega)
        · rintro M' hf u v rfl rfl
          have g' := g.R.fs hf
          refine w_at 90 [34] ?_
          refine ⟨0, nI (t 0 0), by (first | assumption | (simp only [z_nat, z_lit, ← Int32.ofInt_add, ← Int32.ofInt_sub, ← Int32.ofInt_mul]; exact congrArg Int32.ofInt (by omega)) | (simp only [z_nat, z_lit, ← Int32.ofInt_add, ← Int32.ofInt_sub, ← Int32.ofInt_mul]; done) | exact congrArg Int32.ofInt (by omega) | rfl), by (dsimp only; omega), g'.R0, ?_⟩
          exact z_lt (t 0 0) ((t 0 0 + 1 : Nat) : Int) (fun h => ⟨_, rfl, rfl, hP M' hf⟩) (fun h => by omega)
        · rintro r M' hr hf ih u v rfl rfl
          have g' := g.R.fs hf
          refine w_at 90 [34] ?_
          refine ⟨0, nI (t 0 0), by (first | assumption | (simp only [z_nat, z_lit, ← Int32.ofInt_add, ← Int32.ofInt_sub, ← Int32.ofInt_mul]; exact congrArg Int32.ofInt (by omega)) | (simp only [z_nat, z_lit, ← Int32.ofInt_add, ← Int32.ofInt_sub, ← Int32.ofInt_mul]; done) | exact congrArg Int32.ofInt (by omega) | rfl), by (dsimp only; omega), g'.R0, ?_⟩
          refine z_lt (t 0 0) ((r + 1 : Nat) : Int) (fun h => by omega) (fun h => ?_)
          refine k_isGiven g' e r he hr (fun h2 => br_f (by decide) ?_) (fun h2 => br_t (by decide) ?_)
          · refine k_pointsOf g' e r he hr (fun M2 hf2 => ?_)
            refine ih M2 (hf.tr hf2) _ _ ?_ (by (first | assumption | (simp only [z_nat, z_lit, ← Int32.ofInt_add, ← Int32.ofInt_sub, ← Int32.ofInt_mul]; exact congrArg Int32.ofInt (by omega)) | (simp only [z_nat, z_lit, ← Int32.ofInt_add, ← Int32.ofInt_sub, ← Int32.ofInt_mul]; done) | exact congrArg Int32.ofInt (by omega) | rfl))
            rw [fb_si_succ, show apF t n e r = ptE t n e r (t 1 0) (-1) from if_pos h2]
            (first | assumption | (simp only [z_nat, z_lit, ← Int32.ofInt_add, ← Int32.ofInt_sub, ← Int32.ofInt_mul]; exact congrArg Int32.ofInt (by omega)) | (simp only [z_nat, z_lit, ← Int32.ofInt_add, ← Int32.ofInt_sub, ← Int32.ofInt_mul]; done) | exact congrArg Int32.ofInt (by omega) | rfl)
          · refine ih M' hf _ _ ?_ (by (first | assumption | (simp only [z_nat, z_lit, ← Int32.ofInt_add, ← Int32.ofInt_sub, ← Int32.ofInt_mul]; exact congrArg Int32.ofInt (by omega)) | (simp only [z_nat, z_lit, ← Int32.ofInt_add, ← Int32.ofInt_sub, ← Int32.ofInt_mul]; done) | exact congrArg Int32.ofInt (by omega) | rfl))
            rw [fb_si_succ, show apF t n e r = 0 from if_neg (by omega)]
            (first | assumption | (simp only [z_nat, z_lit, ← Int32.ofInt_add, ← Int32.ofInt_sub, ← Int32.ofInt_mul]; exact congrArg Int32.ofInt (by omega)) | (simp only [z_nat, z_lit, ← Int32.ofInt_add, ← Int32.ofInt_sub, ← Int32.ofInt_mul]; done) | exact congrArg Int32.ofInt (by omega) | rfl)
    · refine ⟨e, _, by (first | assumption | (simp only [z_nat, z_lit, ← Int32.ofInt_add, ← Int32.ofInt_sub, ← Int32.ofInt_mul]; exact congrArg Int32.ofInt (by omega)) | (simp only [z_nat, z_lit, ← Int32.ofInt_add, ← Int32.ofInt_sub, ← Int32.ofInt_mul]; done) | exact congrArg Int32.ofInt (by omega) | rfl), by (dsimp only; omega), g.to he, ?_⟩
      refine ⟨_, rfl, _, rfl, ?_⟩
      refine w_in 90 [34] ?_
      refine c_X12_isEntrant g.R.1 g.R.b (fun _ _ _ => br_f (by decide) ?_) (fun z => absurd ⟨e, he, rfl⟩ z)
      refine k_isIn w 0 1 hw (by omega) (by omega) (fun z1 z2 => bn_t (by decide) ?_) (fun z => by omega)
      refine z_ne w 0 (fun z => absurd h0 z) (fun _ => ?_)
      exact k_totalOf g.R e he (fun M' hf => ⟨_, rfl, rfl, hP M' hf⟩)
  · refine w_in 90 [] ?_
    refine d_hasEntrant g.C g.R.b (fun i hi e => absurd ⟨i, hi, e⟩ q) (fun _ => bn_f (by decide) ⟨_, rfl, _, rfl, ?_⟩)
    refine w_in 90 [] ?_
    exact c_X12_isEntrant g.R.1 g.R.b (fun i hi e => absurd ⟨i, hi, e⟩ q) (fun _ => br_t (by decide) ⟨_, rfl, rfl, hP M q_fs.rf⟩)
set_option maxRecDepth 100000 in
set_option maxHeartbeats 4000000 in
theorem o_worth {a b c : Int32} (g : g_A 43 M t n) (hP : P M) : zOp L xs E nX11_worth nX12_worth (d + 4) [.int a, .int b, .int c] M P := by
  obtain ⟨w, hw, rfl⟩ := z_of c
  by_cases q : aCell t a b
  · obtain ⟨e, r, he, hr, rfl, rfl⟩ := q
    have hdi := dv_i g.Z he hr
    have h6 := g.R.e6
    have h7 := g.R.r6
    have ref0 : ∀ Q', (0 ≤ w → w ≤ 20 → Q' (some (.int (Int32.ofInt (apt t w (n (6 * e + r)).toNat)))) M) → (¬ (0 ≤ w ∧ w ≤ 20) → Q' (some (.int (Int32.ofInt (-1)))) M) → q_C q_mt (L, xs, q_shp) E nX12_worth (d + 4) 0 0 (.ref 271 :: [.int (nI e), .int (nI (r + 1)), .int (Int32.ofInt w)]) M Q' := by
      intro Q' y1 y0
      refine w_in 90 [] ?_
      refine c_X12_isEntrant g.R.1 g.R.b (fun _ _ _ => br_f (by decide) ?_) (fun z => absurd ⟨e, he, rfl⟩ z)
      refine c_X12_isRound g.R.1 g.R.b (fun _ _ _ _ => br_f (by decide) ?_) (fun z => absurd ⟨r + 1, by omega, by omega, rfl⟩ z)
      refine k_isIn w 0 20 hw (by omega) (by omega) (fun z1 z2 => br_f (by decide) ?_) (fun z => br_t (by decide) ⟨_, rfl, y0 z⟩)
      refine k_diveOf g.R e r he hr ?_
      refine k_degreeOf g.R _ hdi.2 ?_ (ha := hdi.1)
      exact k_alikePoints w _ ⟨_, rfl, y1 z1 z2⟩
    refine w_in 90 [] ?_
    refine k2_isCell g (fun _ => br_f (by decide) ?_) (fun z => absurd ⟨e, r, he, hr, rfl, rfl⟩ z)
    refine k2_isAward w hw (fun h1 h2 => bn_t (by decide) ?_) (fun h => bn_f (by decide) ⟨_, rfl, _, rfl, ref0 _ (fun z1 z2 => absurd ⟨z1, z2⟩ h) (fun _ => ⟨rfl, hP⟩)⟩)
    refine k2_cellOf e r ?_
    refine ⟨6 * e + r, _, by (first | assumption | (simp only [z_nat, z_lit, ← Int32.ofInt_add, ← Int32.ofInt_sub, ← Int32.ofInt_mul]; exact congrArg Int32.ofInt (by omega)) | (simp only [z_nat, z_lit, ← Int32.ofInt_add, ← Int32.ofInt_sub, ← Int32.ofInt_mul]; done) | exact congrArg Int32.ofInt (by omega) | rfl), by (dsimp only; omega), (g.li he hr).trans hdi.1, ?_⟩
    exact k2_pointsAlike g.Z _ w hdi.2 ⟨_, rfl, _, rfl, ref0 _ (fun _ _ => ⟨rfl, hP⟩) (fun z => absurd ⟨h1, h2⟩ z)⟩
  · have q2 := aCell.no q
    refine w_in 90 [] ?_
    refine k2_isCell g (fun z => absurd z q) (fun _ => br_t (by decide) ⟨_, rfl, _, rfl, ?_⟩)
    refine w_in 90 [] ?_
    refine c_X12_isEntrant g.R.1 g.R.b (fun e he e1 => br_f (by decide) ?_) (fun _ => br_t (by decide) ⟨_, rfl, rfl, hP⟩)
    exact c_X12_isRound g.R.1 g.R.b (fun r r1 r2 e2 => absurd ⟨⟨e, he, e1⟩, r, r1, r2, e2⟩ q2) (fun _ => br_t (by decide) ⟨_, rfl, rfl, hP⟩)
end O1
