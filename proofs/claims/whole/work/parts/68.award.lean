/-! the calls award, kept, alike, dropped -/
abbrev lA : List Nat := [239, 240, 241, 293]
abbrev fA : List (Nat × Nat) := [(238, 4), (238, 5), (238, 6), (238, 7), (238, 8), (238, 9), (238, 10), (238, 11), (238, 12), (271, 36), (271, 37), (271, 38), (271, 39)]
section FC
variable {t : q_T} {S S' : Nat → Bool} {c : Nat → Int} {dr j : Nat}
theorem plc_cong (h : ∀ i, i < t 2 0 → S i = S' i) : plc t S c j = plc t S' c j := by
  unfold plc
  exact fb_ct_cong (fun i hi => by rw [h i hi])
theorem pan_cong {s : Nat} (h : ∀ i, i < t 2 0 → S i = S' i) : pan t S s = pan t S' s := by
  unfold pan
  exact fb_ct_cong (fun i hi => by rw [h i hi])
theorem fat_cong (h : ∀ i, i < t 2 0 → S i = S' i) : fat t S c dr j = fat t S' c dr j := by
  unfold fat
  rw [plc_cong h, pan_cong h]
theorem kpt_cong (h : ∀ i, i < t 2 0 → S i = S' i) (hj : j < t 2 0) : kpt t S c dr j = kpt t S' c dr j := by
  unfold kpt
  rw [fat_cong h, h j hj]
theorem ptS_cong {deg : Int} (h : ∀ i, i < t 2 0 → S i = S' i) : ptS t S c dr deg = ptS t S' c dr deg := by
  unfold ptS smS
  rw [fb_ct_cong (fun i hi => kpt_cong h hi), fb_si_cong (fun i hi => by rw [kpt_cong h hi])]
end FC
/-- what counts of e's marks in round r + 1 -/
abbrev cvE (t : q_T) (n : sN) (e r : Nat) : Nat → Int := cvt t (fun j => mk n e r j) (n (432 + (6 * e + r))) (n (468 + (6 * e + r))) (n (504 + (6 * e + r)))
/-- whether j's mark stands -/
def jdd (t : q_T) (n : sN) (e r j : Nat) : Bool := decide (n (576 + (6 * e + r)) = 1) && (decide (n (540 + (6 * e + r)) = 0) && onP t j e)
theorem jdd_t {t : q_T} {n : sN} {e r j : Nat} : jdd t n e r j = true ↔ n (576 + (6 * e + r)) = 1 ∧ n (540 + (6 * e + r)) = 0 ∧ onP t j e = true := by
  unfold jdd
  rw [Bool.and_eq_true, Bool.and_eq_true, decide_eq_true_eq, decide_eq_true_eq]
theorem jdd_f {t : q_T} {n : sN} {e r j : Nat} (h : ¬ (n (576 + (6 * e + r)) = 1 ∧ n (540 + (6 * e + r)) = 0 ∧ onP t j e = true)) : jdd t n e r j = false := Bool.eq_false_iff.mpr (fun z => h (jdd_t.mp z))
section AW
variable {L : Nat} {xs : Nat → Int32} {E : q_E} {d : Nat} {M : q_M} {t : q_T} {n : sN} {Q : Option Value → q_M → Prop} {P : q_M → Prop}
theorem mk_0 {e r : Nat} (g : g_R M t n) (he : e < t 8 0) (hr : r < t 0 0) (hg : n (576 + (6 * e + r)) = 1) (h0 : n (540 + (6 * e + r)) = 0) : ∀ j, j < t 2 0 → onE t e j = true → 0 ≤ mk n e r j := by
  intro j hj q
  have h11 := g.j11
  have hs := g.bs he hr
  have h1 := hs.2.1 j (by omega)
  have h2 := hs.2.2.2.2.2.2.2.2 hg h0 j hj q
  omega
set_option maxRecDepth 100000 in
set_option maxHeartbeats 4000000 in
theorem k2_isJudged4 (g : g_A 43 M t n) {a b c : Int32} (e r j : Nat) (he : e < t 8 0) (hr : r < t 0 0) (hj : j < t 2 0) (h1 : jdd t n e r j = true → Q (some (.int 1)) M) (h0 : jdd t n e r j = false → Q (some (.int 0)) M) (ha : a = nI e := by (first | assumption | (simp only [z_nat, z_lit, ← Int32.ofInt_add, ← Int32.ofInt_sub, ← Int32.ofInt_mul]; exact congrArg Int32.ofInt (by omega)) | (simp only [z_nat, z_lit, ← Int32.ofInt_add, ← Int32.ofInt_sub, ← Int32.ofInt_mul]; done) | exact congrArg Int32.ofInt (by omega) | rfl)) (hb : b = nI (r + 1) := by (first | assumption | (simp only [z_nat, z_lit, ← Int32.ofInt_add, ← Int32.ofInt_sub, ← Int32.ofInt_mul]; exact congrArg Int32.ofInt (by omega)) | (simp only [z_nat, z_lit, ← Int32.ofInt_add, ← Int32.ofInt_sub, ← Int32.ofInt_mul]; done) | exact congrArg Int32.ofInt (by omega) | rfl)) (hc : c = nI j := by (first | assumption | (simp only [z_nat, z_lit, ← Int32.ofInt_add, ← Int32.ofInt_sub, ← Int32.ofInt_mul]; exact congrArg Int32.ofInt (by omega)) | (simp only [z_nat, z_lit, ← Int32.ofInt_add, ← Int32.ofInt_sub, ← Int32.ofInt_mul]; done) | exact congrArg Int32.ofInt (by omega) | rfl)) : q_C q_mt (L, xs, q_shp) E nX4_isJudged (d + 2) 0 0 [.ref 256, .int (a), .int (b), .int (c)] M Q := by
  subst ha hb hc
  have hp := ptE_b g.R (dr := t 1 0) (bar := -1) he hr
  refine w_in 90 [] ?_
  refine k2_pointsOf_43 g.Z e r he hr (fun hg => ?_) (fun hg => ?_)
  · refine z_lt (ptE t n e r (t 1 0) (-1)) 0 (fun z => by omega) (fun _ => ?_)
    refine k2_isFailed_43 g.Z e r he hr (fun hf => bn_t (by decide) ⟨z_0, h0 (jdd_f (fun z => by omega))⟩) (fun hf => bn_f (by decide) ?_)
    exact k2_isOnPanel g.Z j e hj he (fun hq => br_f (by decide) ⟨z_1, h1 (jdd_t.mpr ⟨hg, hf, hq⟩)⟩) (fun hq => br_t (by decide) ⟨z_0, h0 (jdd_f (fun z => absurd (hq.symm.trans z.2.2) (by decide)))⟩)
  · exact z_lt (-1) 0 (fun _ => ⟨z_0, h0 (jdd_f (fun z => by omega))⟩) (fun z => by omega)
set_option maxRecDepth 100000 in
set_option maxHeartbeats 4000000 in
theorem k_isJudged4 (g : g_R M t n) {a b c : Int32} (e r j : Nat) (he : e < t 8 0) (hr : r < t 0 0) (hj : j < t 2 0) (h1 : jdd t n e r j = true → Q (some (.int 1)) M) (h0 : jdd t n e r j = false → Q (some (.int 0)) M) (ha : a = nI e := by (first | assumption | (simp only [z_nat, z_lit, ← Int32.ofInt_add, ← Int32.ofInt_sub, ← Int32.ofInt_mul]; exact congrArg Int32.ofInt (by omega)) | (simp only [z_nat, z_lit, ← Int32.ofInt_add, ← Int32.ofInt_sub, ← Int32.ofInt_mul]; done) | exact congrArg Int32.ofInt (by omega) | rfl)) (hb : b = nI (r + 1) := by (first | assumption | (simp only [z_nat, z_lit, ← Int32.ofInt_add, ← Int32.ofInt_sub, ← Int32.ofInt_mul]; exact congrArg Int32.ofInt (by omega)) | (simp only [z_nat, z_lit, ← Int32.ofInt_add, ← Int32.ofInt_sub, ← Int32.ofInt_mul]; done) | exact congrArg Int32.ofInt (by omega) | rfl)) (hc : c = nI j := by (first | assumption | (simp only [z_nat, z_lit, ← Int32.ofInt_add, ← Int32.ofInt_sub, ← Int32.ofInt_mul]; exact congrArg Int32.ofInt (by omega)) | (simp only [z_nat, z_lit, ← Int32.ofInt_add, ← Int32.ofInt_sub, ← Int32.ofInt_mul]; done) | exact congrArg Int32.ofInt (by omega) | rfl)) : q_C q_mt (L, xs, q_shp) E nX12_isJudged (d + 3) 0 0 [.ref 271, .int (a), .int (b), .int (c)] M Q := by
  subst ha hb hc
  refine k_isJudged g (fun e' r' j' h => h1 ?_) (fun z => h0 (jdd_f (fun h => z ⟨e, r, j, he, hr, hj, rfl, rfl, rfl, h.1, h.2.1, h.2.2⟩)))
  have h6 := g.e6
  have h7 := g.r6
  have h11 := g.j11
  have q1 := (nI_eq (by omega) (by have := h.1; omega)).mp h.2.2.2.1
  have q2 := (nI_eq (by omega) (by have := h.2.1; omega)).mp h.2.2.2.2.1
  have q3 := (nI_eq (by omega) (by have := h.2.2.1; omega)).mp h.2.2.2.2.2.1
  have q4 : r' = r := by omega
  subst q1 q3 q4
  exact jdd_t.mpr h.2.2.2.2.2.2
set_option maxRecDepth 100000 in
set_option maxHeartbeats 4000000 in
theorem o_award {a b c x : Int32} (g : g_A 43 M t n) (hP : ∀ M', q_fs lA fA M M' → P M') : zOp L xs E nX11_award nX12_award (d + 8) [.int a, .int b, .int c, .int x] M P := by
  obtain ⟨w, hw, rfl⟩ := z_of x
  by_cases q : ∃ e r j, aJud t n a b c e r j
  · obtain ⟨e, r, j, hh⟩ := q
    have hh2 := hh
    obtain ⟨he, hr, hj, rfl, rfl, rfl, hg, h0, hp⟩ := hh
    have h11 := g.R.j11
    have hpr := prt_on g.R he hr hg h0
    have h4 := (g.R.bj hj).2
    have hs := g.R.bs he hr
    have hm := hs.2.1 j (by omega)
    have hfb : fat t (onE t e) (cvE t n e r) (t 1 0) j ≤ 2 := by unfold fat; split; omega; split <;> omega
    have r0 : ∀ M2, g_R M2 t n → ∀ Q', (0 ≤ w ∧ w ≤ 2 → ∀ M3, q_fs [293] fD M2 M3 → Q' (some (.int (Int32.ofInt (if w = 0 then mk n e r j else if w = 1 then cvE t n e r j else if fat t (onE t e) (cvE t n e r) (t 1 0) j = 2 then 1 else 0)))) M3) → (¬ (0 ≤ w ∧ w ≤ 2) → Q' (some (.int (Int32.ofInt (-1)))) M2) → q_C q_mt (L, xs, q_shp) E nX12_award (d + 8) 0 0 (.ref 271 :: [.int (nI e), .int (nI (r + 1)), .int (nI j), .int (Int32.ofInt w)]) M2 Q' := by
      intro M2 g2 Q' y1 y0
      refine w_in 90 [] ?_
      refine k_isJudged4 g2 e r j he hr hj (fun _ => br_f (by decide) ?_) (fun z => absurd ((jdd_t.mpr ⟨hg, h0, hp⟩).symm.trans z) (by decide))
      refine k_isIn w 0 2 hw (by omega) (by omega) (fun z1 z2 => bn_t (by decide) ?_) (fun z => bn_f (by decide) ⟨_, rfl, y0 z⟩)
      refine k_laysDive g2 e r he hr (fun M3 hf3 l3 => ?_)
      have y1 := y1 ⟨z1, z2⟩ M3 hf3
      have g3 := g2.fs hf3
      refine z_ne w 0 (fun z3 => ?_) (fun z3 => ?_)
      · refine z_ne w 1 (fun z4 => ?_) (fun z4 => ?_)
        · rw [if_neg z3, if_neg z4] at y1
          refine ⟨1, _, by (first | assumption | (simp only [z_nat, z_lit, ← Int32.ofInt_add, ← Int32.ofInt_sub, ← Int32.ofInt_mul]; exact congrArg Int32.ofInt (by omega)) | (simp only [z_nat, z_lit, ← Int32.ofInt_add, ← Int32.ofInt_sub, ← Int32.ofInt_mul]; done) | exact congrArg Int32.ofInt (by omega) | rfl), by (dsimp only; omega), g3.R1, ?_⟩
          refine k_fateOf g3 l3 j (t 1 0) (-1) hj g.R.p3 (by omega) ?_
          rw [fat_cong hpr]
          refine z_ne (fat t (onE t e) (cvE t n e r) (t 1 0) j) 2 (fun z5 => ?_) (fun z5 => ?_)
          · rw [if_neg (by omega)] at y1
            exact ⟨_, rfl, y1⟩
          · rw [if_pos (by omega)] at y1
            exact ⟨_, rfl, y1⟩
        · rw [if_neg z3, if_pos z4] at y1
          exact k_countOf g3 l3 j hj ⟨_, rfl, y1⟩
      · rw [if_pos z3] at y1
        refine ⟨j, _, by (first | assumption | (simp only [z_nat, z_lit, ← Int32.ofInt_add, ← Int32.ofInt_sub, ← Int32.ofInt_mul]; exact congrArg Int32.ofInt (by omega)) | (simp only [z_nat, z_lit, ← Int32.ofInt_add, ← Int32.ofInt_sub, ← Int32.ofInt_mul]; done) | exact congrArg Int32.ofInt (by omega) | rfl), by (dsimp only; omega), (l3.1 j (by omega)).1, ?_⟩
        exact ⟨_, rfl, y1⟩
    refine w_in 90 [] ?_
    refine k2_isJudged g (fun _ _ _ _ => bn_t (by decide) ?_) (fun z => absurd ⟨e, r, j, hh2⟩ z)
    refine k2_seat_43 g.Z e r he hr (fun M1 hf1 p1 => ?_)
    refine p_score (g.seat_43 hf1).K p1 (mk_0 g.R he hr hg h0) (fun M2 hf2 p2 => ?_)
    have hf : q_fs lA fA M M2 := hf1.mono.tr hf2.mono
    have g2 : g_R M2 t n := g.R.fs hf
    have r1 := r0 M2 g2 (fun v' M'' => v' = some (.int (Int32.ofInt (if 0 ≤ w ∧ w ≤ 2 then (if w = 0 then mk n e r j else if w = 1 then cvE t n e r j else if fat t (onE t e) (cvE t n e r) (t 1 0) j = 2 then 1 else 0) else -1))) ∧ P M'') (fun z M3 hf3 => ⟨congrArg (fun z => some (Value.int (Int32.ofInt z))) (if_pos z).symm, hP M3 (hf.tr hf3.mono)⟩) (fun z => ⟨congrArg (fun z => some (Value.int (Int32.ofInt z))) (if_neg z).symm, hP M2 hf⟩)
    by_cases q0 : w < 0 ∨ 2 < w
    · rw [if_neg (by omega)] at r1
      exact ⟨fun _ => ⟨_, rfl, _, rfl, r1⟩, sw_no (by rw [z_toInt hw]; exact q0.elim Or.inl (fun z => Or.inr (by show (0 : Int) + 3 ≤ w; omega)))⟩
    · rw [if_pos (by omega)] at r1
      obtain rfl | rfl | rfl : w = 0 ∨ w = 1 ∨ w = 2 := by omega
      · rw [if_pos rfl] at r1
        refine ⟨fun z => absurd z (by decide), sw_at 0 (by decide) rfl ?_⟩
        have e39 : M2.1 239 j = Int32.ofInt (mk n e r j) := by rw [hf2.c1 239]; exact (p1.2.1 j hj).1
        refine ⟨j, _, by (first | assumption | (simp only [z_nat, z_lit, ← Int32.ofInt_add, ← Int32.ofInt_sub, ← Int32.ofInt_mul]; exact congrArg Int32.ofInt (by omega)) | (simp only [z_nat, z_lit, ← Int32.ofInt_add, ← Int32.ofInt_sub, ← Int32.ofInt_mul]; done) | exact congrArg Int32.ofInt (by omega) | rfl), by (dsimp only; omega), e39, ?_⟩
        exact ⟨_, rfl, _, rfl, r1⟩
      · rw [if_neg (by decide), if_pos rfl] at r1
        refine ⟨fun z => absurd z (by decide), sw_at 1 (by decide) rfl ?_⟩
        refine ⟨j, _, by (first | assumption | (simp only [z_nat, z_lit, ← Int32.ofInt_add, ← Int32.ofInt_sub, ← Int32.ofInt_mul]; exact congrArg Int32.ofInt (by omega)) | (simp only [z_nat, z_lit, ← Int32.ofInt_add, ← Int32.ofInt_sub, ← Int32.ofInt_mul]; done) | exact congrArg Int32.ofInt (by omega) | rfl), by (dsimp only; omega), p2.1 j hj hp (by omega), ?_⟩
        exact ⟨_, rfl, _, rfl, r1⟩
      · rw [if_neg (by decide), if_neg (by decide)] at r1
        refine ⟨fun z => absurd z (by decide), sw_at 2 (by decide) rfl ?_⟩
        refine ⟨_, rfl, ?_⟩
        refine ⟨_, b_at (by omega), _, rfl, ?_⟩
        have hb : (bt (M2.1 238 10) j = true) = (fat t (onE t e) (cvE t n e r) (t 1 0) j = 2) := propext ((p2.2.1 j (by omega)).trans ⟨fun z => z.2.2.2, fun z => ⟨hj, hp, by omega, z⟩⟩)
        simp only [hb]
        exact r1
  · refine w_in 90 [] ?_
    refine k2_isJudged g (fun e r j h => absurd ⟨e, r, j, h⟩ q) (fun _ => bn_f (by decide) ⟨_, rfl, _, rfl, ?_⟩)
    refine w_in 90 [] ?_
    exact k_isJudged g.R (fun e r j h => absurd ⟨e, r, j, h⟩ q) (fun _ => br_t (by decide) ⟨_, rfl, rfl, hP M q_fs.rf⟩)
end AW
