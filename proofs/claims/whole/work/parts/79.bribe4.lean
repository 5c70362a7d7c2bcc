/-! the call bribes, both sides -/
section B4
variable {L : Nat} {xs : Nat → Int32} {E : q_E} {d : Nat} {M : q_M} {t : q_T} {n : sN} {Q : Option Value → q_M → Prop} {P : q_M → Prop}
set_option maxRecDepth 100000 in
set_option maxHeartbeats 4000000 in
theorem o_bribes {a b c : Int32} (g : g_A 43 M t n) (hP : ∀ M', q_fs lB fA M M' → P M') : zOp L xs E nX11_bribes nX12_bribes (d + 8) [.int a, .int b, .int c] M P := by
  have h6 := g.R.e6
  have h7 := g.R.r6
  by_cases q : ∃ e r, e < t 8 0 ∧ r < t 0 0 ∧ a = nI e ∧ b = nI (r + 1) ∧ n (576 + (6 * e + r)) = 1
  · obtain ⟨e, r, he, hr, rfl, rfl, hg⟩ := q
    by_cases q2 : ∃ o, o < t 8 0 ∧ ¬ e = o ∧ c = nI o
    · obtain ⟨o, ho, hd, rfl⟩ := q2
      have b1 : 0 ≤ toF t n e ∧ toF t n e ≤ 108000 := toE_b g.R (dr := t 1 0) (bar := -1) he
      have b2 : 0 ≤ toF t n o ∧ toF t n o ≤ 108000 := toE_b g.R (dr := t 1 0) (bar := -1) ho
      have hba := (g.R.bn.2.1 e he).2
      have r0 : ∀ M1, q_fs lB fA M M1 → ∀ Q', (toF t n o < toF t n e → ∀ M', q_fs lB fA M M' → Q' (some (.int (Int32.ofInt 0))) M') → (¬ toF t n o < toF t n e → ¬ (n (540 + (6 * e + r)) = 0 ∧ n (618 + e) ≤ (r : Int) + 1) → ∀ M', q_fs lB fA M M' → Q' (some (.int (Int32.ofInt (-2)))) M') → (¬ toF t n o < toF t n e → n (540 + (6 * e + r)) = 0 → n (618 + e) ≤ (r : Int) + 1 → ∀ M' v, q_fs lB fA M M' → isBr t n e r (thB t n e r o) v → Q' (some (.int (Int32.ofInt v))) M') → q_C q_mt (L, xs, q_shp) E nX12_bribes (d + 8) 0 0 (.ref 271 :: [.int (nI e), .int (nI (r + 1)), .int (nI o)]) M1 Q' := by
        intro M1 hf1 Q' yA yB yC
        have g1 := g.R.fs hf1
        refine w_in 90 [92] ?_
        refine k_isGivenDive g1 (fun _ _ _ _ _ _ _ => br_f (by decide) ?_) (fun z => absurd ⟨e, r, he, hr, rfl, rfl, hg⟩ z)
        refine c_X12_isEntrant g1.1 g1.b (fun _ _ _ => br_f (by decide) ?_) (fun z => absurd ⟨o, ho, rfl⟩ z)
        refine z_ne (e : Int) (o : Int) (fun _ => ?_) (fun z => by omega)
        refine k_totalOf g1 e he (fun M2 hf2 => ?_)
        have hf3 : q_fs lB fA M M2 := hf1.tr hf2.mono
        refine k_totalOf (g.R.fs hf3) o ho (fun M3 hf4 => ?_)
        have hf5 : q_fs lB fA M M3 := hf3.tr hf4.mono
        have g3 := g.R.fs hf5
        refine z_le (toF t n e - toF t n o) 0 (fun h1 => ?_) (fun h1 => ⟨_, rfl, yA (by omega) M3 hf5⟩) (hx := by unfold toF; (first | assumption | (simp only [z_nat, z_lit, ← Int32.ofInt_add, ← Int32.ofInt_sub, ← Int32.ofInt_mul]; exact congrArg Int32.ofInt (by omega)) | (simp only [z_nat, z_lit, ← Int32.ofInt_add, ← Int32.ofInt_sub, ← Int32.ofInt_mul]; done) | exact congrArg Int32.ofInt (by omega) | rfl))
        refine k_hasFailed g3 e r he hr (fun h2 => bn_t (by decide) ⟨_, rfl, yB (by omega) (fun z => by omega) M3 hf5⟩) (fun h2 => bn_f (by decide) ?_)
        refine ⟨618 + e, _, by (first | assumption | (simp only [z_nat, z_lit, ← Int32.ofInt_add, ← Int32.ofInt_sub, ← Int32.ofInt_mul]; exact congrArg Int32.ofInt (by omega)) | (simp only [z_nat, z_lit, ← Int32.ofInt_add, ← Int32.ofInt_sub, ← Int32.ofInt_mul]; done) | exact congrArg Int32.ofInt (by omega) | rfl), by (dsimp only; omega), g3.at (by omega), ?_⟩
        refine z_le (n (618 + e)) ((r + 1 : Nat) : Int) (fun h3 => ?_) (fun h3 => ⟨_, rfl, yB (by omega) (fun z => by omega) M3 hf5⟩)
        refine k_pointsOf g3 e r he hr (fun M4 hf6 => ?_)
        have hf7 : q_fs lB fA M M4 := hf5.tr hf6.mono
        refine k_panelBits (g.R.fs hf7) e he (fun x hx => ?_)
        exact k_brLoop g e r o he hr ho hg h2 hf7 (by unfold toF; (first | assumption | (simp only [z_nat, z_lit, ← Int32.ofInt_add, ← Int32.ofInt_sub, ← Int32.ofInt_mul]; exact congrArg Int32.ofInt (by omega)) | (simp only [z_nat, z_lit, ← Int32.ofInt_add, ← Int32.ofInt_sub, ← Int32.ofInt_mul]; done) | exact congrArg Int32.ofInt (by omega) | rfl)) rfl hx (by omega) (fun M' v hf8 hv => yC (by omega) h2 (by omega) M' v hf8 hv)
      refine w_in 90 [] ?_
      refine k2_isGiven g (fun _ _ _ _ _ _ _ => br_f (by decide) ?_) (fun z => absurd ⟨e, r, he, hr, rfl, rfl, hg⟩ z)
      refine k2_isOther g (fun _ _ _ _ _ _ _ => bn_t (by decide) ?_) (fun z => absurd ⟨e, o, he, ho, hd, rfl, rfl⟩ z)
      refine k2_fewestBribes g e r o he hr ho hg (fun z1 => ⟨_, rfl, _, rfl, ?_⟩) (fun z1 z2 => ⟨_, rfl, _, rfl, ?_⟩) (fun z1 z2 z3 M1 v hf1 hv => ⟨_, rfl, _, rfl, ?_⟩)
      · exact r0 M q_fs.rf _ (fun _ M' hf => ⟨rfl, hP M' hf⟩) (fun z => absurd z1 z) (fun z => absurd z1 z)
      · exact r0 M q_fs.rf _ (fun z => absurd z z1) (fun _ _ M' hf => ⟨rfl, hP M' hf⟩) (fun _ y1 y2 => absurd ⟨y1, y2⟩ z2)
      · exact r0 M1 hf1 _ (fun z => absurd z z1) (fun _ y => absurd ⟨z2, z3⟩ y) (fun _ _ _ M' v' hf hv' => ⟨by rw [hv.un hv'], hP M' hf⟩)
    · refine w_in 90 [] ?_
      refine k2_isGiven g (fun _ _ _ _ _ _ _ => br_f (by decide) ?_) (fun z => absurd ⟨e, r, he, hr, rfl, rfl, hg⟩ z)
      refine k2_isOther g (fun e' o he' ho hd e1 e2 => absurd ⟨o, ho, (nI_eq (show e < 2147483648 by omega) (show e' < 2147483648 by omega)).mp e1 ▸ hd, e2⟩ q2) (fun _ => bn_f (by decide) ⟨_, rfl, _, rfl, ?_⟩)
      refine w_in 90 [92] ?_
      refine k_isGivenDive g.R (fun _ _ _ _ _ _ _ => br_f (by decide) ?_) (fun z => absurd ⟨e, r, he, hr, rfl, rfl, hg⟩ z)
      refine c_X12_isEntrant g.R.1 g.R.b (fun o ho e2 => br_f (by decide) ?_) (fun _ => br_t (by decide) ⟨_, rfl, rfl, hP M q_fs.rf⟩)
      subst e2
      exact z_ne (e : Int) (o : Int) (fun z => absurd ⟨o, ho, by omega, rfl⟩ q2) (fun _ => ⟨_, rfl, rfl, hP M q_fs.rf⟩)
  · refine w_in 90 [] ?_
    refine k2_isGiven g (fun e r he hr e1 e2 h => absurd ⟨e, r, he, hr, e1, e2, h⟩ q) (fun _ => br_t (by decide) ⟨_, rfl, _, rfl, ?_⟩)
    refine w_in 90 [92] ?_
    exact k_isGivenDive g.R (fun e r he hr e1 e2 h => absurd ⟨e, r, he, hr, e1, e2, h⟩ q) (fun _ => br_t (by decide) ⟨_, rfl, rfl, hP M q_fs.rf⟩)
end B4
