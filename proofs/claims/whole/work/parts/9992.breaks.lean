/-! the call breaks -/
section BR
variable {L : Nat} {xs : Nat → Int32} {E : q_E} {d : Nat} {M : q_M} {t : q_T} {n : sN} {Q : Option Value → q_M → Prop} {P : q_M → Prop}
set_option maxRecDepth 100000 in
set_option maxHeartbeats 4000000 in
theorem o_breaks {a b : Int32} (g : g_A 43 M t n) (wl : g_W M t) (bl : b_L t) (hP : ∀ M', q_fs lQ [] M M' → P M') : zOp L xs E nX11_breaks nX12_breaks (d + 12) [.int a, .int b] M P := by
  obtain ⟨w, hw, rfl⟩ := z_of b
  have l6 := bl.1
  have h6 := g.R.r6
  by_cases q : (∃ e, e < t 8 0 ∧ a = nI e) ∧ 0 ≤ w ∧ w ≤ 1
  · obtain ⟨⟨e, he, rfl⟩, hw1⟩ := q
    have hd := ro_d g.R.A he
    have be := (g.R.be he).1
    refine w_in 90 [] ?_
    refine d_hasEntrant g.C g.R.b (fun _ _ _ => br_f (by decide) ?_) (fun z => absurd ⟨e, he, rfl⟩ z)
    refine z_lt w 0 (fun z => by omega) (fun _ => ?_)
    refine z_le w 1 (fun _ => ?_) (fun z => by omega)
    refine k2_findBreak g.Z wl bl e he (fun M1 p hf1 hp => ?_) (fun M1 hf1 hp => ?_)
    · have g1 : g_A 43 M1 t n := g.f3 hf1
      have w1 := wl.fs hf1
      have hpt := hp.1
      by_cases qw : w = 0
      · subst qw
        refine z_ne 0 0 (fun z => absurd rfl z) (fun _ => ⟨_, rfl, _, rfl, ?_⟩)
        refine w_in 90 [] ?_
        refine c_X12_isEntrant g1.R.1 g1.R.b (fun _ _ _ => br_f (by decide) ?_) (fun z => absurd ⟨e, he, rfl⟩ z)
        refine k_isIn 0 0 1 (by omega) (by omega) (by omega) (fun _ _ => bn_t (by decide) ?_) (fun z => absurd ⟨by omega, by omega⟩ z)
        refine k_laysRow g1.R e he (fun M2 hf2 hm2 => ?_)
        refine k_firstBroken (g1.R.fs hf2) (w1.fs hf2) bl e he hm2 hd (fun M3 p' hf3 hp' => ?_) (fun M3 hf3 hp' => absurd (hp' p hp.1) hp.2.1)
        obtain rfl := hp.un hp'
        refine z_ne 0 0 (fun z => absurd rfl z) (fun _ => ?_)
        exact ⟨_, rfl, by rw [show nI p + Int32.ofInt 1 = nI (p + 1) by (first | assumption | (simp only [z_nat, z_lit, ← Int32.ofInt_add, ← Int32.ofInt_sub, ← Int32.ofInt_mul]; exact congrArg Int32.ofInt (by omega)) | (simp only [z_nat, z_lit, ← Int32.ofInt_add, ← Int32.ofInt_sub, ← Int32.ofInt_mul]; done) | exact congrArg Int32.ofInt (by omega) | rfl)], hP M3 ((hf1.mono.tr hf2.mono).tr hf3.mono)⟩
      · have qw1 : w = 1 := by omega
        subst qw1
        refine z_ne 1 0 (fun _ => ?_) (fun z => by omega)
        refine z_ne ((p + 1 : Nat) : Int) 0 (fun _ => ?_) (fun z => by omega)
        refine k2_findBrokenLaw g1.Z w1 bl e p he hpt (fun M2 l hf2 hs => ⟨_, rfl, _, rfl, ?_⟩) (fun M2 hf2 hs => absurd hs hp.2.1)
        have g2 : g_A 43 M2 t n := g1.f3 hf2
        have w2 := w1.fs hf2
        have hlt := hs.1
        refine w_in 90 [] ?_
        refine c_X12_isEntrant g2.R.1 g2.R.b (fun _ _ _ => br_f (by decide) ?_) (fun z => absurd ⟨e, he, rfl⟩ z)
        refine k_isIn 1 0 1 (by omega) (by omega) (by omega) (fun _ _ => bn_t (by decide) ?_) (fun z => absurd ⟨by omega, by omega⟩ z)
        refine k_laysRow g2.R e he (fun M3 hf3 hm3 => ?_)
        have w3 := w2.fs hf3
        refine k_firstBroken (g2.R.fs hf3) w3 bl e he hm3 hd (fun M4 p' hf4 hp' => ?_) (fun M4 hf4 hp' => absurd (hp' p hp.1) hp.2.1)
        obtain rfl := hp.un hp'
        have g4 := (g2.R.fs hf3).fs hf4
        refine z_ne 1 0 (fun _ => ?_) (fun z => by omega)
        refine z_ne (p : Int) (-1) (fun _ => ?_) (fun z => by omega)
        refine k_pairOf g4 e he ?_
        refine k_brokenAt g4 (w3.fs hf4) bl p (t 9 e) (by omega) (fun i hi => by rw [hf4.c1 289]; exact hm3 i (by omega)) (hd.le (by omega)) be (fun M5 l' hf5 hs' => ?_) (fun M5 hf5 hs' => absurd hs' hp.2.1)
        obtain rfl := hs.un hs'
        exact ⟨_, rfl, rfl, hP M5 ((((hf1.mono.tr hf2.mono).tr hf3.mono).tr hf4.mono).tr hf5.mono)⟩
    · have g1 : g_A 43 M1 t n := g.f3 hf1
      have w1 := wl.fs hf1
      have fin : ∀ x : Int, x = 0 ∨ x = 1 → q_C q_mt (L, xs, q_shp) E nX12_breaks (d + 12) 0 0 (.ref 271 :: [.int (nI e), .int (Int32.ofInt x)]) M1 (fun v' M'' => v' = some (.int (Int32.ofInt (if x = 0 then 0 else -1))) ∧ P M'') := by
        intro x hx
        refine w_in 90 [] ?_
        refine c_X12_isEntrant g1.R.1 g1.R.b (fun _ _ _ => br_f (by decide) ?_) (fun z => absurd ⟨e, he, rfl⟩ z)
        refine k_isIn x 0 1 (by omega) (by omega) (by omega) (fun _ _ => bn_t (by decide) ?_) (fun z => absurd ⟨by omega, by omega⟩ z)
        refine k_laysRow g1.R e he (fun M2 hf2 hm2 => ?_)
        refine k_firstBroken (g1.R.fs hf2) (w1.fs hf2) bl e he hm2 hd (fun M3 p' hf3 hp' => absurd (hp p' hp'.1) hp'.2.1) (fun M3 hf3 _ => ?_)
        refine z_ne x 0 (fun z => ?_) (fun z => ?_)
        · refine z_ne (-1) (-1) (fun z => absurd rfl z) (fun _ => ⟨_, rfl, by rw [if_neg z], hP M3 ((hf1.mono.tr hf2.mono).tr hf3.mono)⟩)
        · exact ⟨_, rfl, by rw [if_pos z]; rfl, hP M3 ((hf1.mono.tr hf2.mono).tr hf3.mono)⟩
      by_cases qw : w = 0
      · subst qw
        exact z_ne 0 0 (fun z => absurd rfl z) (fun _ => ⟨_, rfl, _, rfl, fin 0 (Or.inl rfl)⟩)
      · have qw1 : w = 1 := by omega
        subst qw1
        refine z_ne 1 0 (fun _ => ?_) (fun z => by omega)
        exact z_ne 0 0 (fun z => absurd rfl z) (fun _ => ⟨_, rfl, _, rfl, fin 1 (Or.inr rfl)⟩)
  · have fin : q_C q_mt (L, xs, q_shp) E nX12_breaks (d + 12) 0 0 (.ref 271 :: [.int a, .int (Int32.ofInt w)]) M (fun v' M'' => v' = some (.int (Int32.ofInt (-1))) ∧ P M'') := by
      refine w_in 90 [] ?_
      refine c_X12_isEntrant g.R.1 g.R.b (fun e he e1 => br_f (by decide) ?_) (fun z => br_t (by decide) ⟨_, rfl, rfl, hP M q_fs.rf⟩)
      exact k_isIn w 0 1 hw (by omega) (by omega) (fun z1 z2 => absurd ⟨⟨e, he, e1⟩, z1, z2⟩ q) (fun z => bn_f (by decide) ⟨_, rfl, rfl, hP M q_fs.rf⟩)
    refine w_in 90 [] ?_
    refine d_hasEntrant g.C g.R.b (fun e he e1 => br_f (by decide) ?_) (fun z => br_t (by decide) ⟨_, rfl, _, rfl, fin⟩)
    refine z_lt w 0 (fun z => ⟨_, rfl, _, rfl, fin⟩) (fun z1 => ?_)
    exact z_le w 1 (fun z2 => absurd ⟨⟨e, he, e1⟩, z1, z2⟩ q) (fun z => ⟨_, rfl, _, rfl, fin⟩)
end BR
