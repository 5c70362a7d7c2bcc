/-! the call best -/
section BO
variable {L : Nat} {xs : Nat → Int32} {E : q_E} {d : Nat} {M : q_M} {t : q_T} {n : sN} {Q : Option Value → q_M → Prop} {P : q_M → Prop}
variable {alw : Nat → Nat → Bool} {wt : Nat → Bool}
abbrev lBo : List Nat := [20, 245, 246, 247, 248, 249, 250, 289, 290, 291, 292]
/-- what the reference tells then -/
theorem tb_ref {e k : Nat} {v : Int} {M' : q_M} (hk0 : ¬ k = 0) (hk : k ≤ t 0 0) (hne : ¬ mx (vl (cstE t e wt) 0) (AL t (t 9 e) alw) = -1) (hbr : g_bR M' t (mx (vl (cstE t e wt) 0) (AL t (t 9 e) alw)) (ar (vl (cstE t e wt) 0) (AL t (t 9 e) alw))) (hv : isTB t e alw wt k v) : M'.1 292 (k - 1) = Int32.ofInt v := by
  rcases hbr with z | ⟨br, h1, h2⟩
  · exact absurd z hne
  · rcases hv with ⟨z, -⟩ | ⟨-, x, hx, rfl⟩
    · exact absurd z (fun w => w.elim hk0 hne)
    · rw [h1, lrow_get (by omega), Nat.zero_add] at hx
      cases hx
      rw [h2 (k - 1) (by omega)]
      rfl
set_option maxRecDepth 100000 in
set_option maxHeartbeats 4000000 in
theorem o_best {a b : Int32} (g : g_A 43 M t n) (wl : g_W M t) (bl : b_L t) (hmo : g_Mo M t) (hP : ∀ M', q_fs lBo fK M M' → g_Mo M' t → P M') : zOp L xs E nX11_best nX12_best (d + 12) [.int a, .int b] M P := by
  have h10 := g.R.d10
  have h6 := g.R.r6
  obtain ⟨k0, hk0, rfl⟩ := z_of b
  by_cases q : (∃ e, e < t 8 0 ∧ a = nI e) ∧ 0 ≤ k0 ∧ k0 ≤ t 0 0
  · obtain ⟨⟨e, he, rfl⟩, hk1, hk2⟩ := q
    obtain ⟨k, rfl⟩ : ∃ k : Nat, k0 = k := ⟨k0.toNat, by omega⟩
    have mb : -1 ≤ mx (vl (cstE t e (fun _ => true)) 0) (AL t (t 9 e) aAll) ∧ mx (vl (cstE t e (fun _ => true)) 0) (AL t (t 9 e) aAll) ≤ 108000 := mx_108 (wt := fun _ => true) (alw := aAll) (pr := t 9 e) (e := e) g.R.A (k := t 0 0) (p := 0) (S := 0) h6
    refine w_in 90 [] ?_
    refine d_hasEntrant g.C g.R.b (fun _ _ _ => br_f (by decide) ?_) (fun z => absurd ⟨e, he, rfl⟩ z)
    refine z_lt (k : Int) 0 (fun z => by omega) (fun _ => ?_)
    refine ⟨_, g.ro, ?_⟩
    refine z_le (k : Int) (t 0 0) (fun _ => ?_) (fun z => by omega)
    refine k2_allowAll g.Z (fun M1 hf1 hal1 => ?_)
    have g1 : g_A 43 M1 t n := g.f3 hf1
    have w1 := wl.fs hf1
    refine k2_tellBest g1.Z w1 bl (hmo.fs h10 hf1) hal1 e k he (by omega) (fun M2 v hf2 ho2 hv => ⟨_, rfl, _, rfl, ?_⟩)
    have g2 : g_A 43 M2 t n := g1.f3 hf2
    have w2 := w1.fs hf2
    have f2 : q_fs lBo fK M M2 := hf1.mono.tr hf2.mono
    refine w_in 90 [] ?_
    refine c_X12_isEntrant g2.R.1 g2.R.b (fun _ _ _ => br_f (by decide) ?_) (fun z => absurd ⟨e, he, rfl⟩ z)
    refine ⟨0, _, by (first | assumption | (simp only [z_nat, z_lit, ← Int32.ofInt_add, ← Int32.ofInt_sub, ← Int32.ofInt_mul]; exact congrArg Int32.ofInt (by omega)) | (simp only [z_nat, z_lit, ← Int32.ofInt_add, ← Int32.ofInt_sub, ← Int32.ofInt_mul]; done) | exact congrArg Int32.ofInt (by omega) | rfl), by (dsimp only; omega), g2.R.R0, ?_⟩
    refine k_isIn (k : Int) 0 (t 0 0) (by omega) (by omega) (by omega) (fun _ _ => bn_t (by decide) ?_) (fun z => absurd ⟨by omega, by omega⟩ z)
    refine k_anyMay g2.R (fun M3 hf3 hs3 => ?_)
    have g3 := g2.R.fs hf3
    refine ⟨0, _, by (first | assumption | (simp only [z_nat, z_lit, ← Int32.ofInt_add, ← Int32.ofInt_sub, ← Int32.ofInt_mul]; exact congrArg Int32.ofInt (by omega)) | (simp only [z_nat, z_lit, ← Int32.ofInt_add, ← Int32.ofInt_sub, ← Int32.ofInt_mul]; done) | exact congrArg Int32.ofInt (by omega) | rfl), by (dsimp only; omega), g3.R0, ?_⟩
    refine k_bestPoints (wt := fun _ => true) g3 (w2.fs hf3) bl hs3 e he (fun p hp => bt_low (t 0 0) (by omega) p hp) (fun M4 hf4 hbr => ?_)
    have fin : P M4 := hP M4 ((f2.tr hf3.mono).tr hf4.mono) ((ho2.fs h10 hf3).fs h10 hf4)
    refine z_eq (k : Int) 0 (fun z => ⟨_, rfl, ?_, fin⟩) (fun z => ?_)
    · rw [hv.un (Or.inl ⟨Or.inl (by omega), rfl⟩)]
    · refine z_ne (mx (vl (cstE t e (fun _ => true)) 0) (AL t (t 9 e) aAll)) (-1) (fun hne => ?_) (fun hz => ⟨_, rfl, ?_, fin⟩)
      · refine ⟨k - 1, _, by (first | assumption | (simp only [z_nat, z_lit, ← Int32.ofInt_add, ← Int32.ofInt_sub, ← Int32.ofInt_mul]; exact congrArg Int32.ofInt (by omega)) | (simp only [z_nat, z_lit, ← Int32.ofInt_add, ← Int32.ofInt_sub, ← Int32.ofInt_mul]; done) | exact congrArg Int32.ofInt (by omega) | rfl), by (dsimp only; omega), tb_ref (by omega) (by omega) hne hbr hv, ?_⟩
        exact ⟨_, rfl, rfl, fin⟩
      · rw [hv.un (Or.inl ⟨Or.inr hz, rfl⟩)]
  · have fin : q_C q_mt (L, xs, q_shp) E nX12_best (d + 12) 0 0 (.ref 271 :: [.int a, .int (Int32.ofInt k0)]) M (fun v' M'' => v' = some (.int (Int32.ofInt (-1))) ∧ P M'') := by
      refine w_in 90 [] ?_
      refine c_X12_isEntrant g.R.1 g.R.b (fun e he e1 => br_f (by decide) ?_) (fun z => br_t (by decide) ⟨_, rfl, rfl, hP M q_fs.rf hmo⟩)
      refine ⟨0, _, by (first | assumption | (simp only [z_nat, z_lit, ← Int32.ofInt_add, ← Int32.ofInt_sub, ← Int32.ofInt_mul]; exact congrArg Int32.ofInt (by omega)) | (simp only [z_nat, z_lit, ← Int32.ofInt_add, ← Int32.ofInt_sub, ← Int32.ofInt_mul]; done) | exact congrArg Int32.ofInt (by omega) | rfl), by (dsimp only; omega), g.R.R0, ?_⟩
      exact k_isIn k0 0 (t 0 0) hk0 (by omega) (by omega) (fun z1 z2 => absurd ⟨⟨e, he, e1⟩, z1, z2⟩ q) (fun z => bn_f (by decide) ⟨_, rfl, rfl, hP M q_fs.rf hmo⟩)
    refine w_in 90 [] ?_
    refine d_hasEntrant g.C g.R.b (fun e he e1 => br_f (by decide) ?_) (fun z => br_t (by decide) ⟨_, rfl, _, rfl, fin⟩)
    refine z_lt k0 0 (fun z => ⟨_, rfl, _, rfl, fin⟩) (fun z1 => ?_)
    refine ⟨_, g.ro, ?_⟩
    exact z_le k0 (t 0 0) (fun z2 => absurd ⟨⟨e, he, e1⟩, z1, z2⟩ q) (fun z => ⟨_, rfl, _, rfl, fin⟩)
end BO
