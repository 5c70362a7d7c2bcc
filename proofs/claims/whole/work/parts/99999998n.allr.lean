/-! all STATEMENTS of a MEET: the reference's reading -/
section AR
variable {L : Nat} {xs : Nat → Int32} {E : q_E} {d : Nat} {M : q_M} {t : q_T} {n : sN} {Q : Option Value → q_M → Prop} {P : q_M → Prop}
variable {x : Nat → Nat} {len : Nat} {tok : Nat → Tok} {T : Nat}
theorem g_rt.v3 {i : Nat} (g : g_rt M x len tok T i) (h : ¬ (tok i).1 = 0) : ∃ v : Int, (1 ≤ v ∧ v ≤ 4) ∧ M.1 273 i = Int32.ofInt v := by
  have k5 := g.tt.k5 i
  obtain ⟨-, -, k1, k2, k3, k4, k6⟩ := g.k
  obtain q | q | q | q | q : (tok i).1 = 1 ∨ (tok i).1 = 2 ∨ (tok i).1 = 3 ∨ (tok i).1 = 4 ∨ (tok i).1 = 5 := by omega
  · exact ⟨1, by omega, (k1 q).1⟩
  · exact ⟨1, by omega, (k2 q).1⟩
  · exact ⟨2, by omega, (k3 q).1⟩
  · refine ⟨if isSg (tok i).2 = true then 3 else 4, ?_, (k4 q).1⟩
    split <;> omega
  · rcases k6 q with y | y
    · exact ⟨4, by omega, y⟩
    · exact ⟨1, by omega, y.1⟩
theorem dR_0 (h : ∀ k, k < 1685 → M.1 279 k = nI 0) : dR M t_0 := by
  have z : ∀ {k y : Nat} {A : Prop}, ¬ k = 12 → y < t_0 k 0 → A := fun hk hy => by
    rw [t_0z hk] at hy
    exact absurd hy (Nat.not_lt_zero _)
  exact ⟨⟨h 0 (by omega), h 1 (by omega), h 2 (by omega), h 3 (by omega), h 4 (by omega), h 6 (by omega), h 5 (by omega), fun j hj => z (by decide) hj, fun j hj => z (by decide) hj, fun j hj => z (by decide) hj, fun j hj => z (by decide) hj, fun j hj => z (by decide) hj⟩, fun e he => z (by decide) he, fun j hj => z (by decide) hj, fun j hj => z (by decide) hj, fun l hl => z (by decide) hl⟩
set_option maxRecDepth 100000 in
set_option maxHeartbeats 4000000 in
theorem k_meetRead (g : g_rt M x len tok T 0) (h1 : ∀ t' N i M', allP x len tok T 82 t_0 0 0 = .inr ((t', N), i) → q_fs lDq fDq M M' → g_rt M' x len tok T i → dR M' t' → M'.1 279 7 = nI N → ∀ u, q_G q_mt (L, xs, q_shp) E nX12_meet (d + 10) 0 0 (q_Q (L, xs, q_shp) E Q) 75 [some (.ref 271), some (.int (u))] [] M') (h0 : ∀ k i M', allP x len tok T 82 t_0 0 0 = .inl (k, i) → q_fs lDq fDq M M' → g_rb M' x len tok T k i → ∀ u, q_G q_mt (L, xs, q_shp) E nX12_meet (d + 10) 0 0 (q_Q (L, xs, q_shp) E Q) 75 [some (.ref 271), some (.int (u))] [] M') : ∀ u, u = nI 0 → q_G q_mt (L, xs, q_shp) E nX12_meet (d + 10) 0 0 (q_Q (L, xs, q_shp) E Q) 6 [some (.ref 271), some (.int (u))] [] M := by
  have hT := g.tt
  -- behind a fault
  have bad56 : ∀ k i M', allP x len tok T 82 t_0 0 0 = .inl (k, i) → q_fs lDq fDq M M' → g_rb M' x len tok T k i → ∀ u, q_G q_mt (L, xs, q_shp) E nX12_meet (d + 10) 0 0 (q_Q (L, xs, q_shp) E Q) 56 [some (.ref 271), some (.int (u))] [] M' := by
    intro k i M' e hf g' u
    refine w_at 90 [6, 30, 56, 75, 86, 113] ?_
    exact k_isFine0 g'.2.2.2.1 g'.2.1 (br_t (by decide) (h0 k i M' e hf g' u))
  have bad30 : ∀ k i M', allP x len tok T 82 t_0 0 0 = .inl (k, i) → q_fs lDq fDq M M' → g_rb M' x len tok T k i → ∀ u, q_G q_mt (L, xs, q_shp) E nX12_meet (d + 10) 0 0 (q_Q (L, xs, q_shp) E Q) 30 [some (.ref 271), some (.int (u))] [] M' := by
    intro k i M' e hf g' u
    refine w_at 90 [6, 30, 56, 75, 86, 113] ?_
    exact k_isFine0 g'.2.2.2.1 g'.2.1 (br_t (by decide) (bad56 k i M' e hf g' u))
  have main : ∀ f n i t M', allP x len tok T 82 t_0 0 0 = allP x len tok T f t i n → f + n = 82 → 0 < n → bD t i → 1 ≤ t 0 0 → q_fs lDq fDq M M' → g_rt M' x len tok T i → dR M' t → M'.1 279 7 = nI n → n ≤ 80 → ∀ u, q_G q_mt (L, xs, q_shp) E nX12_meet (d + 10) 0 0 (q_Q (L, xs, q_shp) E Q) 30 [some (.ref 271), some (.int (u))] [] M' := by
    intro f
    induction f with
    | zero =>
      intro n i t M' er hn _ _ _ _ _ _ _ h80
      omega
    | succ f ih =>
      intro n i t M' er hfn np b r1 hf g' dr e7 h80 u
      have er : allP x len tok T 82 t_0 0 0 = (if n = 0 ∨ ¬ (tok i).1 = 0 then bd (stmP t x len tok T i n) (fun t' j => allP x len tok T f t' j (n + 1)) else if whP t then .inr ((t, n), i) else .inl (5, i)) := er
      have b5 := b.1.2.2.2.1
      have b11 : ∀ s, s < 36 → t 11 s ≤ 10 := fun s hs => by have := b.2.2.2.2.1.1 s hs; omega
      have i12 := g'.i12
      refine w_at 90 [6, 30, 56, 75, 86, 113] ?_
      refine k_isFine1 g'.2.2.2.1 (br_f (by decide) ?_)
      refine ⟨_, g'.2.2.1, ?_⟩
      by_cases z : (tok i).1 = 0
      · have e3 : M'.1 273 i = Int32.ofInt 0 := g'.k.2.1 z
        rw [if_neg (show ¬ (n = 0 ∨ ¬ (tok i).1 = 0) by omega)] at er
        refine ⟨i, _, by (first | assumption | (simp only [z_nat, z_lit, ← Int32.ofInt_add, ← Int32.ofInt_sub, ← Int32.ofInt_mul]; exact congrArg Int32.ofInt (by omega)) | (simp only [z_nat, z_lit, ← Int32.ofInt_add, ← Int32.ofInt_sub, ← Int32.ofInt_mul]; done) | exact congrArg Int32.ofInt (by omega) | rfl), by (dsimp only; omega), e3, ?_⟩
        refine br_t (by decide) ?_
        refine w_at 90 [6, 30, 56, 75, 86, 113] ?_
        refine k_isFine1 g'.2.2.2.1 (br_f (by decide) ?_)
        refine k_isWhole dr b.1 b11 (fun w => bn_t (by decide) (h1 t n i M' (er.trans (if_pos w)) hf g' dr e7 u)) (fun w => bn_f rfl ?_)
        exact k_wrongs g' 5 (by omega) (fun M2 hf2 g2 => h0 5 i M2 (er.trans (if_neg w)) (hf.tr hf2.mono) g2 u)
      · obtain ⟨v, hv, e3⟩ := g'.v3 z
        rw [if_pos (Or.inr z)] at er
        refine ⟨i, _, by (first | assumption | (simp only [z_nat, z_lit, ← Int32.ofInt_add, ← Int32.ofInt_sub, ← Int32.ofInt_mul]; exact congrArg Int32.ofInt (by omega)) | (simp only [z_nat, z_lit, ← Int32.ofInt_add, ← Int32.ofInt_sub, ← Int32.ofInt_mul]; done) | exact congrArg Int32.ofInt (by omega) | rfl), by (dsimp only; omega), e3, ?_⟩
        refine z_eq v 0 (fun y => by omega) (fun _ => ?_)
        refine k_readsStatement g' dr b e7 h80 (fun y => by omega) (fun t1 j M2 es hf2 g2 d2 e72 => ?_) (fun k j M2 es hf2 g2 => ?_)
        · obtain ⟨s1, s2, s3, s4⟩ := stm_bd hT es b (fun y => by omega) (fun _ => r1)
          exact ih (n + 1) j t1 M2 (er.trans (bd_ok es)) (by omega) (by omega) s1 s3 (hf.tr hf2) g2 d2 e72 (by omega) u
        · exact bad30 k j M2 (er.trans (bd_no es)) (hf.tr hf2) g2 u
  have W := lp_m (W := fun i M' => ∀ v, v = nI i → q_G q_mt (L, xs, q_shp) E nX12_meet (d + 10) 0 0 (q_Q (L, xs, q_shp) E Q) 6 [some (.ref 271), some (.int (v))] [] M') (J := fun i M' => q_fs [279] [] M M' ∧ ∀ k, k < i → M'.1 279 k = nI 0) 1685 ?_ ?_ 0 M (Nat.zero_le _) ⟨q_fs.rf, fun k hk => absurd hk (Nat.not_lt_zero _)⟩
  · exact W
  · rintro M' ⟨hf, hm⟩ v rfl
    have g' := g.fs hf
    have e7 := hm 7 (by omega)
    have er : allP x len tok T 82 t_0 0 0 = bd (stmP t_0 x len tok T 0 0) (fun t' j => allP x len tok T 81 t' j (0 + 1)) := if_pos (Or.inl rfl)
    refine w_at 90 [6, 30, 56, 75, 86, 113] ?_
    refine z_le 1685 ((1685 : Nat) : Int) (fun _ => ?_) (fun h => by omega)
    refine k_readsStatement (n := 0) g' (dR_0 hm) bD_0 e7 (by omega) (fun _ => rfl) (fun t1 j M2 es hf2 g2 d2 e72 => ?_) (fun k j M2 es hf2 g2 => ?_)
    · obtain ⟨s1, s2, s3, s4⟩ := stm_bd hT es bD_0 (fun _ => rfl) (fun y => absurd y (Nat.not_lt_zero _))
      exact main 81 1 j t1 M2 (er.trans (bd_ok es)) (by omega) (by omega) s1 s3 (hf.mono.tr hf2) g2 d2 e72 (by omega) _
    · exact bad30 k j M2 (er.trans (bd_no es)) (hf.mono.tr hf2) g2 _
  · rintro i M' hi ⟨hf, hm⟩ ih v rfl
    refine w_at 90 [6, 30, 56, 75, 86, 113] ?_
    refine z_le 1685 (i : Int) (fun h => by omega) (fun _ => ?_)
    refine ⟨i, _, by (first | assumption | (simp only [z_nat, z_lit, ← Int32.ofInt_add, ← Int32.ofInt_sub, ← Int32.ofInt_mul]; exact congrArg Int32.ofInt (by omega)) | (simp only [z_nat, z_lit, ← Int32.ofInt_add, ← Int32.ofInt_sub, ← Int32.ofInt_mul]; done) | exact congrArg Int32.ofInt (by omega) | rfl), by (dsimp only; omega), rfl, ?_⟩
    refine ih _ ⟨hf.s1, fun k hk => ?_⟩ _ (by (first | assumption | (simp only [z_nat, z_lit, ← Int32.ofInt_add, ← Int32.ofInt_sub, ← Int32.ofInt_mul]; exact congrArg Int32.ofInt (by omega)) | (simp only [z_nat, z_lit, ← Int32.ofInt_add, ← Int32.ofInt_sub, ← Int32.ofInt_mul]; done) | exact congrArg Int32.ofInt (by omega) | rfl))
    by_cases q : k = i
    · rw [q, q_si_s]
      rfl
    · rw [q_si_n q]
      exact hm k (by omega)
end AR
