/-! how the reference reads an act -/
section SE
variable {L : Nat} {xs : Nat → Int32} {E : q_E} {d : Nat} {M : q_M} {t : q_T} {n : sN} {Q : Option Value → q_M → Prop} {P : q_M → Prop}
variable {x : Nat → Nat} {len : Nat} {tok : Nat → Tok} {T : Nat}
theorem kR.a {k : Nat} (hT : g_T x len tok T) (h : kR M x len k (tok k)) : ∃ a : Int, (0 ≤ a ∧ a ≤ 4) ∧ M.1 273 k = Int32.ofInt a ∧ (a = 2 ↔ (tok k).1 = 3) ∧ (a = 0 ↔ (tok k).1 = 0) ∧ (a = 3 ↔ ((tok k).1 = 4 ∧ isSg (tok k).2 = true)) := by
  obtain ⟨r4, r0, r1, r2, r3, rs, r5⟩ := h
  have k5 := hT.k5 k
  obtain h | h | h | h | h | h : (tok k).1 = 0 ∨ (tok k).1 = 1 ∨ (tok k).1 = 2 ∨ (tok k).1 = 3 ∨ (tok k).1 = 4 ∨ (tok k).1 = 5 := by omega
  · exact ⟨0, by omega, r0 h, by omega, by omega, by omega⟩
  · exact ⟨1, by omega, (r1 h).1, by omega, by omega, by omega⟩
  · exact ⟨1, by omega, (r2 h).1, by omega, by omega, by omega⟩
  · exact ⟨2, by omega, (r3 h).1, by omega, by omega, by omega⟩
  · by_cases q : isSg (tok k).2 = true
    · exact ⟨3, by omega, by rw [(rs h).1, if_pos q], by omega, by omega, ⟨fun _ => ⟨h, q⟩, fun _ => rfl⟩⟩
    · exact ⟨4, by omega, by rw [(rs h).1, if_neg q], by omega, by omega, ⟨fun z => by omega, fun z => absurd z.2 q⟩⟩
  · rcases r5 h with e | ⟨e1, e2, e3⟩
    · exact ⟨4, by omega, e, by omega, by omega, by omega⟩
    · exact ⟨1, by omega, e1, by omega, by omega, by omega⟩
set_option maxRecDepth 100000 in
set_option maxHeartbeats 4000000 in
theorem k_actHere {i : Nat} (g : g_rt M x len tok T i) (h1 : ∀ w, tok i = (1, 26 + w) → w < 8 → Q (some (.int (nI w))) M) (h0 : ¬ isA tok i → Q (some (.int (Int32.ofInt (-1)))) M) : q_C q_mt (L, xs, q_shp) E nX12_actHere (d + 1) 0 0 [.ref 271] M Q := by
  refine w_in 90 [] ?_
  refine k_isWordHere g 26 (by omega) (by decide +kernel) (fun e => br_f (by decide) ⟨_, rfl, h1 0 e (by omega)⟩) (fun e0 => br_t (by decide) ?_)
  refine k_isWordHere g 27 (by omega) (by decide +kernel) (fun e => br_f (by decide) ⟨_, rfl, h1 1 e (by omega)⟩) (fun e1 => br_t (by decide) ?_)
  refine k_isWordHere g 28 (by omega) (by decide +kernel) (fun e => br_f (by decide) ⟨_, rfl, h1 2 e (by omega)⟩) (fun e2 => br_t (by decide) ?_)
  refine k_isWordHere g 29 (by omega) (by decide +kernel) (fun e => br_f (by decide) ⟨_, rfl, h1 3 e (by omega)⟩) (fun e3 => br_t (by decide) ?_)
  refine k_isWordHere g 30 (by omega) (by decide +kernel) (fun e => br_f (by decide) ⟨_, rfl, h1 4 e (by omega)⟩) (fun e4 => br_t (by decide) ?_)
  refine k_isWordHere g 31 (by omega) (by decide +kernel) (fun e => br_f (by decide) ⟨_, rfl, h1 5 e (by omega)⟩) (fun e5 => br_t (by decide) ?_)
  refine k_isWordHere g 32 (by omega) (by decide +kernel) (fun e => br_f (by decide) ⟨_, rfl, h1 6 e (by omega)⟩) (fun e6 => br_t (by decide) ?_)
  refine k_isWordHere g 33 (by omega) (by decide +kernel) (fun e => br_f (by decide) ⟨_, rfl, h1 7 e (by omega)⟩) (fun e7 => br_t (by decide) ⟨_, rfl, h0 ?_⟩)
  rintro ⟨z1, z2, z3⟩
  have z := tk_pr z1
  obtain hw | hw | hw | hw | hw | hw | hw | hw : (tok i).2 = 26 ∨ (tok i).2 = 27 ∨ (tok i).2 = 28 ∨ (tok i).2 = 29 ∨ (tok i).2 = 30 ∨ (tok i).2 = 31 ∨ (tok i).2 = 32 ∨ (tok i).2 = 33 := by omega
  all_goals rw [hw] at z
  · exact e0 z
  · exact e1 z
  · exact e2 z
  · exact e3 z
  · exact e4 z
  · exact e5 z
  · exact e6 z
  · exact e7 z
set_option maxRecDepth 100000 in
set_option maxHeartbeats 4000000 in
theorem k_readsAwards {i s : Nat} (g : g_rt M x len tok T i) (hs : M.1 271 45 = nI s) (h60 : s < 60) (h1 : ∀ v j M', mkP tok 11 i = .inr (v, j) → q_fs [298] fHr M M' → g_rt M' x len tok T j → (∀ k, k < 11 * s → M'.1 298 k = M.1 298 k) → (∀ p, p < v → M'.1 298 (11 * s + p) = nI (tok (i + p)).2) → Q (some (.int (nI v))) M') (h0 : ∀ k j M' r, mkP tok 11 i = .inl (k, j) → q_fs [298] fHr M M' → g_rb M' x len tok T k j → Q (some (.int r)) M') : q_C q_mt (L, xs, q_shp) E nX12_readsAwards (d + 4) 0 0 [.ref 271] M Q := by
  -- behind a fault
  have bad : ∀ k j M', mkP tok 11 i = .inl (k, j) → q_fs [298] fHr M M' → g_rb M' x len tok T k j → ∀ l1 l2 l3 l4, q_G q_mt (L, xs, q_shp) E nX12_readsAwards (d + 4) 0 0 (q_Q (L, xs, q_shp) E Q) 4 [some (.ref 271), some (.int (l1)), some (.int (l2)), l3, l4] [] M' := by
    intro k j M' em hf g' l1 l2 l3 l4
    refine w_at 90 [4] ?_
    refine ⟨fun _ => ⟨_, rfl, h0 k j M' l1 em hf g'⟩, fun _ => ?_⟩
    exact k_isFine0 g'.2.2.2.1 g'.2.1 (br_t (by decide) ⟨_, rfl, h0 k j M' l1 em hf g'⟩)
  have bad98 : ∀ k j M', mkP tok 11 i = .inl (k, j) → q_fs [298] fHr M M' → g_rb M' x len tok T k j → ∀ l1 l2 l3 l4, q_G q_mt (L, xs, q_shp) E nX12_readsAwards (d + 4) 0 0 (q_Q (L, xs, q_shp) E Q) 98 [some (.ref 271), some (.int (l1)), l2, l3, l4] [] M' := by
    intro k j M' em hf g' l1 l2 l3 l4
    obtain ⟨h, h8, h12⟩ := g'.2.2.1
    refine w_at 90 [4, 98] ?_
    refine ⟨_, h8, ?_⟩
    refine ⟨h, _, by (first | assumption | (simp only [z_nat, z_lit, ← Int32.ofInt_add, ← Int32.ofInt_sub, ← Int32.ofInt_mul]; exact congrArg Int32.ofInt (by omega)) | (simp only [z_nat, z_lit, ← Int32.ofInt_add, ← Int32.ofInt_sub, ← Int32.ofInt_mul]; done) | exact congrArg Int32.ofInt (by omega) | rfl), by (dsimp only; omega), rfl, ?_⟩
    exact ⟨fun _ => bad k j M' em hf g' _ _ _ _, fun _ => bad k j M' em hf g' _ _ _ _⟩
  -- a number that is none, or one that can't be
  have bad63 : ∀ k j M', numP tok j 0 20 = .inl (k, j) → mkP tok 11 i = .inl (k, j) → q_fs [298] fHr M M' → g_rt M' x len tok T j → ∀ l1 l2 l3 l4, q_G q_mt (L, xs, q_shp) E nX12_readsAwards (d + 4) 0 0 (q_Q (L, xs, q_shp) E Q) 63 [some (.ref 271), some (.int (l1)), l2, some (.int (l3)), l4] [] M' := by
    intro k j M' en em hf g' l1 l2 l3 l4
    refine w_at 90 [4, 63, 98] ?_
    refine k_numberHere g' 0 20 (by omega) (by omega) (fun v nv ev hv M2 hf2 g2 => by rw [en] at nv; cases nv) (fun k' nk hk M2 hf2 g2 => ?_)
    rw [en] at nk
    cases nk
    refine k_isFine0 g2.2.2.2.1 g2.2.1 ?_
    refine ⟨fun _ => ?_, fun z => absurd rfl z⟩
    exact bad98 k j M2 em (hf.tr hf2.mono) g2 _ _ _ _
  have main : ∀ f c M', c + f = 11 → ((c = 11 → (tok (i + 11)).1 = 3 ∧ mkP tok 11 i = .inl (if (tok (i + 11)).2 ≤ 20 then 4 else 2, i + 11)) ∧ (c ≤ 10 → mkP tok 11 i = mkP tok f (i + c))) → q_fs [298] fHr M M' → g_rt M' x len tok T (i + c) → (∀ k, k < 11 * s → M'.1 298 k = M.1 298 k) → (∀ p, p < c → M'.1 298 (11 * s + p) = nI (tok (i + p)).2) → ∀ u u2 l3 l4, u = nI c → u2 = Int32.ofInt 1 → q_G q_mt (L, xs, q_shp) E nX12_readsAwards (d + 4) 0 0 (q_Q (L, xs, q_shp) E Q) 4 [some (.ref 271), some (.int (u)), some (.int (u2)), l3, l4] [] M' := by
    intro f
    induction f with
    | zero =>
      rintro c M' hc ⟨hm, _⟩ hf g' hold ha u u2 l3 l4 rfl rfl
      obtain rfl : c = 11 := by omega
      obtain ⟨m1, m2⟩ := hm rfl
      have i12 := g'.i12
      have v9 := g'.tt.v9 (i + 11)
      obtain ⟨r1, r2⟩ := g'.k.2.2.2.2.1 m1
      refine w_at 90 [4, 63, 98] ?_
      refine ⟨fun z => absurd z (by decide), fun _ => ?_⟩
      refine k_isFine1 g'.2.2.2.1 (br_f (by decide) ?_)
      refine ⟨fun z => absurd rfl z, fun _ => ?_⟩
      refine ⟨_, g'.2.2.1, ?_⟩
      refine ⟨i + 11, _, by (first | assumption | (simp only [z_nat, z_lit, ← Int32.ofInt_add, ← Int32.ofInt_sub, ← Int32.ofInt_mul]; exact congrArg Int32.ofInt (by omega)) | (simp only [z_nat, z_lit, ← Int32.ofInt_add, ← Int32.ofInt_sub, ← Int32.ofInt_mul]; done) | exact congrArg Int32.ofInt (by omega) | rfl), by (dsimp only; omega), r1, ?_⟩
      refine z_ne 2 2 (fun z => absurd rfl z) (fun _ => ?_)
      refine ⟨_, g'.2.2.1, ?_⟩
      refine ⟨i + 11, _, by (first | assumption | (simp only [z_nat, z_lit, ← Int32.ofInt_add, ← Int32.ofInt_sub, ← Int32.ofInt_mul]; exact congrArg Int32.ofInt (by omega)) | (simp only [z_nat, z_lit, ← Int32.ofInt_add, ← Int32.ofInt_sub, ← Int32.ofInt_mul]; done) | exact congrArg Int32.ofInt (by omega) | rfl), by (dsimp only; omega), r2, ?_⟩
      refine z_lt 20 ((tok (i + 11)).2 : Int) (fun z => ?_) (fun z => ?_)
      · rw [if_neg (by omega)] at m2
        refine ⟨fun _ => ?_, fun z => absurd rfl z⟩
        exact bad63 2 _ M' (by unfold numP; rw [if_pos m1, if_neg (by omega)]) m2 hf g' _ _ _ _
      · rw [if_pos (by omega)] at m2
        refine ⟨fun z => absurd z (by decide), fun _ => ?_⟩
        refine k_wrongs g' 4 (by omega) (fun M2 hf2 g2 => ?_)
        refine w_at 90 [4, 63, 98] ?_
        refine k_numberHere0 g2 ?_
        refine k_isFine0 g2.2.2.2.1 g2.2.1 (br_t (by decide) ?_)
        exact bad98 4 _ M2 m2 (hf.tr hf2.mono) g2 _ _ _ _
    | succ f ih =>
      rintro c M' hc ⟨_, hm⟩ hf g' hold ha u u2 l3 l4 rfl rfl
      have hm := hm (by omega)
      refine w_at 90 [4, 63, 98] ?_
      refine ⟨fun z => absurd z (by decide), fun _ => ?_⟩
      refine k_isFine1 g'.2.2.2.1 (br_f (by decide) ?_)
      refine z_ne (c : Int) 11 (fun _ => ?_) (fun z => by omega)
      refine ⟨fun _ => ?_, fun z => absurd rfl z⟩
      rcases hn : numP tok (i + c) 0 20 with ⟨k, j⟩ | ⟨v, j⟩
      · obtain ⟨n1, n2, n3, n4⟩ := numP_f hn
        subst n1
        refine bad63 k _ M' hn ?_ hf g' _ _ _ _
        rw [hm]
        show (if (tok (i + c)).1 = 3 then _ else _) = _
        rcases n2 with rfl | rfl
        · rw [if_neg (n3 rfl)]
        · have := n4 rfl
          rw [if_pos this.1, if_neg (by omega)]
      · obtain ⟨n1, n2, n3, n4, n5⟩ := numP_t hn
        refine w_at 90 [4, 63, 98] ?_
        refine k_numberHere g' 0 20 (by omega) (by omega) (fun v' nv ev hv M2 hf2 g2 => ?_) (fun k' nk hk M2 hf2 g2 => by rw [hn] at nk; cases nk)
        rw [hn] at nv
        cases nv
        have f2 : q_fs [298] fHr M M2 := hf.tr hf2.mono
        have e45 : M2.1 271 45 = nI s := (f2.p1 271 45).trans hs
        refine k_isFine1 g2.2.2.2.1 (br_f (by decide) ?_)
        refine ⟨_, e45, ?_⟩
        refine ⟨11 * s + c, _, by (first | assumption | (simp only [z_nat, z_lit, ← Int32.ofInt_add, ← Int32.ofInt_sub, ← Int32.ofInt_mul]; exact congrArg Int32.ofInt (by omega)) | (simp only [z_nat, z_lit, ← Int32.ofInt_add, ← Int32.ofInt_sub, ← Int32.ofInt_mul]; done) | exact congrArg Int32.ofInt (by omega) | rfl), by (dsimp only; omega), rfl, ?_⟩
        have f3 : q_fs [298] fHr M (q_si M2 298 (11 * s + c) (nI v)) := f2.s1
        have g3 : g_rt (q_si M2 298 (11 * s + c) (nI v)) x len tok T (i + c + 1) := g2.fs (show q_fs [298] [] M2 _ from q_fs.rf.s1)
        have hold3 : ∀ k, k < 11 * s → (q_si M2 298 (11 * s + c) (nI v)).1 298 k = M.1 298 k := fun k hk => (q_si_n (by omega)).trans ((hf2.p1 298 k).trans (hold k hk))
        have ha3 : ∀ p, p < c + 1 → (q_si M2 298 (11 * s + c) (nI v)).1 298 (11 * s + p) = nI (tok (i + p)).2 := fun p hp => by
          by_cases q : p = c
          · subst q
            rw [q_si_s, n2]
          · rw [q_si_n (by omega)]
            exact (hf2.p1 298 _).trans (ha p (by omega))
        have em : mkP tok 11 i = if (tok (i + c + 1)).1 = 3 then (if f = 0 then .inl (if (tok (i + c + 1)).2 ≤ 20 then 4 else 2, i + c + 1) else mkP tok f (i + c + 1)) else .inr (11 - f, i + c + 1) := hm.trans (mkP_s n1 (by omega))
        have i12 := g3.i12
        obtain ⟨a, a4, ea, a2, _, _⟩ := kR.a g3.tt g3.k
        refine w_at 90 [4, 98] ?_
        refine ⟨_, g3.2.2.1, ?_⟩
        refine ⟨i + c + 1, _, by (first | assumption | (simp only [z_nat, z_lit, ← Int32.ofInt_add, ← Int32.ofInt_sub, ← Int32.ofInt_mul]; exact congrArg Int32.ofInt (by omega)) | (simp only [z_nat, z_lit, ← Int32.ofInt_add, ← Int32.ofInt_sub, ← Int32.ofInt_mul]; done) | exact congrArg Int32.ofInt (by omega) | rfl), by (dsimp only; omega), ea, ?_⟩
        refine z_ne a 2 (fun z => ?_) (fun z => ?_)
        · have z : ¬ (tok (i + c + 1)).1 = 3 := fun y => z (a2.mpr y)
          rw [if_neg z, show 11 - f = c + 1 by omega] at em
          refine w_at 90 [4] ?_
          refine ⟨fun _ => ⟨nI (c + 1), by (first | assumption | (simp only [z_nat, z_lit, ← Int32.ofInt_add, ← Int32.ofInt_sub, ← Int32.ofInt_mul]; exact congrArg Int32.ofInt (by omega)) | (simp only [z_nat, z_lit, ← Int32.ofInt_add, ← Int32.ofInt_sub, ← Int32.ofInt_mul]; done) | exact congrArg Int32.ofInt (by omega) | rfl), h1 (c + 1) _ _ em f3 g3 hold3 ha3⟩, fun z => absurd rfl z⟩
        · have z := a2.mp z
          rw [if_pos z] at em
          refine ih (c + 1) _ (by omega) ⟨fun hc2 => ?_, fun hc2 => ?_⟩ f3 g3 hold3 ha3 _ _ _ _ (by (first | assumption | (simp only [z_nat, z_lit, ← Int32.ofInt_add, ← Int32.ofInt_sub, ← Int32.ofInt_mul]; exact congrArg Int32.ofInt (by omega)) | (simp only [z_nat, z_lit, ← Int32.ofInt_add, ← Int32.ofInt_sub, ← Int32.ofInt_mul]; done) | exact congrArg Int32.ofInt (by omega) | rfl)) rfl
          · obtain rfl : c = 10 := by omega
            rw [if_pos (show f = 0 by omega)] at em
            exact ⟨z, em⟩
          · rw [if_neg (by omega)] at em
            exact em
  refine w_in 90 [4] ?_
  exact main 11 0 M (by omega) ⟨fun z => by omega, fun _ => rfl⟩ q_fs.rf g (fun _ _ => rfl) (fun p hp => by omega) _ _ _ _ rfl rfl
end SE
