/-! laws of the class over lists; the calls law, breaks -/
def c_mt (a : Nat) : Bool := c_rng 6 8 a || c_rng 10 11 a || c_rng 13 14 a || c_rng 16 17 a || c_rng 21 23 a
theorem r_C.f3 {l : List Nat} {f : List (Nat × Nat)} {M M' : q_M} {t : q_T} (h : r_C 6 M t) (hf : q_fs l f M M') (o : (l.all (fun a => !(c_mt a)) && f.all (fun q => !(c_mt q.1))) = true := by exact rfl) : r_C 6 M' t := by
  have k : ∀ r, c_mt r = true → M'.1 r = M.1 r := fun r hr => hf.c1 r (q_out o hr)
  unfold r_C at h ⊢
  rw [k 6 rfl, show M'.1 (6 + 1) = M.1 (6 + 1) from k 7 rfl, show M'.1 (6 + 2) = M.1 (6 + 2) from k 8 rfl, show M'.1 (6 + 4) = M.1 (6 + 4) from k 10 rfl, show M'.1 (6 + 5) = M.1 (6 + 5) from k 11 rfl, show M'.1 (6 + 7) = M.1 (6 + 7) from k 13 rfl, show M'.1 (6 + 8) = M.1 (6 + 8) from k 14 rfl, show M'.1 (6 + 10) = M.1 (6 + 10) from k 16 rfl, show M'.1 (6 + 11) = M.1 (6 + 11) from k 17 rfl, show M'.1 (6 + 15) = M.1 (6 + 15) from k 21 rfl, show M'.1 (6 + 16) = M.1 (6 + 16) from k 22 rfl, show M'.1 (6 + 17) = M.1 (6 + 17) from k 23 rfl]
  exact h
section L5
variable {L : Nat} {xs : Nat → Int32} {E : q_E} {d : Nat} {M : q_M} {t : q_T} {n : sN} {Q : Option Value → q_M → Prop} {P : q_M → Prop}
theorem g_Z.f3 {l : List Nat} {f : List (Nat × Nat)} {c : Nat} {M M' : q_M} {t : q_T} {n : sN} (g : g_Z c M t n) (hf : q_fs l f M M') (o : (l.all (fun a => !(c_mt a)) && f.all (fun q => !(c_mt q.1))) = true := by exact rfl) (o' : (l.all (fun a => !(c_rng c (c + 7) a)) && f.all (fun q => !(c_rng c (c + 7) q.1))) = true := by exact rfl) : g_Z c M' t n := ⟨g.R, g.C.f3 hf o, g.S.fs hf o'⟩
theorem g_A.f3 {l : List Nat} {f : List (Nat × Nat)} {c : Nat} {M M' : q_M} {t : q_T} {n : sN} (g : g_A c M t n) (hf : q_fs l f M M') (o : (l.all (fun a => !(c_mt a)) && f.all (fun q => !(c_mt q.1))) = true := by exact rfl) (o' : (l.all (fun a => !(c_rng c (c + 7) a)) && f.all (fun q => !(c_rng c (c + 7) q.1))) = true := by exact rfl) (h1 : ∀ i, q_scr l f 280 i = false := by intro i; exact rfl) (h2 : ∀ i, q_scr l f 284 i = false := by intro i; exact rfl) : g_A c M' t n := ⟨g.R.fs hf h1 h2, g.C.f3 hf o, g.S.fs hf o'⟩
set_option maxRecDepth 100000 in
set_option maxHeartbeats 4000000 in
theorem k2_gatherRound (g : g_Z 43 M t n) {a b : Int32} (e r : Nat) (he : e < t 8 0) (hr : r < t 0 0) (hQ : ∀ M', q_fs [245] [] M M' → (∀ f, f < 8 → M'.2 245 f = fcL t (stO (roE n e) r) (roE n e r) (t 9 e) f) → Q none M') (ha : a = nI e := by (first | assumption | (simp only [z_nat, z_lit, ← Int32.ofInt_add, ← Int32.ofInt_sub, ← Int32.ofInt_mul]; exact congrArg Int32.ofInt (by omega)) | (simp only [z_nat, z_lit, ← Int32.ofInt_add, ← Int32.ofInt_sub, ← Int32.ofInt_mul]; done) | exact congrArg Int32.ofInt (by omega) | rfl)) (hb : b = nI (r + 1) := by (first | assumption | (simp only [z_nat, z_lit, ← Int32.ofInt_add, ← Int32.ofInt_sub, ← Int32.ofInt_mul]; exact congrArg Int32.ofInt (by omega)) | (simp only [z_nat, z_lit, ← Int32.ofInt_add, ← Int32.ofInt_sub, ← Int32.ofInt_mul]; done) | exact congrArg Int32.ofInt (by omega) | rfl)) : q_C q_mt (L, xs, q_shp) E nX10_gatherRound (d + 2) 0 0 [.ref 244, .int (a), .int (b)] M Q := by
  subst ha hb
  have h6 := g.R.r6
  have e6 := g.R.e6
  have h10 := g.R.d10
  have be := (g.R.be he).1
  have hd := ro_d g.R he
  have hb10 : ∀ p, p < t 0 0 → roE n e p < 10 := fun p hp => by have := hd.1 p hp; omega
  have li : ∀ p, p < t 0 0 → M.1 44 (6 * e + p) = nI (roE n e p) := fun p hp => by
    have bs := (g.R.bs he hp).1
    refine (g.li he hp).trans ?_
    rw [z_nat]
    exact congrArg Int32.ofInt (by show _ = ((n (6 * e + p)).toNat : Int); omega)
  have W := lp_up (W := fun k => ∀ u v, u = nI (stO (roE n e) k) → v = nI (k + 1) → q_G q_mt (L, xs, q_shp) E nX10_gatherRound (d + 2) 0 0 (q_Q (L, xs, q_shp) E Q) 5 [some (.ref 244), some (.int (nI e)), some (.int (nI (r + 1))), some (.int (u)), some (.int (v))] [] M) r ?_ ?_ 0 (Nat.zero_le _)
  · refine w_in 90 [5] ?_
    exact W _ _ rfl rfl
  · rintro u v rfl rfl
    refine w_at 90 [5] ?_
    refine z_le ((r + 1 : Nat) : Int) ((r + 1 : Nat) : Int) (fun _ => ?_) (fun z => by omega)
    refine k2_cellOf e r ?_
    refine ⟨6 * e + r, _, by (first | assumption | (simp only [z_nat, z_lit, ← Int32.ofInt_add, ← Int32.ofInt_sub, ← Int32.ofInt_mul]; exact congrArg Int32.ofInt (by omega)) | (simp only [z_nat, z_lit, ← Int32.ofInt_add, ← Int32.ofInt_sub, ← Int32.ofInt_mul]; done) | exact congrArg Int32.ofInt (by omega) | rfl), by (dsimp only; omega), li r hr, ?_⟩
    refine ⟨e, _, by (first | assumption | (simp only [z_nat, z_lit, ← Int32.ofInt_add, ← Int32.ofInt_sub, ← Int32.ofInt_mul]; exact congrArg Int32.ofInt (by omega)) | (simp only [z_nat, z_lit, ← Int32.ofInt_add, ← Int32.ofInt_sub, ← Int32.ofInt_mul]; done) | exact congrArg Int32.ofInt (by omega) | rfl), by (dsimp only; omega), (g.en he).1, ?_⟩
    exact k2_gather g (stO (roE n e) r) (roE n e r) (t 9 e) (stO_b (fun p hp => hb10 p (by omega))) (hd.1 r hr) be (fun M' hf hm => hQ M' hf hm)
  · rintro k hk ih u v rfl rfl
    refine w_at 90 [5] ?_
    refine z_le ((r + 1 : Nat) : Int) ((k + 1 : Nat) : Int) (fun z => by omega) (fun _ => ?_)
    refine k2_cellOf e k ?_
    refine ⟨6 * e + k, _, by (first | assumption | (simp only [z_nat, z_lit, ← Int32.ofInt_add, ← Int32.ofInt_sub, ← Int32.ofInt_mul]; exact congrArg Int32.ofInt (by omega)) | (simp only [z_nat, z_lit, ← Int32.ofInt_add, ← Int32.ofInt_sub, ← Int32.ofInt_mul]; done) | exact congrArg Int32.ofInt (by omega) | rfl), by (dsimp only; omega), li k (by omega), ?_⟩
    exact ih _ _ (or_nI (stO_b (fun p hp => hb10 p (by omega))) (hb10 k (by omega))) (by (first | assumption | (simp only [z_nat, z_lit, ← Int32.ofInt_add, ← Int32.ofInt_sub, ← Int32.ofInt_mul]; exact congrArg Int32.ofInt (by omega)) | (simp only [z_nat, z_lit, ← Int32.ofInt_add, ← Int32.ofInt_sub, ← Int32.ofInt_mul]; done) | exact congrArg Int32.ofInt (by omega) | rfl))
set_option maxRecDepth 100000 in
set_option maxHeartbeats 4000000 in
theorem k2_findBrokenLaw (g : g_Z 43 M t n) (wl : g_W M t) (bl : b_L t) {a b : Int32} (e r : Nat) (he : e < t 8 0) (hr : r < t 0 0) (h1 : ∀ M' l, q_fs [20, 245] [] M M' → isBk t (stO (roE n e) r) (roE n e r) (t 9 e) l → Q (some (.int (nI l))) M') (h0 : ∀ M', q_fs [20, 245] [] M M' → obey t (stO (roE n e) r) (roE n e r) (t 9 e) → Q (some (.int (Int32.ofInt (-1)))) M') (ha : a = nI e := by (first | assumption | (simp only [z_nat, z_lit, ← Int32.ofInt_add, ← Int32.ofInt_sub, ← Int32.ofInt_mul]; exact congrArg Int32.ofInt (by omega)) | (simp only [z_nat, z_lit, ← Int32.ofInt_add, ← Int32.ofInt_sub, ← Int32.ofInt_mul]; done) | exact congrArg Int32.ofInt (by omega) | rfl)) (hb : b = nI (r + 1) := by (first | assumption | (simp only [z_nat, z_lit, ← Int32.ofInt_add, ← Int32.ofInt_sub, ← Int32.ofInt_mul]; exact congrArg Int32.ofInt (by omega)) | (simp only [z_nat, z_lit, ← Int32.ofInt_add, ← Int32.ofInt_sub, ← Int32.ofInt_mul]; done) | exact congrArg Int32.ofInt (by omega) | rfl)) : q_C q_mt (L, xs, q_shp) E nX10_findBrokenLaw (d + 3) 0 0 [.ref 244, .int (a), .int (b)] M Q := by
  subst ha hb
  have l6 := bl.1
  refine w_in 90 [8] ?_
  refine k2_gatherRound g e r he hr (fun M1 hf1 hm1 => ?_)
  have W := lp_m (W := fun l M' => ∀ v, v = nI l → q_G q_mt (L, xs, q_shp) E nX10_findBrokenLaw (d + 3) 0 0 (q_Q (L, xs, q_shp) E Q) 8 [some (.ref 244), some (.int (nI e)), some (.int (nI (r + 1))), some (.int (v))] [] M') (J := fun l M' => q_fs [20] [] M1 M' ∧ ∀ i, i < l → lwS t i (stO (roE n e) r) (roE n e r) (t 9 e) = true) (t 17 0) ?_ ?_ 0 M1 (Nat.zero_le _) ⟨q_fs.rf, fun i hi => absurd hi (Nat.not_lt_zero _)⟩
  · exact W _ rfl
  · rintro M' ⟨hf, hm⟩ v rfl
    have w' := (wl.fs hf1).fs hf
    refine w_at 90 [8] ?_
    refine ⟨_, w'.1, ?_⟩
    exact z_le (t 17 0) (t 17 0) (fun _ => ⟨_, rfl, h0 M' (hf1.mono.tr hf.mono) hm⟩) (fun z => by omega)
  · rintro l M' hl ⟨hf, hm⟩ ih v rfl
    have w' := (wl.fs hf1).fs hf
    refine w_at 90 [8] ?_
    refine ⟨_, w'.1, ?_⟩
    refine z_le (t 17 0) (l : Int) (fun z => by omega) (fun _ => ?_)
    refine k2_isSoL w' bl (F := fcL t (stO (roE n e) r) (roE n e r) (t 9 e)) (fun f hf' => by rw [hf.c2 245]; exact hm1 f hf') l hl (fun M2 hf2 hs => bn_t (by decide) ?_) (fun M2 hf2 hs => bn_f (by decide) ⟨_, rfl, h1 M2 l ((hf1.mono.tr hf.mono).tr hf2.mono) ⟨hl, hs, hm⟩⟩)
    refine ih M2 ⟨hf.tr hf2, fun i hi => ?_⟩ _ (by (first | assumption | (simp only [z_nat, z_lit, ← Int32.ofInt_add, ← Int32.ofInt_sub, ← Int32.ofInt_mul]; exact congrArg Int32.ofInt (by omega)) | (simp only [z_nat, z_lit, ← Int32.ofInt_add, ← Int32.ofInt_sub, ← Int32.ofInt_mul]; done) | exact congrArg Int32.ofInt (by omega) | rfl))
    by_cases z : i = l
    · rw [z]
      exact hs
    · exact hm i (by omega)
set_option maxRecDepth 100000 in
set_option maxHeartbeats 4000000 in
theorem k2_findBreak (g : g_Z 43 M t n) (wl : g_W M t) (bl : b_L t) {a : Int32} (e : Nat) (he : e < t 8 0) (h1 : ∀ M' p, q_fs [20, 245] [] M M' → isFb t (roE n e) (t 9 e) p → Q (some (.int (nI (p + 1)))) M') (h0 : ∀ M', q_fs [20, 245] [] M M' → allOb t (roE n e) (t 9 e) → Q (some (.int (Int32.ofInt 0))) M') (ha : a = nI e := by (first | assumption | (simp only [z_nat, z_lit, ← Int32.ofInt_add, ← Int32.ofInt_sub, ← Int32.ofInt_mul]; exact congrArg Int32.ofInt (by omega)) | (simp only [z_nat, z_lit, ← Int32.ofInt_add, ← Int32.ofInt_sub, ← Int32.ofInt_mul]; done) | exact congrArg Int32.ofInt (by omega) | rfl)) : q_C q_mt (L, xs, q_shp) E nX10_findBreak (d + 4) 0 0 [.ref 244, .int (a)] M Q := by
  subst ha
  have h6 := g.R.r6
  have l6 := bl.1
  have W := lp_m (W := fun p M' => ∀ v, v = nI (p + 1) → q_G q_mt (L, xs, q_shp) E nX10_findBreak (d + 4) 0 0 (q_Q (L, xs, q_shp) E Q) 2 [some (.ref 244), some (.int (nI e)), some (.int (v))] [] M') (J := fun p M' => q_fs [20, 245] [] M M' ∧ ∀ i, i < p → obey t (stO (roE n e) i) (roE n e i) (t 9 e)) (t 0 0) ?_ ?_ 0 M (Nat.zero_le _) ⟨q_fs.rf, fun i hi => absurd hi (Nat.not_lt_zero _)⟩
  · refine w_in 90 [2] ?_
    exact W _ rfl
  · rintro M' ⟨hf, hm⟩ v rfl
    have g' := g.f3 hf
    refine w_at 90 [2] ?_
    refine ⟨_, g'.ro, ?_⟩
    exact z_lt (t 0 0) ((t 0 0 + 1 : Nat) : Int) (fun _ => ⟨_, rfl, h0 M' hf hm⟩) (fun z => by omega)
  · rintro p M' hp ⟨hf, hm⟩ ih v rfl
    have g' := g.f3 hf
    refine w_at 90 [2] ?_
    refine ⟨_, g'.ro, ?_⟩
    refine z_lt (t 0 0) ((p + 1 : Nat) : Int) (fun z => by omega) (fun _ => ?_)
    refine k2_findBrokenLaw g' (wl.fs hf) bl e p he hp (fun M2 l hf2 hs => ?_) (fun M2 hf2 hs => ?_)
    · have := hs.1
      exact z_eq (l : Int) (-1) (fun z => by omega) (fun _ => ⟨_, rfl, h1 M2 p (hf.tr hf2) ⟨hp, hs.no, hm⟩⟩)
    · refine z_eq (-1) (-1) (fun _ => ?_) (fun z => absurd rfl z)
      refine ih M2 ⟨hf.tr hf2, fun i hi => ?_⟩ _ (by (first | assumption | (simp only [z_nat, z_lit, ← Int32.ofInt_add, ← Int32.ofInt_sub, ← Int32.ofInt_mul]; exact congrArg Int32.ofInt (by omega)) | (simp only [z_nat, z_lit, ← Int32.ofInt_add, ← Int32.ofInt_sub, ← Int32.ofInt_mul]; done) | exact congrArg Int32.ofInt (by omega) | rfl))
      by_cases z : i = p
      · rw [z]
        exact hs
      · exact hm i (by omega)
theorem isBk.un {S x pr l l' : Nat} (h : isBk t S x pr l) (h' : isBk t S x pr l') : l = l' := by
  rcases Nat.lt_trichotomy l l' with z | z | z
  · have := h'.2.2 l z
    rw [h.2.1] at this
    cases this
  · exact z
  · have := h.2.2 l' z
    rw [h'.2.1] at this
    cases this
theorem isFb.un {row : Nat → Nat} {pr p p' : Nat} (h : isFb t row pr p) (h' : isFb t row pr p') : p = p' := by
  rcases Nat.lt_trichotomy p p' with z | z | z
  · exact absurd (h'.2.2 p z) h.2.1
  · exact z
  · exact absurd (h.2.2 p' z) h'.2.1
abbrev lQ : List Nat := [20, 245, 289, 290]
set_option maxRecDepth 100000 in
set_option maxHeartbeats 4000000 in
theorem o_law {a b c : Int32} (g : g_A 43 M t n) (wl : g_W M t) (bl : b_L t) (hP : ∀ M', q_fs lQ [] M M' → P M') : zOp L xs E nX11_law nX12_law (d + 10) [.int a, .int b, .int c] M P := by
  obtain ⟨w, hw, rfl⟩ := z_of a
  have l6 := bl.1
  have h6 := g.R.r6
  by_cases q : (0 ≤ w ∧ w < t 17 0) ∧ aCell t b c
  · obtain ⟨hl, e, r, he, hr, rfl, rfl⟩ := q
    obtain ⟨l, rfl⟩ : ∃ l : Nat, w = l := ⟨w.toNat, by omega⟩
    have hl : l < t 17 0 := by omega
    have hd := ro_d g.R.A he
    have be := (g.R.be he).1
    have cl : ∀ Q' : Option Value → q_M → Prop, (∀ M', q_fs [20, 245] [] M M' → Q' (some (.int (if lwS t l (stO (roE n e) r) (roE n e r) (t 9 e) = true then 1 else 0))) M') → q_C q_mt (L, xs, q_shp) E nX10_isSo (d + 9) 0 0 [.ref 244, .int (Int32.ofInt l), .int (nI e), .int (nI (r + 1))] M Q' := by
      intro Q' hq
      refine w_in 90 [] ?_
      refine k2_gatherRound g.Z e r he hr (fun M1 hf1 hm1 => ?_)
      refine k2_isSoL (wl.fs hf1) bl hm1 l hl (fun M2 hf2 hs => ⟨Or.inr rfl, ?_⟩) (fun M2 hf2 hs => ⟨Or.inl rfl, ?_⟩)
      · have := hq M2 (hf1.mono.tr hf2.mono)
        rw [if_pos (show lwS t l (stO (roE n e) r) (roE n e r) (t 9 e) = true from hs)] at this
        exact this
      · have := hq M2 (hf1.mono.tr hf2.mono)
        rw [if_neg (by unfold lwS; rw [hs]; decide)] at this
        exact this
    have rf : ∀ M1, q_fs [20, 245] [] M M1 → q_C q_mt (L, xs, q_shp) E nX12_law (d + 10) 0 0 (.ref 271 :: [.int (Int32.ofInt l), .int (nI e), .int (nI (r + 1))]) M1 (fun v' M'' => v' = some (.int (if lwS t l (stO (roE n e) r) (roE n e r) (t 9 e) = true then Int32.ofInt 1 else Int32.ofInt 0)) ∧ P M'') := by
      intro M1 hf1
      have g1 : g_A 43 M1 t n := g.f3 hf1
      refine w_in 90 [] ?_
      refine ⟨5, _, by (first | assumption | (simp only [z_nat, z_lit, ← Int32.ofInt_add, ← Int32.ofInt_sub, ← Int32.ofInt_mul]; exact congrArg Int32.ofInt (by omega)) | (simp only [z_nat, z_lit, ← Int32.ofInt_add, ← Int32.ofInt_sub, ← Int32.ofInt_mul]; done) | exact congrArg Int32.ofInt (by omega) | rfl), by (dsimp only; omega), g1.R.R5, ?_⟩
      refine k_isIn (l : Int) 0 ((t 17 0 : Int) - 1) (by omega) (by omega) (by omega) (fun _ _ => br_f (by decide) ?_) (fun z => absurd ⟨by omega, by omega⟩ z)
      refine c_X12_isEntrant g1.R.1 g1.R.b (fun _ _ _ => br_f (by decide) ?_) (fun z => absurd ⟨e, he, rfl⟩ z)
      refine c_X12_isRound g1.R.1 g1.R.b (fun _ _ _ _ => bn_t (by decide) ?_) (fun z => absurd ⟨r + 1, by omega, by omega, rfl⟩ z)
      refine k_laysRow g1.R e he (fun M2 hf2 hm2 => ?_)
      have g2 := g1.R.fs hf2
      refine k_pairOf g2 e he ?_
      refine k_isSoR g2 ((wl.fs hf1).fs hf2) bl l r (t 9 e) hl (by omega) (fun p hp => hm2 p (by omega)) (hd.le (by omega)) be (fun M3 hf3 hs => br_f (by decide) ⟨_, rfl, ?_, ?_⟩) (fun M3 hf3 hs => br_t (by decide) ⟨_, rfl, ?_, ?_⟩)
      · rw [if_pos hs]
      · exact hP M3 ((hf1.mono.tr hf2.mono).tr hf3.mono)
      · rw [if_neg (by rw [hs]; decide)]
      · exact hP M3 ((hf1.mono.tr hf2.mono).tr hf3.mono)
    refine w_in 90 [] ?_
    refine z_lt (l : Int) 0 (fun z => by omega) (fun _ => ?_)
    refine ⟨_, wl.1, ?_⟩
    refine z_le (t 17 0) (l : Int) (fun z => by omega) (fun _ => ?_)
    refine k2_isCell g (fun _ => bn_t (by decide) ?_) (fun z => absurd ⟨e, r, he, hr, rfl, rfl⟩ z)
    refine cl _ (fun M1 hf1 => ?_)
    have rf1 := rf M1 hf1
    by_cases hs : lwS t l (stO (roE n e) r) (roE n e r) (t 9 e) = true
    · rw [if_pos hs]
      rw [if_pos hs] at rf1
      exact br_f (by decide) ⟨_, rfl, _, rfl, rf1⟩
    · rw [if_neg hs]
      rw [if_neg hs] at rf1
      exact br_t (by decide) ⟨_, rfl, _, rfl, rf1⟩
  · have fin : q_C q_mt (L, xs, q_shp) E nX12_law (d + 10) 0 0 (.ref 271 :: [.int (Int32.ofInt w), .int b, .int c]) M (fun v' M'' => v' = some (.int (Int32.ofInt (-1))) ∧ P M'') := by
      refine w_in 90 [] ?_
      refine ⟨5, _, by (first | assumption | (simp only [z_nat, z_lit, ← Int32.ofInt_add, ← Int32.ofInt_sub, ← Int32.ofInt_mul]; exact congrArg Int32.ofInt (by omega)) | (simp only [z_nat, z_lit, ← Int32.ofInt_add, ← Int32.ofInt_sub, ← Int32.ofInt_mul]; done) | exact congrArg Int32.ofInt (by omega) | rfl), by (dsimp only; omega), g.R.R5, ?_⟩
      refine k_isIn w 0 ((t 17 0 : Int) - 1) hw (by omega) (by omega) (fun z1 z2 => br_f (by decide) ?_) (fun z => br_t (by decide) ⟨_, rfl, rfl, hP M q_fs.rf⟩)
      refine c_X12_isEntrant g.R.1 g.R.b (fun e he e1 => br_f (by decide) ?_) (fun z => br_t (by decide) ⟨_, rfl, rfl, hP M q_fs.rf⟩)
      refine c_X12_isRound g.R.1 g.R.b (fun r r1 r2 e2 => ?_) (fun z => bn_f (by decide) ⟨_, rfl, rfl, hP M q_fs.rf⟩)
      exact absurd ⟨⟨z1, by omega⟩, e, r - 1, he, by omega, e1, by rw [e2, show r - 1 + 1 = r by omega]⟩ q
    refine w_in 90 [] ?_
    refine z_lt w 0 (fun z => ⟨_, rfl, _, rfl, fin⟩) (fun z1 => ?_)
    refine ⟨_, wl.1, ?_⟩
    refine z_le (t 17 0) w (fun z => ⟨_, rfl, _, rfl, fin⟩) (fun z2 => ?_)
    exact k2_isCell g (fun z => absurd ⟨⟨z1, z2⟩, z⟩ q) (fun _ => bn_f (by decide) ⟨_, rfl, _, rfl, fin⟩)
end L5
