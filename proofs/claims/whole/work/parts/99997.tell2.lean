/-! the best row: told by the class, found by the reference -/
section T2
variable {L : Nat} {xs : Nat → Int32} {E : q_E} {d : Nat} {M : q_M} {t : q_T} {n : sN} {Q : Option Value → q_M → Prop} {P : q_M → Prop}
variable {alw : Nat → Nat → Bool} {wt : Nat → Bool}
set_option maxRecDepth 100000 in
set_option maxHeartbeats 4000000 in
theorem p_fill_249 {x : Int32} (hQ : ∀ M', q_fs [249] [] M M' → (∀ i, i < 6 → M'.1 249 i = x) → Q none M') : q_C q_mt (L, xs, q_shp) E nJ7_fill (d) 0 0 [.ref 249, .int (x)] M Q := by
  have W := lp_m (W := fun i M' => ∀ v, v = nI i → q_G q_mt (L, xs, q_shp) E nJ7_fill (d) 0 0 (q_Q (L, xs, q_shp) E Q) 5 [some (.ref 249), some (.int (x)), some (.int (v)), some (.int (Int32.ofInt 6))] [] M') (J := fun i M' => q_fs [249] [] M M' ∧ ∀ k, k < i → M'.1 249 k = x) 6 ?_ ?_ 0 M (Nat.zero_le _) ⟨q_fs.rf, fun k hk => absurd hk (Nat.not_lt_zero _)⟩
  · refine w_in 90 [5] ?_
    exact W _ rfl
  · rintro M' ⟨hf, hm⟩ v rfl
    refine w_at 90 [5] ?_
    exact z_le 6 (6 : Nat) (fun _ => hQ M' hf hm) (fun h => by omega)
  · rintro i M' hi ⟨hf, hm⟩ ih v rfl
    refine w_at 90 [5] ?_
    refine z_le 6 (i : Int) (fun h => by omega) (fun _ => ?_)
    refine ⟨i, _, by (first | assumption | (simp only [z_nat, z_lit, ← Int32.ofInt_add, ← Int32.ofInt_sub, ← Int32.ofInt_mul]; exact congrArg Int32.ofInt (by omega)) | (simp only [z_nat, z_lit, ← Int32.ofInt_add, ← Int32.ofInt_sub, ← Int32.ofInt_mul]; done) | exact congrArg Int32.ofInt (by omega) | rfl), by (dsimp only; omega), rfl, ?_⟩
    refine ih _ ⟨hf.s1, fun k hk => ?_⟩ _ (by (first | assumption | (simp only [z_nat, z_lit, ← Int32.ofInt_add, ← Int32.ofInt_sub, ← Int32.ofInt_mul]; exact congrArg Int32.ofInt (by omega)) | (simp only [z_nat, z_lit, ← Int32.ofInt_add, ← Int32.ofInt_sub, ← Int32.ofInt_mul]; done) | exact congrArg Int32.ofInt (by omega) | rfl))
    by_cases q : k = i
    · rw [q, q_si_s]
    · rw [q_si_n q]
      exact hm k (by omega)
set_option maxRecDepth 100000 in
set_option maxHeartbeats 4000000 in
theorem p_fill_250 {x : Int32} (hQ : ∀ M', q_fs [250] [] M M' → (∀ i, i < 6 → M'.1 250 i = x) → Q none M') : q_C q_mt (L, xs, q_shp) E nJ7_fill (d) 0 0 [.ref 250, .int (x)] M Q := by
  have W := lp_m (W := fun i M' => ∀ v, v = nI i → q_G q_mt (L, xs, q_shp) E nJ7_fill (d) 0 0 (q_Q (L, xs, q_shp) E Q) 5 [some (.ref 250), some (.int (x)), some (.int (v)), some (.int (Int32.ofInt 6))] [] M') (J := fun i M' => q_fs [250] [] M M' ∧ ∀ k, k < i → M'.1 250 k = x) 6 ?_ ?_ 0 M (Nat.zero_le _) ⟨q_fs.rf, fun k hk => absurd hk (Nat.not_lt_zero _)⟩
  · refine w_in 90 [5] ?_
    exact W _ rfl
  · rintro M' ⟨hf, hm⟩ v rfl
    refine w_at 90 [5] ?_
    exact z_le 6 (6 : Nat) (fun _ => hQ M' hf hm) (fun h => by omega)
  · rintro i M' hi ⟨hf, hm⟩ ih v rfl
    refine w_at 90 [5] ?_
    refine z_le 6 (i : Int) (fun h => by omega) (fun _ => ?_)
    refine ⟨i, _, by (first | assumption | (simp only [z_nat, z_lit, ← Int32.ofInt_add, ← Int32.ofInt_sub, ← Int32.ofInt_mul]; exact congrArg Int32.ofInt (by omega)) | (simp only [z_nat, z_lit, ← Int32.ofInt_add, ← Int32.ofInt_sub, ← Int32.ofInt_mul]; done) | exact congrArg Int32.ofInt (by omega) | rfl), by (dsimp only; omega), rfl, ?_⟩
    refine ih _ ⟨hf.s1, fun k hk => ?_⟩ _ (by (first | assumption | (simp only [z_nat, z_lit, ← Int32.ofInt_add, ← Int32.ofInt_sub, ← Int32.ofInt_mul]; exact congrArg Int32.ofInt (by omega)) | (simp only [z_nat, z_lit, ← Int32.ofInt_add, ← Int32.ofInt_sub, ← Int32.ofInt_mul]; done) | exact congrArg Int32.ofInt (by omega) | rfl))
    by_cases q : k = i
    · rw [q, q_si_s]
    · rw [q_si_n q]
      exact hm k (by omega)
set_option maxRecDepth 100000 in
set_option maxHeartbeats 4000000 in
theorem p_fill_33 {x : Int32} (hQ : ∀ M', q_fs [33] [] M M' → (∀ i, i < 36 → M'.1 33 i = x) → Q none M') : q_C q_mt (L, xs, q_shp) E nJ7_fill (d) 0 0 [.ref 33, .int (x)] M Q := by
  have W := lp_m (W := fun i M' => ∀ v, v = nI i → q_G q_mt (L, xs, q_shp) E nJ7_fill (d) 0 0 (q_Q (L, xs, q_shp) E Q) 5 [some (.ref 33), some (.int (x)), some (.int (v)), some (.int (Int32.ofInt 36))] [] M') (J := fun i M' => q_fs [33] [] M M' ∧ ∀ k, k < i → M'.1 33 k = x) 36 ?_ ?_ 0 M (Nat.zero_le _) ⟨q_fs.rf, fun k hk => absurd hk (Nat.not_lt_zero _)⟩
  · refine w_in 90 [5] ?_
    exact W _ rfl
  · rintro M' ⟨hf, hm⟩ v rfl
    refine w_at 90 [5] ?_
    exact z_le 36 (36 : Nat) (fun _ => hQ M' hf hm) (fun h => by omega)
  · rintro i M' hi ⟨hf, hm⟩ ih v rfl
    refine w_at 90 [5] ?_
    refine z_le 36 (i : Int) (fun h => by omega) (fun _ => ?_)
    refine ⟨i, _, by (first | assumption | (simp only [z_nat, z_lit, ← Int32.ofInt_add, ← Int32.ofInt_sub, ← Int32.ofInt_mul]; exact congrArg Int32.ofInt (by omega)) | (simp only [z_nat, z_lit, ← Int32.ofInt_add, ← Int32.ofInt_sub, ← Int32.ofInt_mul]; done) | exact congrArg Int32.ofInt (by omega) | rfl), by (dsimp only; omega), rfl, ?_⟩
    refine ih _ ⟨hf.s1, fun k hk => ?_⟩ _ (by (first | assumption | (simp only [z_nat, z_lit, ← Int32.ofInt_add, ← Int32.ofInt_sub, ← Int32.ofInt_mul]; exact congrArg Int32.ofInt (by omega)) | (simp only [z_nat, z_lit, ← Int32.ofInt_add, ← Int32.ofInt_sub, ← Int32.ofInt_mul]; done) | exact congrArg Int32.ofInt (by omega) | rfl))
    by_cases q : k = i
    · rw [q, q_si_s]
    · rw [q_si_n q]
      exact hm k (by omega)
set_option maxRecDepth 100000 in
set_option maxHeartbeats 4000000 in
theorem p_fill_34 {x : Int32} (hQ : ∀ M', q_fs [34] [] M M' → (∀ i, i < 36 → M'.1 34 i = x) → Q none M') : q_C q_mt (L, xs, q_shp) E nJ7_fill (d) 0 0 [.ref 34, .int (x)] M Q := by
  have W := lp_m (W := fun i M' => ∀ v, v = nI i → q_G q_mt (L, xs, q_shp) E nJ7_fill (d) 0 0 (q_Q (L, xs, q_shp) E Q) 5 [some (.ref 34), some (.int (x)), some (.int (v)), some (.int (Int32.ofInt 36))] [] M') (J := fun i M' => q_fs [34] [] M M' ∧ ∀ k, k < i → M'.1 34 k = x) 36 ?_ ?_ 0 M (Nat.zero_le _) ⟨q_fs.rf, fun k hk => absurd hk (Nat.not_lt_zero _)⟩
  · refine w_in 90 [5] ?_
    exact W _ rfl
  · rintro M' ⟨hf, hm⟩ v rfl
    refine w_at 90 [5] ?_
    exact z_le 36 (36 : Nat) (fun _ => hQ M' hf hm) (fun h => by omega)
  · rintro i M' hi ⟨hf, hm⟩ ih v rfl
    refine w_at 90 [5] ?_
    refine z_le 36 (i : Int) (fun h => by omega) (fun _ => ?_)
    refine ⟨i, _, by (first | assumption | (simp only [z_nat, z_lit, ← Int32.ofInt_add, ← Int32.ofInt_sub, ← Int32.ofInt_mul]; exact congrArg Int32.ofInt (by omega)) | (simp only [z_nat, z_lit, ← Int32.ofInt_add, ← Int32.ofInt_sub, ← Int32.ofInt_mul]; done) | exact congrArg Int32.ofInt (by omega) | rfl), by (dsimp only; omega), rfl, ?_⟩
    refine ih _ ⟨hf.s1, fun k hk => ?_⟩ _ (by (first | assumption | (simp only [z_nat, z_lit, ← Int32.ofInt_add, ← Int32.ofInt_sub, ← Int32.ofInt_mul]; exact congrArg Int32.ofInt (by omega)) | (simp only [z_nat, z_lit, ← Int32.ofInt_add, ← Int32.ofInt_sub, ← Int32.ofInt_mul]; done) | exact congrArg Int32.ofInt (by omega) | rfl))
    by_cases q : k = i
    · rw [q, q_si_s]
    · rw [q_si_n q]
      exact hm k (by omega)
theorem bt_1023 : ∀ i, i < 10 → bt (Int32.ofInt 1023) i = true := by decide +kernel
set_option maxRecDepth 100000 in
set_option maxHeartbeats 4000000 in
theorem k2_allowAll (g : g_Z 43 M t n) (hQ : ∀ M', q_fs [249, 250] [] M M' → g_al M' t aAll (fun _ => true) → Q none M') : q_C q_mt (L, xs, q_shp) E nX10_allowAll (d + 1) 0 0 [.ref 244] M Q := by
  have h10 := g.R.d10
  have h6 := g.R.r6
  refine w_in 90 [] ?_
  refine p_fill_249 (fun M1 hf1 hm1 => ?_)
  refine p_fill_250 (fun M2 hf2 hm2 => ?_)
  refine hQ M2 (hf1.mono.tr hf2.mono) (fun p hp => ⟨fun x hx => ?_, ?_⟩)
  · rw [hf2.c1 249, hm1 p (by omega)]
    exact bt_1023 x (by omega)
  · rw [hm2 p (by omega), if_pos rfl]
abbrev AL (t : q_T) (pr : Nat) (alw : Nat → Nat → Bool) : List (List Nat) := ext (cWy t pr alw) (t 5 0) (t 0 0) 0 0
/-- what is told of the best row -/
def isTB (t : q_T) (e : Nat) (alw : Nat → Nat → Bool) (wt : Nat → Bool) (k : Nat) (v : Int) : Prop := ((k = 0 ∨ mx (vl (cstE t e wt) 0) (AL t (t 9 e) alw) = -1) ∧ v = mx (vl (cstE t e wt) 0) (AL t (t 9 e) alw)) ∨ ((¬ k = 0 ∧ ¬ mx (vl (cstE t e wt) 0) (AL t (t 9 e) alw) = -1) ∧ ∃ x : Nat, (ar (vl (cstE t e wt) 0) (AL t (t 9 e) alw))[k - 1]? = some x ∧ v = x)
theorem isTB.un {e k : Nat} {v v' : Int} (h : isTB t e alw wt k v) (h' : isTB t e alw wt k v') : v = v' := by
  rcases h with ⟨a, b⟩ | ⟨a, x, hx, b⟩
  · rcases h' with ⟨a', b'⟩ | ⟨a', x', hx', b'⟩
    · rw [b, b']
    · exact absurd a (fun z => z.elim a'.1 a'.2)
  · rcases h' with ⟨a', b'⟩ | ⟨a', x', hx', b'⟩
    · exact absurd a' (fun z => z.elim a.1 a.2)
    · rw [hx] at hx'
      cases hx'
      rw [b, b']
abbrev lU : List Nat := [20, 245, 246, 247, 248]
set_option maxRecDepth 100000 in
set_option maxHeartbeats 4000000 in
theorem k2_tellBest (g : g_Z 43 M t n) (wl : g_W M t) (bl : b_L t) (hmo : g_Mo M t) (hal : g_al M t alw wt) {a b : Int32} (e k : Nat) (he : e < t 8 0) (hk : k ≤ t 0 0) (hQ : ∀ M' v, q_fs lU [(244, 8)] M M' → g_Mo M' t → isTB t e alw wt k v → Q (some (.int (Int32.ofInt v))) M') (ha : a = nI e := by (first | assumption | (simp only [z_nat, z_lit, ← Int32.ofInt_add, ← Int32.ofInt_sub, ← Int32.ofInt_mul]; exact congrArg Int32.ofInt (by omega)) | (simp only [z_nat, z_lit, ← Int32.ofInt_add, ← Int32.ofInt_sub, ← Int32.ofInt_mul]; done) | exact congrArg Int32.ofInt (by omega) | rfl)) (hb : b = nI k := by (first | assumption | (simp only [z_nat, z_lit, ← Int32.ofInt_add, ← Int32.ofInt_sub, ← Int32.ofInt_mul]; exact congrArg Int32.ofInt (by omega)) | (simp only [z_nat, z_lit, ← Int32.ofInt_add, ← Int32.ofInt_sub, ← Int32.ofInt_mul]; done) | exact congrArg Int32.ofInt (by omega) | rfl)) : q_C q_mt (L, xs, q_shp) E nX10_tellBest (d + 6) 0 0 [.ref 244, .int (a), .int (b)] M Q := by
  subst ha hb
  have h10 := g.R.d10
  have h6 := g.R.r6
  have e6 := g.R.e6
  have be := (g.R.be he).1
  have hpw := pw_b h10
  have pc0 : (fb_ct (fun j => (0 : Nat).testBit j) 11) = 0 := fb_ct_zero.mpr (fun i _ => Nat.zero_testBit i)
  have mb : -1 ≤ mx (vl (cstE t e wt) 0) (AL t (t 9 e) alw) ∧ mx (vl (cstE t e wt) 0) (AL t (t 9 e) alw) ≤ 108000 := mx_108 (wt := wt) (alw := alw) (pr := t 9 e) (e := e) g.R (k := t 0 0) (p := 0) (S := 0) h6
  refine w_in 90 [47] ?_
  refine ⟨e, _, by (first | assumption | (simp only [z_nat, z_lit, ← Int32.ofInt_add, ← Int32.ofInt_sub, ← Int32.ofInt_mul]; exact congrArg Int32.ofInt (by omega)) | (simp only [z_nat, z_lit, ← Int32.ofInt_add, ← Int32.ofInt_sub, ← Int32.ofInt_mul]; done) | exact congrArg Int32.ofInt (by omega) | rfl), by (dsimp only; omega), (g.en he).1, ?_⟩
  refine k2_learn g wl bl hmo (t 9 e) be (fun M1 hf1 ho1 hm1 => ?_)
  have g1 := g.f3 hf1
  have al1 : g_al M1 t alw wt := hal.fs hf1
  refine k2_findTops g1 hm1 al1 e he rfl (fun M2 hf2 hT => ?_)
  have g2 := g1.f3 hf2
  have f2 : q_fs lU [(244, 8)] M M2 := hf1.mono.tr hf2.mono
  have o2 : g_Mo M2 t := ho1.fs h10 hf2
  have m2 := hm1.fs hf2
  have al2 := al1.fs hf2
  have e48 : M2.1 248 0 = Int32.ofInt (mx (vl (cstE t e wt) 0) (AL t (t 9 e) alw)) := by
    have := hT 0 (Nat.zero_le _) (Nat.pow_pos (by decide)) rch_0
    unfold tpS at this
    rw [pc0] at this
    exact this
  have W : ¬ mx (vl (cstE t e wt) 0) (AL t (t 9 e) alw) = -1 → ¬ k = 0 → ∀ q, q ≤ k → ∀ (S : Nat) (pre : List Nat) (u ch v : Int32), rch' t (t 9 e) S → S < 2 ^ t 5 0 → (fb_ct (fun j => S.testBit j) 11) = q → ¬ mx (vl (cstE t e wt) q) (ext (cWy t (t 9 e) alw) (t 5 0) (t 0 0 - q) q S) = -1 → ar (vl (cstE t e wt) 0) (AL t (t 9 e) alw) = pre ++ ar (vl (cstE t e wt) q) (ext (cWy t (t 9 e) alw) (t 5 0) (t 0 0 - q) q S) → pre.length = q → (q = 0 ∨ ∃ x, pre[q - 1]? = some x ∧ ch = nI x) → u = nI S → v = nI (q + 1) → q_G q_mt (L, xs, q_shp) E nX10_tellBest (d + 6) 0 0 (q_Q (L, xs, q_shp) E Q) 47 [some (.ref 244), some (.int (nI e)), some (.int (nI k)), some (.int (u)), some (.int (ch)), some (.int (v))] [] M2 := by
    intro hne hk0
    refine lp_up (W := fun q => ∀ (S : Nat) (pre : List Nat) (u ch v : Int32), rch' t (t 9 e) S → S < 2 ^ t 5 0 → (fb_ct (fun j => S.testBit j) 11) = q → ¬ mx (vl (cstE t e wt) q) (ext (cWy t (t 9 e) alw) (t 5 0) (t 0 0 - q) q S) = -1 → ar (vl (cstE t e wt) 0) (AL t (t 9 e) alw) = pre ++ ar (vl (cstE t e wt) q) (ext (cWy t (t 9 e) alw) (t 5 0) (t 0 0 - q) q S) → pre.length = q → (q = 0 ∨ ∃ x, pre[q - 1]? = some x ∧ ch = nI x) → u = nI S → v = nI (q + 1) → q_G q_mt (L, xs, q_shp) E nX10_tellBest (d + 6) 0 0 (q_Q (L, xs, q_shp) E Q) 47 [some (.ref 244), some (.int (nI e)), some (.int (nI k)), some (.int (u)), some (.int (ch)), some (.int (v))] [] M2) k ?_ ?_
    · rintro S pre u ch v hr hS hpc hmx har hlen hch rfl rfl
      refine w_at 90 [47] ?_
      refine z_lt (k : Int) ((k + 1 : Nat) : Int) (fun _ => ?_) (fun z => by omega)
      rcases hch with z | ⟨x, hx, rfl⟩
      · exact absurd z hk0
      · refine ⟨_, rfl, ?_⟩
        refine hQ M2 (x : Int) f2 o2 (Or.inr ⟨⟨hk0, hne⟩, x, ?_, rfl⟩)
        rw [har, List.getElem?_append_left (by omega)]
        exact hx
    · rintro q hq ih S pre u ch v hr hS hpc hmx har hlen hch rfl rfl
      refine w_at 90 [47] ?_
      refine z_lt (k : Int) ((q + 1 : Nat) : Int) (fun z => by omega) (fun _ => ?_)
      refine k2_findTopDive g2 m2 al2 e S he rfl hS hr (by omega) hT (by unfold tpS; rw [hpc]; exact hmx) (fun x hx hc hmx2 har2 => ?_)
      rw [hpc] at hc hmx2 har2
      have rs := rch_s h10 hr (show (fb_ct (fun j => S.testBit j) 11) < t 0 0 by omega) hx (by rw [hpc]; exact cWy_t.mpr ⟨rfl, (cWy_t.mp hc).2⟩)
      rw [hpc] at rs
      refine z_ne (x : Int) (-1) (fun _ => ?_) (fun z => by omega)
      refine ih (S ||| 2 ^ x) (pre ++ [x]) _ _ _ rs.1 (or_b hS hx) rs.2 ?_ ?_ (by rw [List.length_append, hlen]; rfl) (Or.inr ⟨x, ?_, rfl⟩) (or_nI (by omega) (by omega)) (by (first | assumption | (simp only [z_nat, z_lit, ← Int32.ofInt_add, ← Int32.ofInt_sub, ← Int32.ofInt_mul]; exact congrArg Int32.ofInt (by omega)) | (simp only [z_nat, z_lit, ← Int32.ofInt_add, ← Int32.ofInt_sub, ← Int32.ofInt_mul]; done) | exact congrArg Int32.ofInt (by omega) | rfl))
      · rw [show t 0 0 - (q + 1) = t 0 0 - q - 1 by omega]
        exact hmx2
      · rw [har, har2, List.append_assoc, show t 0 0 - (q + 1) = t 0 0 - q - 1 by omega]
        rfl
      · rw [Nat.add_sub_cancel, List.getElem?_append_right (by omega), hlen, Nat.sub_self]
        rfl
  refine z_eq (k : Int) 0 (fun z => ?_) (fun z => ?_)
  · refine ⟨0, _, by (first | assumption | (simp only [z_nat, z_lit, ← Int32.ofInt_add, ← Int32.ofInt_sub, ← Int32.ofInt_mul]; exact congrArg Int32.ofInt (by omega)) | (simp only [z_nat, z_lit, ← Int32.ofInt_add, ← Int32.ofInt_sub, ← Int32.ofInt_mul]; done) | exact congrArg Int32.ofInt (by omega) | rfl), by (dsimp only; omega), e48, ?_⟩
    exact ⟨_, rfl, hQ M2 _ f2 o2 (Or.inl ⟨Or.inl (by omega), rfl⟩)⟩
  · refine ⟨0, _, by (first | assumption | (simp only [z_nat, z_lit, ← Int32.ofInt_add, ← Int32.ofInt_sub, ← Int32.ofInt_mul]; exact congrArg Int32.ofInt (by omega)) | (simp only [z_nat, z_lit, ← Int32.ofInt_add, ← Int32.ofInt_sub, ← Int32.ofInt_mul]; done) | exact congrArg Int32.ofInt (by omega) | rfl), by (dsimp only; omega), e48, ?_⟩
    refine z_ne (mx (vl (cstE t e wt) 0) (AL t (t 9 e) alw)) (-1) (fun hne => ?_) (fun hz => ?_)
    · exact W hne (by omega) 0 (Nat.zero_le _) 0 [] _ _ _ rch_0 (Nat.pow_pos (by decide)) pc0 hne rfl rfl (Or.inl rfl) rfl rfl
    · refine ⟨0, _, by (first | assumption | (simp only [z_nat, z_lit, ← Int32.ofInt_add, ← Int32.ofInt_sub, ← Int32.ofInt_mul]; exact congrArg Int32.ofInt (by omega)) | (simp only [z_nat, z_lit, ← Int32.ofInt_add, ← Int32.ofInt_sub, ← Int32.ofInt_mul]; done) | exact congrArg Int32.ofInt (by omega) | rfl), by (dsimp only; omega), e48, ?_⟩
      exact ⟨_, rfl, hQ M2 _ f2 o2 (Or.inl ⟨Or.inr hz, rfl⟩)⟩
end T2
