/-! the calls ways, way -/
section WY
variable {L : Nat} {xs : Nat → Int32} {E : q_E} {d : Nat} {M : q_M} {t : q_T} {n : sN} {Q : Option Value → q_M → Prop} {P : q_M → Prop}
variable {alw : Nat → Nat → Bool}
theorem exA_get {C : CT} {D k p S a i : Nat} (h : a < D) : (exA C D k p S a)[i]? = if C p S a = true then (if i < (ext C D k (p + 1) (S ||| 2 ^ a)).length then ((ext C D k (p + 1) (S ||| 2 ^ a))[i]?).map (List.cons a) else (exA C D k p S (a + 1))[i - (ext C D k (p + 1) (S ||| 2 ^ a)).length]?) else (exA C D k p S (a + 1))[i]? := by
  rw [exA_s h]
  unfold blk
  by_cases q : C p S a = true
  · rw [if_pos q, if_pos q]
    by_cases q2 : i < (ext C D k (p + 1) (S ||| 2 ^ a)).length
    · rw [if_pos q2, List.getElem?_append_left (by rw [List.length_map]; exact q2), List.getElem?_map]
    · rw [if_neg q2, List.getElem?_append_right (by rw [List.length_map]; omega), List.length_map]
  · rw [if_neg q, if_neg q]
    rfl
-- the row's next dive, by the table
set_option maxRecDepth 100000 in
set_option maxHeartbeats 4000000 in
theorem k2_diveInRow (g : g_Z 43 M t n) {pr : Nat} (hm : g_Mm M t pr) {a b c : Int32} (e k r : Nat) (he : e < t 8 0) (hpr : t 9 e = pr) (hr : r < t 0 0) (hk : k < exN t pr aAll 0) (hQ : ∀ x rw', (ext (cWy t pr aAll) (t 5 0) (t 0 0) 0 0)[k]? = some rw' → rw'[r]? = some x → x < t 5 0 → Q (some (.int (nI x))) M) (ha : a = nI e := by (first | assumption | (simp only [z_nat, z_lit, ← Int32.ofInt_add, ← Int32.ofInt_sub, ← Int32.ofInt_mul]; exact congrArg Int32.ofInt (by omega)) | (simp only [z_nat, z_lit, ← Int32.ofInt_add, ← Int32.ofInt_sub, ← Int32.ofInt_mul]; done) | exact congrArg Int32.ofInt (by omega) | rfl)) (hb : b = nI k := by (first | assumption | (simp only [z_nat, z_lit, ← Int32.ofInt_add, ← Int32.ofInt_sub, ← Int32.ofInt_mul]; exact congrArg Int32.ofInt (by omega)) | (simp only [z_nat, z_lit, ← Int32.ofInt_add, ← Int32.ofInt_sub, ← Int32.ofInt_mul]; done) | exact congrArg Int32.ofInt (by omega) | rfl)) (hc : c = nI (r + 1) := by (first | assumption | (simp only [z_nat, z_lit, ← Int32.ofInt_add, ← Int32.ofInt_sub, ← Int32.ofInt_mul]; exact congrArg Int32.ofInt (by omega)) | (simp only [z_nat, z_lit, ← Int32.ofInt_add, ← Int32.ofInt_sub, ← Int32.ofInt_mul]; done) | exact congrArg Int32.ofInt (by omega) | rfl)) : q_C q_mt (L, xs, q_shp) E nX10_diveInRow (d + 1) 0 0 [.ref 244, .int (a), .int (b), .int (c)] M Q := by
  subst ha hb hc
  have h10 := g.R.d10
  have h6 := g.R.r6
  have e6 := g.R.e6
  have hpw := pw_b h10
  have be := (g.R.be he).1
  rw [hpr] at be
  have big : ∀ S, exN t pr aAll S ≤ 1000000 := fun S => by
    have a1 := ext_b (C := cWy t pr aAll) (D := t 5 0) h10 (k := t 0 0 - (fb_ct (fun j => S.testBit j) 11)) (p := (fb_ct (fun j => S.testBit j) 11)) (S := S)
    have a2 : 10 ^ (t 0 0 - (fb_ct (fun j => S.testBit j) 11)) ≤ 10 ^ 6 := Nat.pow_le_pow_right (n := 10) (by decide) (by omega)
    exact Nat.le_trans a1 a2
  have pc0 : (fb_ct (fun j => (0 : Nat).testBit j) 11) = 0 := fb_ct_zero.mpr (fun i _ => Nat.zero_testBit i)
  have W := lp_up (W := fun q => ∀ (S left : Nat) (pre tl : List Nat) (u w v ch : Int32) (y9 y10 : Option Value), rch' t pr S → S < 2 ^ t 5 0 → (fb_ct (fun j => S.testBit j) 11) = q → (ext (cWy t pr aAll) (t 5 0) (t 0 0) 0 0)[k]? = some (pre ++ tl) → pre.length = q → (ext (cWy t pr aAll) (t 5 0) (t 0 0 - q) q S)[left]? = some tl → left ≤ 1000000 → (q = 0 ∨ ∃ x, pre[q - 1]? = some x ∧ x < t 5 0 ∧ ch = nI x) → u = nI S → w = nI left → v = nI (q + 1) → q_G q_mt (L, xs, q_shp) E nX10_diveInRow (d + 1) 0 0 (q_Q (L, xs, q_shp) E Q) 27 [some (.ref 244), some (.int (nI e)), some (.int (nI k)), some (.int (nI (r + 1))), some (.int (nI (1024 * pr))), some (.int (u)), some (.int (w)), some (.int (ch)), some (.int (v)), y9, y10] [] M) (r + 1) ?_ ?_ 0 (Nat.zero_le _)
  · have hk2 : k < (ext (cWy t pr aAll) (t 5 0) (t 0 0) 0 0).length := by
      have := hk
      unfold exN at this
      rw [pc0] at this
      exact this
    have b0 := big 0
    refine w_in 90 [27, 39] ?_
    refine ⟨e, _, by (first | assumption | (simp only [z_nat, z_lit, ← Int32.ofInt_add, ← Int32.ofInt_sub, ← Int32.ofInt_mul]; exact congrArg Int32.ofInt (by omega)) | (simp only [z_nat, z_lit, ← Int32.ofInt_add, ← Int32.ofInt_sub, ← Int32.ofInt_mul]; done) | exact congrArg Int32.ofInt (by omega) | rfl), by (dsimp only; omega), (g.en he).1, ?_⟩
    have e1024 : nI (t 9 e) * Int32.ofInt 1024 = nI (1024 * pr) := by
      rw [hpr]
      (first | assumption | (simp only [z_nat, z_lit, ← Int32.ofInt_add, ← Int32.ofInt_sub, ← Int32.ofInt_mul]; exact congrArg Int32.ofInt (by omega)) | (simp only [z_nat, z_lit, ← Int32.ofInt_add, ← Int32.ofInt_sub, ← Int32.ofInt_mul]; done) | exact congrArg Int32.ofInt (by omega) | rfl)
    have W1 := W 0 k [] ((ext (cWy t pr aAll) (t 5 0) (t 0 0) 0 0)[k]) _ _ _ (Int32.ofInt (-1)) none none rch_0 (Nat.pow_pos (by decide)) pc0 (by rw [List.getElem?_eq_getElem hk2]; rfl) rfl (by rw [Nat.sub_zero, List.getElem?_eq_getElem hk2]) (by omega) (Or.inl rfl) rfl rfl rfl
    rw [← e1024] at W1
    exact W1
  · rintro S left pre tl u w v ch y9 y10 hrc hS hpc hAll hlen htl hl hch rfl rfl rfl
    refine w_at 90 [27, 39] ?_
    refine z_lt ((r + 1 : Nat) : Int) ((r + 1 + 1 : Nat) : Int) (fun _ => ?_) (fun z => by omega)
    rcases hch with z | ⟨x, hx, hx5, rfl⟩
    · omega
    · refine ⟨_, rfl, hQ x (pre ++ tl) hAll ?_ hx5⟩
      rw [Nat.add_sub_cancel] at hx
      rw [List.getElem?_append_left (by omega)]
      exact hx
  · rintro q hq ih S left pre tl u w v ch y9 y10 hrc hS hpc hAll hlen htl hl hch rfl rfl rfl
    have mS := hm S hS hrc
    have eN : t 0 0 - q = (t 0 0 - q - 1) + 1 := by omega
    have bits : ∀ x, x < t 5 0 → bt (M.1 246 (1024 * pr + S)) x = cWy t pr aAll q S x := fun x hx => by
      rw [mS.1 x hx, hpc, decide_eq_true (by omega), Bool.true_and]
    have nxN : ∀ x, x < t 5 0 → cWy t pr aAll q S x = true → rch' t pr (S ||| 2 ^ x) ∧ (fb_ct (fun j => (S ||| 2 ^ x).testBit j) 11) = q + 1 ∧ S ||| 2 ^ x < 2 ^ t 5 0 ∧ exN t pr aAll (S ||| 2 ^ x) = (ext (cWy t pr aAll) (t 5 0) (t 0 0 - q - 1) (q + 1) (S ||| 2 ^ x)).length := fun x hx hc => by
      rw [← hpc] at hc
      have a := rch_s h10 hrc (by omega) hx hc
      rw [hpc] at a
      refine ⟨a.1, a.2, or_b hS hx, ?_⟩
      unfold exN
      rw [a.2, show t 0 0 - (q + 1) = t 0 0 - q - 1 by omega]
    have I := lp_up (W := fun i => ∀ (lf : Nat) (w2 v2 : Int32) (y : Option Value), lf ≤ 1000000 → (exA (cWy t pr aAll) (t 5 0) (t 0 0 - q - 1) q S i)[lf]? = some tl → w2 = nI lf → v2 = nI i → q_G q_mt (L, xs, q_shp) E nX10_diveInRow (d + 1) 0 0 (q_Q (L, xs, q_shp) E Q) 39 [some (.ref 244), some (.int (nI e)), some (.int (nI k)), some (.int (nI (r + 1))), some (.int (nI (1024 * pr))), some (.int (nI S)), some (.int (w2)), some (.int (Int32.ofInt (-1))), some (.int (nI (q + 1))), some (.int (v2)), y] [] M) (t 5 0) ?_ ?_ 0 (Nat.zero_le _)
    · refine w_at 90 [27, 39] ?_
      refine z_lt ((r + 1 : Nat) : Int) ((q + 1 : Nat) : Int) (fun z => by omega) (fun _ => ?_)
      refine I left _ _ _ hl ?_ rfl rfl
      rw [exA_0, ← eN]
      exact htl
    · rintro lf w2 v2 y h1 h2 rfl rfl
      rw [exA_ge (Nat.le_refl _)] at h2
      cases h2
    · rintro i hi ih2 lf w2 v2 y h1 h2 rfl rfl
      rw [exA_get hi] at h2
      have ebx := b_at (x := M.1 246 (1024 * pr + S)) (j := i) (by omega)
      rw [bits i hi] at ebx
      refine w_at 90 [27, 39] ?_
      refine ⟨_, g.dN, ?_⟩
      refine z_le (t 5 0) (i : Int) (fun z => by omega) (fun _ => ?_)
      refine z_ne (-1) (-1) (fun z => absurd rfl z) (fun _ => ?_)
      refine ⟨1024 * pr + S, _, by (first | assumption | (simp only [z_nat, z_lit, ← Int32.ofInt_add, ← Int32.ofInt_sub, ← Int32.ofInt_mul]; exact congrArg Int32.ofInt (by omega)) | (simp only [z_nat, z_lit, ← Int32.ofInt_add, ← Int32.ofInt_sub, ← Int32.ofInt_mul]; done) | exact congrArg Int32.ofInt (by omega) | rfl), by (dsimp only; omega), rfl, ?_⟩
      by_cases qb : cWy t pr aAll q S i = true
      · rw [if_pos qb] at ebx h2
        refine z_ne 1 1 (fun z => absurd rfl z) (fun _ => ?_) (hx := ebx)
        obtain ⟨n1, n2, n3, n4⟩ := nxN i hi qb
        have eo := or_nI (S := S) (d := i) (by omega) (by omega)
        have e47 := (hm _ n3 n1).2
        have bb := big (S ||| 2 ^ i)
        refine ⟨1024 * pr + (S ||| 2 ^ i), _, (congrArg (fun z => nI (1024 * pr) + z) eo).trans (by (first | assumption | (simp only [z_nat, z_lit, ← Int32.ofInt_add, ← Int32.ofInt_sub, ← Int32.ofInt_mul]; exact congrArg Int32.ofInt (by omega)) | (simp only [z_nat, z_lit, ← Int32.ofInt_add, ← Int32.ofInt_sub, ← Int32.ofInt_mul]; done) | exact congrArg Int32.ofInt (by omega) | rfl)), by (dsimp only; omega), e47, ?_⟩
        rw [← n4] at h2
        refine z_le (exN t pr aAll (S ||| 2 ^ i)) (lf : Int) (fun z => ?_) (fun z => ?_)
        · rw [if_neg (by omega)] at h2
          exact ih2 (lf - exN t pr aAll (S ||| 2 ^ i)) _ _ _ (by omega) h2 (by (first | assumption | (simp only [z_nat, z_lit, ← Int32.ofInt_add, ← Int32.ofInt_sub, ← Int32.ofInt_mul]; exact congrArg Int32.ofInt (by omega)) | (simp only [z_nat, z_lit, ← Int32.ofInt_add, ← Int32.ofInt_sub, ← Int32.ofInt_mul]; done) | exact congrArg Int32.ofInt (by omega) | rfl)) (by (first | assumption | (simp only [z_nat, z_lit, ← Int32.ofInt_add, ← Int32.ofInt_sub, ← Int32.ofInt_mul]; exact congrArg Int32.ofInt (by omega)) | (simp only [z_nat, z_lit, ← Int32.ofInt_add, ← Int32.ofInt_sub, ← Int32.ofInt_mul]; done) | exact congrArg Int32.ofInt (by omega) | rfl))
        · rw [if_pos (by omega)] at h2
          -- this one: the row goes on behind it
          obtain ⟨tl', ht1, ht2⟩ : ∃ tl', (ext (cWy t pr aAll) (t 5 0) (t 0 0 - q - 1) (q + 1) (S ||| 2 ^ i))[lf]? = some tl' ∧ tl = i :: tl' := by
            cases hz : (ext (cWy t pr aAll) (t 5 0) (t 0 0 - q - 1) (q + 1) (S ||| 2 ^ i))[lf]? with
            | none =>
              rw [hz] at h2
              cases h2
            | some l =>
              rw [hz] at h2
              refine ⟨l, rfl, ?_⟩
              have h2 : some (i :: l) = some tl := h2
              exact (Option.some.inj h2).symm
          have go : ∀ (u v : Int32) (y9 y10 : Option Value), u = nI (S ||| 2 ^ i) → v = nI (q + 1 + 1) → q_G q_mt (L, xs, q_shp) E nX10_diveInRow (d + 1) 0 0 (q_Q (L, xs, q_shp) E Q) 27 [some (.ref 244), some (.int (nI e)), some (.int (nI k)), some (.int (nI (r + 1))), some (.int (nI (1024 * pr))), some (.int (u)), some (.int (nI lf)), some (.int (nI i)), some (.int (v)), y9, y10] [] M := by
            intro u v y9 y10 hu hv
            refine ih (S ||| 2 ^ i) lf (pre ++ [i]) tl' u _ v _ _ _ n1 n3 n2 (by rw [hAll, ht2, List.append_assoc]; rfl) (by rw [List.length_append, hlen]; rfl) (by rw [show t 0 0 - (q + 1) = t 0 0 - q - 1 by omega]; exact ht1) h1 (Or.inr ⟨i, ?_, hi, rfl⟩) hu rfl hv
            rw [Nat.add_sub_cancel, List.getElem?_append_right (by omega), hlen, Nat.sub_self]
            rfl
          refine w_at 90 [27, 39] ?_
          refine ⟨_, g.dN, ?_⟩
          refine z_le (t 5 0) ((i + 1 : Nat) : Int) (fun _ => ?_) (fun _ => ?_)
          · exact z_ne (i : Int) (-1) (fun _ => go _ _ _ _ eo (by (first | assumption | (simp only [z_nat, z_lit, ← Int32.ofInt_add, ← Int32.ofInt_sub, ← Int32.ofInt_mul]; exact congrArg Int32.ofInt (by omega)) | (simp only [z_nat, z_lit, ← Int32.ofInt_add, ← Int32.ofInt_sub, ← Int32.ofInt_mul]; done) | exact congrArg Int32.ofInt (by omega) | rfl))) (fun z => by omega)
          · refine z_ne (i : Int) (-1) (fun _ => ?_) (fun z => by omega)
            exact z_ne (i : Int) (-1) (fun _ => go _ _ _ _ eo (by (first | assumption | (simp only [z_nat, z_lit, ← Int32.ofInt_add, ← Int32.ofInt_sub, ← Int32.ofInt_mul]; exact congrArg Int32.ofInt (by omega)) | (simp only [z_nat, z_lit, ← Int32.ofInt_add, ← Int32.ofInt_sub, ← Int32.ofInt_mul]; done) | exact congrArg Int32.ofInt (by omega) | rfl))) (fun z => by omega)
      · rw [if_neg qb] at ebx h2
        refine z_ne 0 1 (fun _ => ?_) (fun z => by omega) (hx := ebx)
        exact ih2 lf _ _ _ h1 h2 rfl (by (first | assumption | (simp only [z_nat, z_lit, ← Int32.ofInt_add, ← Int32.ofInt_sub, ← Int32.ofInt_mul]; exact congrArg Int32.ofInt (by omega)) | (simp only [z_nat, z_lit, ← Int32.ofInt_add, ← Int32.ofInt_sub, ← Int32.ofInt_mul]; done) | exact congrArg Int32.ofInt (by omega) | rfl))
end WY
