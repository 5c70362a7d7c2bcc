/-! laws of both sides, rows of lists; the calls law, breaks -/
section L4
variable {L : Nat} {xs : Nat → Int32} {E : q_E} {d : Nat} {M : q_M} {t : q_T} {n : sN} {Q : Option Value → q_M → Prop} {P : q_M → Prop}
/-- a row that is laid -/
def g_Y (M : q_M) (row : Nat → Nat) (k : Nat) : Prop := ∀ p, p < k → M.1 289 p = nI (row p)
theorem g_W.eq {M' : q_M} (h : g_W M t) (e17 : M'.1 17 = M.1 17) (e18 : M'.1 18 = M.1 18) (e19 : M'.1 19 = M.1 19) (e280 : M'.1 280 = M.1 280) : g_W M' t := by
  unfold g_W at h ⊢
  rw [e17, e18, e19, e280]
  exact h
theorem g_W.fs {l : List Nat} {f : List (Nat × Nat)} {M' : q_M} (h : g_W M t) (hf : q_fs l f M M') (o : (l.all (fun a => !(c_rng 17 19 a || Nat.beq a 280)) && f.all (fun q => !(c_rng 17 19 q.1 || Nat.beq q.1 280))) = true := by exact rfl) : g_W M' t := h.eq (hf.c1 17 (q_out (p := fun a => c_rng 17 19 a || Nat.beq a 280) o rfl)) (hf.c1 18 (q_out (p := fun a => c_rng 17 19 a || Nat.beq a 280) o rfl)) (hf.c1 19 (q_out (p := fun a => c_rng 17 19 a || Nat.beq a 280) o rfl)) (hf.c1 280 (q_out (p := fun a => c_rng 17 19 a || Nat.beq a 280) o rfl))
set_option maxRecDepth 100000 in
set_option maxHeartbeats 4000000 in
theorem k_isSoR (g : g_R M t n) (wl : g_W M t) (bl : b_L t) {row : Nat → Nat} {a b e : Int32} (l k pr : Nat) (hl : l < t 17 0) (hk : k < 6) (hrow : g_Y M row (k + 1)) (hd : dst row (k + 1) (t 5 0)) (hp : pr ≤ 1) (h1 : ∀ M', q_fs [290] [] M M' → lwS t l (stO row k) (row k) pr = true → Q (some (.int 1)) M') (h0 : ∀ M', q_fs [290] [] M M' → lwS t l (stO row k) (row k) pr = false → Q (some (.int 0)) M') (ha : a = nI l := by (first | assumption | (simp only [z_nat, z_lit, ← Int32.ofInt_add, ← Int32.ofInt_sub, ← Int32.ofInt_mul]; exact congrArg Int32.ofInt (by omega)) | (simp only [z_nat, z_lit, ← Int32.ofInt_add, ← Int32.ofInt_sub, ← Int32.ofInt_mul]; done) | exact congrArg Int32.ofInt (by omega) | rfl)) (hb : b = nI pr := by (first | assumption | (simp only [z_nat, z_lit, ← Int32.ofInt_add, ← Int32.ofInt_sub, ← Int32.ofInt_mul]; exact congrArg Int32.ofInt (by omega)) | (simp only [z_nat, z_lit, ← Int32.ofInt_add, ← Int32.ofInt_sub, ← Int32.ofInt_mul]; done) | exact congrArg Int32.ofInt (by omega) | rfl)) (he : e = nI k := by (first | assumption | (simp only [z_nat, z_lit, ← Int32.ofInt_add, ← Int32.ofInt_sub, ← Int32.ofInt_mul]; exact congrArg Int32.ofInt (by omega)) | (simp only [z_nat, z_lit, ← Int32.ofInt_add, ← Int32.ofInt_sub, ← Int32.ofInt_mul]; done) | exact congrArg Int32.ofInt (by omega) | rfl)) : q_C q_mt (L, xs, q_shp) E nX12_isSo (d + 2) 0 0 [.ref 271, .int (a), .int (b), .int (e)] M Q := by
  subst ha hb he
  have l6 := bl.1
  obtain ⟨b255, ok⟩ := bl.2.2 l hl
  have wl1 := wl.2 l hl
  have W := lp_m (W := fun i M' => ∀ u v x, u = nI (sd (t (19 + l)) i) → v = nI i → q_G q_mt (L, xs, q_shp) E nX12_isSo (d + 2) 0 0 (q_Q (L, xs, q_shp) E Q) 6 [some (.ref 271), some (.int (nI l)), some (.int (nI pr)), some (.int (nI k)), some (.int (u)), some (.int (v)), x] [] M') (J := fun i M' => q_fs [290] [] M M' ∧ ∀ p, p < sd (t (19 + l)) i → M'.2 290 p = evS (t (19 + l)) (fcL t (stO row k) (row k) pr) i p) (t 18 l) ?_ ?_ 0 M (Nat.zero_le _) ⟨q_fs.rf, fun p hp => absurd hp (Nat.not_lt_zero _)⟩
  · refine w_in 90 [6] ?_
    exact W _ _ _ rfl rfl
  · rintro M' ⟨hf, hm⟩ u v x rfl rfl
    have e143 : M'.1 280 (143 + l) = nI (t 18 l) := by rw [hf.c1 280]; exact wl1.2.1
    have s1 := ok.2
    have e20 := hm 0 (by omega)
    refine w_at 90 [6] ?_
    refine ⟨143 + l, _, by (first | assumption | (simp only [z_nat, z_lit, ← Int32.ofInt_add, ← Int32.ofInt_sub, ← Int32.ofInt_mul]; exact congrArg Int32.ofInt (by omega)) | (simp only [z_nat, z_lit, ← Int32.ofInt_add, ← Int32.ofInt_sub, ← Int32.ofInt_mul]; done) | exact congrArg Int32.ofInt (by omega) | rfl), by (dsimp only; omega), e143, ?_⟩
    refine z_le (t 18 l) (t 18 l) (fun _ => ?_) (fun z => by omega)
    refine ⟨0, _, by (first | assumption | (simp only [z_nat, z_lit, ← Int32.ofInt_add, ← Int32.ofInt_sub, ← Int32.ofInt_mul]; exact congrArg Int32.ofInt (by omega)) | (simp only [z_nat, z_lit, ← Int32.ofInt_add, ← Int32.ofInt_sub, ← Int32.ofInt_mul]; done) | exact congrArg Int32.ofInt (by omega) | rfl), by (dsimp only; omega), e20, ?_⟩
    refine ⟨fun z => ⟨z_0, h0 M' hf (decide_eq_false (fun w => z ((lg_cmp_eq _ _).mpr w)))⟩, fun z => ⟨z_1, h1 M' hf (decide_eq_true ((lg_cmp_eq _ _).mp z))⟩⟩
  · rintro i M' hi ⟨hf, hm⟩ ih u v x rfl rfl
    have g' := g.fs hf
    have e143 : M'.1 280 (143 + l) = nI (t 18 l) := by rw [hf.c1 280]; exact wl1.2.1
    have e18 : M'.1 280 (149 + 256 * l + i) = nI (t (19 + l) i) := by
      rw [hf.c1 280]
      exact (wl1.2.2 i hi).2
    obtain ⟨c1, c2, c3, c4⟩ := ok.1 i hi
    have s64 := sd_b ok i (Nat.le_of_lt hi)
    have es : sd (t (19 + l)) (i + 1) = if isVal (t (19 + l) i) then sd (t (19 + l)) i + 1 else if t (19 + l) i = 30 then sd (t (19 + l)) i else sd (t (19 + l)) i - 1 := rfl
    generalize hcd : t (19 + l) i = c at *
    generalize hFF : fcL t (stO row k) (row k) pr = F at *
    have cb : c ≤ 10999 := by
      rcases c1 with z | z | z <;> omega
    refine w_at 90 [6] ?_
    refine ⟨143 + l, _, by (first | assumption | (simp only [z_nat, z_lit, ← Int32.ofInt_add, ← Int32.ofInt_sub, ← Int32.ofInt_mul]; exact congrArg Int32.ofInt (by omega)) | (simp only [z_nat, z_lit, ← Int32.ofInt_add, ← Int32.ofInt_sub, ← Int32.ofInt_mul]; done) | exact congrArg Int32.ofInt (by omega) | rfl), by (dsimp only; omega), e143, ?_⟩
    refine z_le (t 18 l) (i : Int) (fun z => by omega) (fun _ => ?_)
    refine ⟨149 + 256 * l + i, _, by (first | assumption | (simp only [z_nat, z_lit, ← Int32.ofInt_add, ← Int32.ofInt_sub, ← Int32.ofInt_mul]; exact congrArg Int32.ofInt (by omega)) | (simp only [z_nat, z_lit, ← Int32.ofInt_add, ← Int32.ofInt_sub, ← Int32.ofInt_mul]; done) | exact congrArg Int32.ofInt (by omega) | rfl), by (dsimp only; omega), e18, ?_⟩
    by_cases qv : isVal c = true
    · rw [if_pos qv] at es
      have s63 := c2 qv
      have qv' := isVal_t.mp qv
      have ev : ∀ p, evS (t (19 + l)) F (i + 1) p = if p = sd (t (19 + l)) i then vlC F c else evS (t (19 + l)) F i p := fun p => by
        show (if isVal (t (19 + l) i) then _ else _) = _
        rw [hcd, if_pos qv]
      by_cases q9 : 1000 ≤ c
      · refine z_lt (c : Int) 1000 (fun z => by omega) (fun _ => ?_)
        refine ⟨sd (t (19 + l)) i, _, by (first | assumption | (simp only [z_nat, z_lit, ← Int32.ofInt_add, ← Int32.ofInt_sub, ← Int32.ofInt_mul]; exact congrArg Int32.ofInt (by omega)) | (simp only [z_nat, z_lit, ← Int32.ofInt_add, ← Int32.ofInt_sub, ← Int32.ofInt_mul]; done) | exact congrArg Int32.ofInt (by omega) | rfl), by (dsimp only; omega), rfl, ?_⟩
        refine ih _ ⟨hf.s2, fun p hp => ?_⟩ _ _ _ (by rw [es]; (first | assumption | (simp only [z_nat, z_lit, ← Int32.ofInt_add, ← Int32.ofInt_sub, ← Int32.ofInt_mul]; exact congrArg Int32.ofInt (by omega)) | (simp only [z_nat, z_lit, ← Int32.ofInt_add, ← Int32.ofInt_sub, ← Int32.ofInt_mul]; done) | exact congrArg Int32.ofInt (by omega) | rfl)) (by (first | assumption | (simp only [z_nat, z_lit, ← Int32.ofInt_add, ← Int32.ofInt_sub, ← Int32.ofInt_mul]; exact congrArg Int32.ofInt (by omega)) | (simp only [z_nat, z_lit, ← Int32.ofInt_add, ← Int32.ofInt_sub, ← Int32.ofInt_mul]; done) | exact congrArg Int32.ofInt (by omega) | rfl))
        rw [es] at hp
        rw [ev p]
        by_cases z : p = sd (t (19 + l)) i
        · rw [if_pos z, z, q_sl_s]
          unfold vlC
          rw [if_pos q9, z_nat, ← Int32.ofInt_sub, y_i2l (by omega)]
        · rw [if_neg z, q_sl_n z]
          exact hm p (by omega)
      · have hc8 : 1 ≤ c ∧ c ≤ 8 := by
          rcases c1 with z | z | z <;> omega
        refine z_lt (c : Int) 1000 (fun _ => ?_) (fun z => by omega)
        refine z_lt 8 (c : Int) (fun z => by omega) (fun _ => ?_)
        refine k_partOf g' k c pr hk (fun p hp => by rw [hf.c1 289]; exact hrow p (by omega)) hd hc8 hp ?_
        rw [hFF]
        refine ⟨sd (t (19 + l)) i, _, by (first | assumption | (simp only [z_nat, z_lit, ← Int32.ofInt_add, ← Int32.ofInt_sub, ← Int32.ofInt_mul]; exact congrArg Int32.ofInt (by omega)) | (simp only [z_nat, z_lit, ← Int32.ofInt_add, ← Int32.ofInt_sub, ← Int32.ofInt_mul]; done) | exact congrArg Int32.ofInt (by omega) | rfl), by (dsimp only; omega), rfl, ?_⟩
        refine ih _ ⟨hf.s2, fun p hp => ?_⟩ _ _ _ (by rw [es]; (first | assumption | (simp only [z_nat, z_lit, ← Int32.ofInt_add, ← Int32.ofInt_sub, ← Int32.ofInt_mul]; exact congrArg Int32.ofInt (by omega)) | (simp only [z_nat, z_lit, ← Int32.ofInt_add, ← Int32.ofInt_sub, ← Int32.ofInt_mul]; done) | exact congrArg Int32.ofInt (by omega) | rfl)) (by (first | assumption | (simp only [z_nat, z_lit, ← Int32.ofInt_add, ← Int32.ofInt_sub, ← Int32.ofInt_mul]; exact congrArg Int32.ofInt (by omega)) | (simp only [z_nat, z_lit, ← Int32.ofInt_add, ← Int32.ofInt_sub, ← Int32.ofInt_mul]; done) | exact congrArg Int32.ofInt (by omega) | rfl))
        rw [es] at hp
        rw [ev p]
        by_cases z : p = sd (t (19 + l)) i
        · rw [if_pos z, z, q_sl_s]
          unfold vlC
          rw [if_neg q9]
        · rw [if_neg z, q_sl_n z]
          exact hm p (by omega)
    · have qv : isVal c = false := by simpa using qv
      have qv' := isVal_f.mp qv
      rw [if_neg (by rw [qv]; decide)] at es
      have hc30 : 20 ≤ c ∧ c ≤ 30 := by
        rcases c1 with z | z | z <;> omega
      refine z_lt (c : Int) 1000 (fun _ => ?_) (fun z => by omega)
      refine z_lt 8 (c : Int) (fun _ => ?_) (fun z => by omega)
      by_cases q30 : c = 30
      · rw [if_pos q30] at es
        have s1 := c3 q30
        have ev : ∀ p, evS (t (19 + l)) F (i + 1) p = if p = sd (t (19 + l)) i - 1 then 1 - evS (t (19 + l)) F i p else evS (t (19 + l)) F i p := fun p => by
          show (if isVal (t (19 + l) i) then _ else if t (19 + l) i = 30 then _ else _) = _
          rw [hcd, if_neg (by rw [qv]; decide), if_pos q30]
        have e20 := hm (sd (t (19 + l)) i - 1) (by omega)
        refine z_ne (c : Int) 30 (fun z => by omega) (fun _ => ?_)
        refine ⟨sd (t (19 + l)) i - 1, _, by (first | assumption | (simp only [z_nat, z_lit, ← Int32.ofInt_add, ← Int32.ofInt_sub, ← Int32.ofInt_mul]; exact congrArg Int32.ofInt (by omega)) | (simp only [z_nat, z_lit, ← Int32.ofInt_add, ← Int32.ofInt_sub, ← Int32.ofInt_mul]; done) | exact congrArg Int32.ofInt (by omega) | rfl), by (dsimp only; omega), e20, ?_⟩
        refine ⟨sd (t (19 + l)) i - 1, _, by (first | assumption | (simp only [z_nat, z_lit, ← Int32.ofInt_add, ← Int32.ofInt_sub, ← Int32.ofInt_mul]; exact congrArg Int32.ofInt (by omega)) | (simp only [z_nat, z_lit, ← Int32.ofInt_add, ← Int32.ofInt_sub, ← Int32.ofInt_mul]; done) | exact congrArg Int32.ofInt (by omega) | rfl), by (dsimp only; omega), rfl, ?_⟩
        refine ih _ ⟨hf.s2, fun p hp => ?_⟩ _ _ _ (by rw [es]) (by (first | assumption | (simp only [z_nat, z_lit, ← Int32.ofInt_add, ← Int32.ofInt_sub, ← Int32.ofInt_mul]; exact congrArg Int32.ofInt (by omega)) | (simp only [z_nat, z_lit, ← Int32.ofInt_add, ← Int32.ofInt_sub, ← Int32.ofInt_mul]; done) | exact congrArg Int32.ofInt (by omega) | rfl))
        rw [es] at hp
        rw [ev p]
        by_cases z : p = sd (t (19 + l)) i - 1
        · rw [if_pos z, z, q_sl_s]
          rfl
        · rw [if_neg z, q_sl_n z]
          exact hm p (by omega)
      · rw [if_neg q30] at es
        have s2 := c4 qv q30
        have ev : ∀ p, evS (t (19 + l)) F (i + 1) p = if p = sd (t (19 + l)) i - 2 then jn c (evS (t (19 + l)) F i (sd (t (19 + l)) i - 2)) (evS (t (19 + l)) F i (sd (t (19 + l)) i - 1)) else evS (t (19 + l)) F i p := fun p => by
          show (if isVal (t (19 + l) i) then _ else if t (19 + l) i = 30 then _ else (if p = _ then jn (t (19 + l) i) _ _ else _)) = _
          rw [hcd, if_neg (by rw [qv]; decide), if_neg q30]
        have ea := hm (sd (t (19 + l)) i - 2) (by omega)
        have eb := hm (sd (t (19 + l)) i - 1) (by omega)
        refine z_ne (c : Int) 30 (fun _ => ?_) (fun z => by omega)
        refine ⟨sd (t (19 + l)) i - 2, _, q_m2 (by omega), by (dsimp only; omega), ea, ?_⟩
        refine ⟨sd (t (19 + l)) i - 1, _, q_m1 (by omega), by (dsimp only; omega), eb, ?_⟩
        refine k_joined c (by omega) ?_ (ha := rfl)
        refine ⟨sd (t (19 + l)) i - 2, _, q_m2 (by omega), by (dsimp only; omega), rfl, ?_⟩
        refine ih _ ⟨hf.s2, fun p hp => ?_⟩ _ _ _ (by rw [es]; exact q_m1 (by omega)) (by (first | assumption | (simp only [z_nat, z_lit, ← Int32.ofInt_add, ← Int32.ofInt_sub, ← Int32.ofInt_mul]; exact congrArg Int32.ofInt (by omega)) | (simp only [z_nat, z_lit, ← Int32.ofInt_add, ← Int32.ofInt_sub, ← Int32.ofInt_mul]; done) | exact congrArg Int32.ofInt (by omega) | rfl))
        rw [es] at hp
        rw [ev p]
        by_cases z : p = sd (t (19 + l)) i - 2
        · rw [if_pos z, z, q_sl_s]
        · rw [if_neg z, q_sl_n z]
          exact hm p (by omega)
set_option maxRecDepth 100000 in
set_option maxHeartbeats 4000000 in
theorem k_brokenAt (g : g_R M t n) (wl : g_W M t) (bl : b_L t) {row : Nat → Nat} {b e : Int32} (k pr : Nat) (hk : k < 6) (hrow : g_Y M row (k + 1)) (hd : dst row (k + 1) (t 5 0)) (hp : pr ≤ 1) (h1 : ∀ M' l, q_fs [290] [] M M' → isBk t (stO row k) (row k) pr l → Q (some (.int (nI l))) M') (h0 : ∀ M', q_fs [290] [] M M' → obey t (stO row k) (row k) pr → Q (some (.int (Int32.ofInt (-1)))) M') (hb : b = nI pr := by (first | assumption | (simp only [z_nat, z_lit, ← Int32.ofInt_add, ← Int32.ofInt_sub, ← Int32.ofInt_mul]; exact congrArg Int32.ofInt (by omega)) | (simp only [z_nat, z_lit, ← Int32.ofInt_add, ← Int32.ofInt_sub, ← Int32.ofInt_mul]; done) | exact congrArg Int32.ofInt (by omega) | rfl)) (he : e = nI k := by (first | assumption | (simp only [z_nat, z_lit, ← Int32.ofInt_add, ← Int32.ofInt_sub, ← Int32.ofInt_mul]; exact congrArg Int32.ofInt (by omega)) | (simp only [z_nat, z_lit, ← Int32.ofInt_add, ← Int32.ofInt_sub, ← Int32.ofInt_mul]; done) | exact congrArg Int32.ofInt (by omega) | rfl)) : q_C q_mt (L, xs, q_shp) E nX12_brokenAt (d + 3) 0 0 [.ref 271, .int (b), .int (e)] M Q := by
  subst hb he
  have l6 := bl.1
  have W := lp_m (W := fun l M' => ∀ v, v = nI l → q_G q_mt (L, xs, q_shp) E nX12_brokenAt (d + 3) 0 0 (q_Q (L, xs, q_shp) E Q) 2 [some (.ref 271), some (.int (nI pr)), some (.int (nI k)), some (.int (v))] [] M') (J := fun l M' => q_fs [290] [] M M' ∧ ∀ i, i < l → lwS t i (stO row k) (row k) pr = true) (t 17 0) ?_ ?_ 0 M (Nat.zero_le _) ⟨q_fs.rf, fun i hi => absurd hi (Nat.not_lt_zero _)⟩
  · refine w_in 90 [2] ?_
    exact W _ rfl
  · rintro M' ⟨hf, hm⟩ v rfl
    have g' := g.fs hf
    refine w_at 90 [2] ?_
    refine ⟨5, _, by (first | assumption | (simp only [z_nat, z_lit, ← Int32.ofInt_add, ← Int32.ofInt_sub, ← Int32.ofInt_mul]; exact congrArg Int32.ofInt (by omega)) | (simp only [z_nat, z_lit, ← Int32.ofInt_add, ← Int32.ofInt_sub, ← Int32.ofInt_mul]; done) | exact congrArg Int32.ofInt (by omega) | rfl), by (dsimp only; omega), g'.R5, ?_⟩
    exact z_le (t 17 0) (t 17 0) (fun _ => ⟨_, rfl, h0 M' hf hm⟩) (fun z => by omega)
  · rintro l M' hl ⟨hf, hm⟩ ih v rfl
    have g' := g.fs hf
    refine w_at 90 [2] ?_
    refine ⟨5, _, by (first | assumption | (simp only [z_nat, z_lit, ← Int32.ofInt_add, ← Int32.ofInt_sub, ← Int32.ofInt_mul]; exact congrArg Int32.ofInt (by omega)) | (simp only [z_nat, z_lit, ← Int32.ofInt_add, ← Int32.ofInt_sub, ← Int32.ofInt_mul]; done) | exact congrArg Int32.ofInt (by omega) | rfl), by (dsimp only; omega), g'.R5, ?_⟩
    refine z_le (t 17 0) (l : Int) (fun z => by omega) (fun _ => ?_)
    refine k_isSoR g' (wl.fs hf) bl l k pr hl hk (fun p hp => by rw [hf.c1 289]; exact hrow p hp) hd hp (fun M2 hf2 hs => bn_t (by decide) ?_) (fun M2 hf2 hs => bn_f (by decide) ⟨_, rfl, h1 M2 l (hf.tr hf2) ⟨hl, hs, hm⟩⟩)
    refine ih M2 ⟨hf.tr hf2, fun i hi => ?_⟩ _ (by (first | assumption | (simp only [z_nat, z_lit, ← Int32.ofInt_add, ← Int32.ofInt_sub, ← Int32.ofInt_mul]; exact congrArg Int32.ofInt (by omega)) | (simp only [z_nat, z_lit, ← Int32.ofInt_add, ← Int32.ofInt_sub, ← Int32.ofInt_mul]; done) | exact congrArg Int32.ofInt (by omega) | rfl))
    by_cases z : i = l
    · rw [z]
      exact hs
    · exact hm i (by omega)
/-- the row of a list -/
abbrev roE (n : sN) (e : Nat) : Nat → Nat := fun p => (n (6 * e + p)).toNat
theorem ro_d (ba : b_A t n) {e : Nat} (he : e < t 8 0) : dst (roE n e) (t 0 0) (t 5 0) := ⟨fun p hp => by have := (ba.bs he hp).1; show (n (6 * e + p)).toNat < _; omega, fun p p' hp hp' hne z => by
  have a := (ba.bs he hp).1
  have b := (ba.bs he hp').1
  have z : (n (6 * e + p)).toNat = (n (6 * e + p')).toNat := z
  exact ba.bn.2.2 e he p hp p' hp' hne (by omega)⟩
set_option maxRecDepth 100000 in
set_option maxHeartbeats 4000000 in
theorem k_laysRow (g : g_R M t n) {a : Int32} (e : Nat) (he : e < t 8 0) (hQ : ∀ M', q_fs [289] [] M M' → g_Y M' (roE n e) (t 0 0) → Q none M') (ha : a = nI e := by (first | assumption | (simp only [z_nat, z_lit, ← Int32.ofInt_add, ← Int32.ofInt_sub, ← Int32.ofInt_mul]; exact congrArg Int32.ofInt (by omega)) | (simp only [z_nat, z_lit, ← Int32.ofInt_add, ← Int32.ofInt_sub, ← Int32.ofInt_mul]; done) | exact congrArg Int32.ofInt (by omega) | rfl)) : q_C q_mt (L, xs, q_shp) E nX12_laysRow (d) 0 0 [.ref 271, .int (a)] M Q := by
  subst ha
  have h6 := g.r6
  have e6 := g.e6
  have W := lp_m (W := fun p M' => ∀ v, v = nI p → q_G q_mt (L, xs, q_shp) E nX12_laysRow (d) 0 0 (q_Q (L, xs, q_shp) E Q) 2 [some (.ref 271), some (.int (nI e)), some (.int (v))] [] M') (J := fun p M' => q_fs [289] [] M M' ∧ g_Y M' (roE n e) p) (t 0 0) ?_ ?_ 0 M (Nat.zero_le _) ⟨q_fs.rf, fun p hp => absurd hp (Nat.not_lt_zero _)⟩
  · refine w_in 90 [2] ?_
    exact W _ rfl
  · rintro M' ⟨hf, hm⟩ v rfl
    have g' := g.fs hf
    refine w_at 90 [2] ?_
    refine ⟨0, _, by (first | assumption | (simp only [z_nat, z_lit, ← Int32.ofInt_add, ← Int32.ofInt_sub, ← Int32.ofInt_mul]; exact congrArg Int32.ofInt (by omega)) | (simp only [z_nat, z_lit, ← Int32.ofInt_add, ← Int32.ofInt_sub, ← Int32.ofInt_mul]; done) | exact congrArg Int32.ofInt (by omega) | rfl), by (dsimp only; omega), g'.R0, ?_⟩
    exact z_le (t 0 0) (t 0 0) (fun _ => hQ M' hf hm) (fun z => by omega)
  · rintro p M' hp ⟨hf, hm⟩ ih v rfl
    have g' := g.fs hf
    have bs := (g.bs he hp).1
    have er : M'.1 284 (6 * e + p) = nI (roE n e p) := by
      rw [g'.at (by omega), z_nat]
      exact congrArg Int32.ofInt (by show _ = ((n (6 * e + p)).toNat : Int); omega)
    refine w_at 90 [2] ?_
    refine ⟨0, _, by (first | assumption | (simp only [z_nat, z_lit, ← Int32.ofInt_add, ← Int32.ofInt_sub, ← Int32.ofInt_mul]; exact congrArg Int32.ofInt (by omega)) | (simp only [z_nat, z_lit, ← Int32.ofInt_add, ← Int32.ofInt_sub, ← Int32.ofInt_mul]; done) | exact congrArg Int32.ofInt (by omega) | rfl), by (dsimp only; omega), g'.R0, ?_⟩
    refine z_le (t 0 0) (p : Int) (fun z => by omega) (fun _ => ?_)
    refine ⟨6 * e + p, _, by (first | assumption | (simp only [z_nat, z_lit, ← Int32.ofInt_add, ← Int32.ofInt_sub, ← Int32.ofInt_mul]; exact congrArg Int32.ofInt (by omega)) | (simp only [z_nat, z_lit, ← Int32.ofInt_add, ← Int32.ofInt_sub, ← Int32.ofInt_mul]; done) | exact congrArg Int32.ofInt (by omega) | rfl), by (dsimp only; omega), er, ?_⟩
    refine ⟨p, _, by (first | assumption | (simp only [z_nat, z_lit, ← Int32.ofInt_add, ← Int32.ofInt_sub, ← Int32.ofInt_mul]; exact congrArg Int32.ofInt (by omega)) | (simp only [z_nat, z_lit, ← Int32.ofInt_add, ← Int32.ofInt_sub, ← Int32.ofInt_mul]; done) | exact congrArg Int32.ofInt (by omega) | rfl), by (dsimp only; omega), rfl, ?_⟩
    refine ih _ ⟨hf.s1, fun i hi => ?_⟩ _ (by (first | assumption | (simp only [z_nat, z_lit, ← Int32.ofInt_add, ← Int32.ofInt_sub, ← Int32.ofInt_mul]; exact congrArg Int32.ofInt (by omega)) | (simp only [z_nat, z_lit, ← Int32.ofInt_add, ← Int32.ofInt_sub, ← Int32.ofInt_mul]; done) | exact congrArg Int32.ofInt (by omega) | rfl))
    by_cases z : i = p
    · rw [z, q_si_s]
    · rw [q_si_n z]
      exact hm i (by omega)
set_option maxRecDepth 100000 in
set_option maxHeartbeats 4000000 in
theorem k_pairOf (g : g_R M t n) {a : Int32} (e : Nat) (he : e < t 8 0) (hQ : Q (some (.int (nI (t 9 e)))) M) (ha : a = nI e := by (first | assumption | (simp only [z_nat, z_lit, ← Int32.ofInt_add, ← Int32.ofInt_sub, ← Int32.ofInt_mul]; exact congrArg Int32.ofInt (by omega)) | (simp only [z_nat, z_lit, ← Int32.ofInt_add, ← Int32.ofInt_sub, ← Int32.ofInt_mul]; done) | exact congrArg Int32.ofInt (by omega) | rfl)) : q_C q_mt (L, xs, q_shp) E nX12_pairOf (d) 0 0 [.ref 271, .int (a)] M Q := by
  subst ha
  have e6 := g.e6
  refine w_in 90 [] ?_
  refine ⟨50 + 2 * e, _, by (first | assumption | (simp only [z_nat, z_lit, ← Int32.ofInt_add, ← Int32.ofInt_sub, ← Int32.ofInt_mul]; exact congrArg Int32.ofInt (by omega)) | (simp only [z_nat, z_lit, ← Int32.ofInt_add, ← Int32.ofInt_sub, ← Int32.ofInt_mul]; done) | exact congrArg Int32.ofInt (by omega) | rfl), by (dsimp only; omega), (g.en he).1, ?_⟩
  exact ⟨_, rfl, hQ⟩
/-- the first place where a row breaks -/
def isFb (t : q_T) (row : Nat → Nat) (pr p : Nat) : Prop := p < t 0 0 ∧ ¬ obey t (stO row p) (row p) pr ∧ ∀ i, i < p → obey t (stO row i) (row i) pr
def allOb (t : q_T) (row : Nat → Nat) (pr : Nat) : Prop := ∀ i, i < t 0 0 → obey t (stO row i) (row i) pr
theorem isBk.no {S x pr l : Nat} (h : isBk t S x pr l) : ¬ obey t S x pr := fun z => by
  have a := z l h.1
  rw [h.2.1] at a
  cases a
set_option maxRecDepth 100000 in
set_option maxHeartbeats 4000000 in
theorem k_firstBroken (g : g_R M t n) (wl : g_W M t) (bl : b_L t) {row : Nat → Nat} {a : Int32} (e : Nat) (he : e < t 8 0) (hrow : g_Y M row (t 0 0)) (hd : dst row (t 0 0) (t 5 0)) (h1 : ∀ M' p, q_fs [290] [] M M' → isFb t row (t 9 e) p → Q (some (.int (nI p))) M') (h0 : ∀ M', q_fs [290] [] M M' → allOb t row (t 9 e) → Q (some (.int (Int32.ofInt (-1)))) M') (ha : a = nI e := by (first | assumption | (simp only [z_nat, z_lit, ← Int32.ofInt_add, ← Int32.ofInt_sub, ← Int32.ofInt_mul]; exact congrArg Int32.ofInt (by omega)) | (simp only [z_nat, z_lit, ← Int32.ofInt_add, ← Int32.ofInt_sub, ← Int32.ofInt_mul]; done) | exact congrArg Int32.ofInt (by omega) | rfl)) : q_C q_mt (L, xs, q_shp) E nX12_firstBroken (d + 4) 0 0 [.ref 271, .int (a)] M Q := by
  subst ha
  have h6 := g.r6
  have be := (g.be he).1
  have W := lp_m (W := fun p M' => ∀ v, v = nI p → q_G q_mt (L, xs, q_shp) E nX12_firstBroken (d + 4) 0 0 (q_Q (L, xs, q_shp) E Q) 2 [some (.ref 271), some (.int (nI e)), some (.int (v))] [] M') (J := fun p M' => q_fs [290] [] M M' ∧ ∀ i, i < p → obey t (stO row i) (row i) (t 9 e)) (t 0 0) ?_ ?_ 0 M (Nat.zero_le _) ⟨q_fs.rf, fun i hi => absurd hi (Nat.not_lt_zero _)⟩
  · refine w_in 90 [2] ?_
    exact W _ rfl
  · rintro M' ⟨hf, hm⟩ v rfl
    have g' := g.fs hf
    refine w_at 90 [2] ?_
    refine ⟨0, _, by (first | assumption | (simp only [z_nat, z_lit, ← Int32.ofInt_add, ← Int32.ofInt_sub, ← Int32.ofInt_mul]; exact congrArg Int32.ofInt (by omega)) | (simp only [z_nat, z_lit, ← Int32.ofInt_add, ← Int32.ofInt_sub, ← Int32.ofInt_mul]; done) | exact congrArg Int32.ofInt (by omega) | rfl), by (dsimp only; omega), g'.R0, ?_⟩
    exact z_le (t 0 0) (t 0 0) (fun _ => ⟨_, rfl, h0 M' hf hm⟩) (fun z => by omega)
  · rintro p M' hp ⟨hf, hm⟩ ih v rfl
    have g' := g.fs hf
    have l6 := bl.1
    refine w_at 90 [2] ?_
    refine ⟨0, _, by (first | assumption | (simp only [z_nat, z_lit, ← Int32.ofInt_add, ← Int32.ofInt_sub, ← Int32.ofInt_mul]; exact congrArg Int32.ofInt (by omega)) | (simp only [z_nat, z_lit, ← Int32.ofInt_add, ← Int32.ofInt_sub, ← Int32.ofInt_mul]; done) | exact congrArg Int32.ofInt (by omega) | rfl), by (dsimp only; omega), g'.R0, ?_⟩
    refine z_le (t 0 0) (p : Int) (fun z => by omega) (fun _ => ?_)
    refine k_pairOf g' e he ?_
    refine k_brokenAt g' (wl.fs hf) bl p (t 9 e) (by omega) (fun i hi => by rw [hf.c1 289]; exact hrow i (by omega)) (hd.le (by omega)) be (fun M2 l hf2 hs => ?_) (fun M2 hf2 hs => ?_)
    · have := hs.1
      exact z_eq (l : Int) (-1) (fun z => by omega) (fun _ => ⟨_, rfl, h1 M2 p (hf.tr hf2) ⟨hp, hs.no, hm⟩⟩)
    · refine z_eq (-1) (-1) (fun _ => ?_) (fun z => absurd rfl z)
      refine ih M2 ⟨hf.tr hf2, fun i hi => ?_⟩ _ (by (first | assumption | (simp only [z_nat, z_lit, ← Int32.ofInt_add, ← Int32.ofInt_sub, ← Int32.ofInt_mul]; exact congrArg Int32.ofInt (by omega)) | (simp only [z_nat, z_lit, ← Int32.ofInt_add, ← Int32.ofInt_sub, ← Int32.ofInt_mul]; done) | exact congrArg Int32.ofInt (by omega) | rfl))
      by_cases z : i = p
      · rw [z]
        exact hs
      · exact hm i (by omega)
end L4
