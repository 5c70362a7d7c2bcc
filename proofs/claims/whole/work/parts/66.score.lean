/-! the class's points of a seated dive -/
def bcF (x : Int32) : Int32 :=
  let a := x - ((x.toUInt32 >>> ((Int32.ofInt 1).toUInt32 &&& Int32.toUInt32 31)).toInt32 &&& Int32.ofInt 1431655765)
  let b := (a &&& Int32.ofInt 858993459) + ((a.toUInt32 >>> ((Int32.ofInt 2).toUInt32 &&& Int32.toUInt32 31)).toInt32 &&& Int32.ofInt 858993459)
  let c := (b + (b.toUInt32 >>> ((Int32.ofInt 4).toUInt32 &&& Int32.toUInt32 31)).toInt32) &&& Int32.ofInt 252645135
  let e := c + (c.toUInt32 >>> ((Int32.ofInt 8).toUInt32 &&& Int32.toUInt32 31)).toInt32
  let f := e + (e.toUInt32 >>> ((Int32.ofInt 16).toUInt32 &&& Int32.toUInt32 31)).toInt32
  f &&& Int32.ofInt 63
theorem bcF_ok : ∀ K, K < 2048 → bcF (nI K) = nI (fb_ct (fun j => K.testBit j) 11) := by decide +kernel
theorem bt_nat {K j : Nat} (hj : j < 32) : bt (nI K) j = K.testBit j := by
  unfold bt
  show (BitVec.ofNat 32 K).getLsbD j = _
  rw [BitVec.getLsbD_ofNat, decide_eq_true hj, Bool.true_and]
theorem bc_ok {x : Int32} {p : Nat → Bool} (h : ∀ j, j < 32 → bt x j = (decide (j < 11) && p j)) : bcF x = nI (fb_ct p 11) := by
  obtain ⟨K, hK, rfl⟩ := wb_of32 x
  have h2 : K < 2048 := by
    refine Nat.lt_pow_two_of_testBit (n := 11) K (fun i hi => ?_)
    by_cases q : i < 32
    · rw [← bt_nat q, h i q, decide_eq_false (by omega), Bool.false_and]
    · exact Nat.testBit_lt_two_pow (Nat.lt_of_lt_of_le hK (Nat.pow_le_pow_right (by decide) (by omega)))
  rw [bcF_ok K h2]
  refine congrArg nI (fb_ct_cong (fun j hj => ?_))
  rw [← bt_nat (by omega), h j (by omega), decide_eq_true hj, Bool.true_and]
/-- the mask of some judges -/
def isMk (x : Int32) (p : Nat → Prop) : Prop := ∀ j, j < 32 → (bt x j = true ↔ p j)
theorem isMk.un {x y : Int32} {p : Nat → Prop} (h : isMk x p) (h' : isMk y p) : x = y := b_ext (fun i hi => by
  have a := h i hi
  have b := h' i hi
  rw [← b] at a
  cases q1 : bt x i <;> cases q2 : bt y i <;> simp_all)
section SC
variable {S : Nat → Bool} {m : Nat → Int} {cap bal hal deg : Int} {dr : Nat}
variable {L : Nat} {xs : Nat → Int32} {E : q_E} {d : Nat} {M : q_M} {t : q_T} {n : sN} {Q : Option Value → q_M → Prop} {P : q_M → Prop}
set_option maxRecDepth 100000 in
set_option maxHeartbeats 4000000 in
theorem p_bitCount {a : Int32} (hQ : Q (some (.int (bcF a))) M) : q_C q_mt (L, xs, q_shp) E nJ6_bitCount (d) 0 0 [.int (a)] M Q := by
  refine w_in 90 [] ?_
  exact ⟨_, rfl, hQ⟩
/-- trim's three masks -/
def t_m (x y z x' y' z' : Int32) (R : Nat → Nat) (dd c i : Nat) : Prop := isMk x' (fun j => bt x j = true ∨ ∃ q, q < i ∧ dd ≤ q ∧ q < c - dd ∧ R q = j) ∧ isMk y' (fun j => bt y j = true ∨ ∃ q, q < i ∧ q < dd ∧ R q = j) ∧ isMk z' (fun j => bt z j = true ∨ ∃ q, q < i ∧ dd ≤ q ∧ c - dd ≤ q ∧ R q = j)
theorem isMk.or {x : Int32} {p p' : Nat → Prop} {a : Nat} (h : isMk x p) (ha : a < 32) (h' : ∀ j, p' j ↔ (p j ∨ j = a)) : isMk (x ||| ((1 : Int32) <<< (nI a &&& 31))) p' := fun j hj => by
  rw [b_set ha hj, Bool.or_eq_true, h j hj, h', decide_eq_true_eq]
theorem isMk.co {x : Int32} {p p' : Nat → Prop} (h : isMk x p) (h' : ∀ j, p' j ↔ p j) : isMk x p' := fun j hj => by rw [h j hj, h']
set_option maxRecDepth 100000 in
set_option maxHeartbeats 4000000 in
theorem p_trim {a : Int32} (c : Nat) (R : Nat → Nat) (hc : c ≤ 11) (hdr : M.1 238 4 = nI dr ∧ dr ≤ 3) (hR : ∀ q, q < c → M.1 241 q = nI (R q) ∧ R q < 11) (hQ : ∀ M', q_fs [] fP M M' → t_m (M.1 238 10) (M.1 238 11) (M.1 238 12) (M'.1 238 10) (M'.1 238 11) (M'.1 238 12) R (dwn dr c) c c → Q none M') (ha : a = nI c := by (first | assumption | (simp only [z_nat, z_lit, ← Int32.ofInt_add, ← Int32.ofInt_sub, ← Int32.ofInt_mul]; exact congrArg Int32.ofInt (by omega)) | (simp only [z_nat, z_lit, ← Int32.ofInt_add, ← Int32.ofInt_sub, ← Int32.ofInt_mul]; done) | exact congrArg Int32.ofInt (by omega) | rfl)) : q_C q_mt (L, xs, q_shp) E nX5_trim (d + 1) 0 0 [.ref 238, .int (a)] M Q := by
  subst ha
  have hd : dwn dr c ≤ c := by unfold dwn; omega
  have W := lp_m (W := fun i M' => ∀ x v w, x = nI (dwn dr c) → v = nI i → q_G q_mt (L, xs, q_shp) E nX5_trim (d + 1) 0 0 (q_Q (L, xs, q_shp) E Q) 15 [some (.ref 238), some (.int (nI c)), some (.int (x)), some (.int (v)), w] [] M') (J := fun i M' => q_fs [] fP M M' ∧ t_m (M.1 238 10) (M.1 238 11) (M.1 238 12) (M'.1 238 10) (M'.1 238 11) (M'.1 238 12) R (dwn dr c) c i) c ?_ ?_ 0 M (Nat.zero_le _) ⟨q_fs.rf, fun j hj => ⟨Or.inl, fun z => z.elim id (fun ⟨q, h, _⟩ => absurd h (Nat.not_lt_zero _))⟩, fun j hj => ⟨Or.inl, fun z => z.elim id (fun ⟨q, h, _⟩ => absurd h (Nat.not_lt_zero _))⟩, fun j hj => ⟨Or.inl, fun z => z.elim id (fun ⟨q, h, _⟩ => absurd h (Nat.not_lt_zero _))⟩⟩
  · have e : (nI c - Int32.ofInt 1) / Int32.ofInt 2 = nI ((c - 1) / 2) := by
      have : ∀ b, b ≤ 11 → (nI b - Int32.ofInt 1) / Int32.ofInt 2 = nI ((b - 1) / 2) := by decide
      exact this c hc
    refine w_in 90 [15] ?_
    refine ⟨_, hdr.1, ?_⟩
    refine And.intro (by decide) ?_
    have e2 : (if (nI c - Int32.ofInt 1) / Int32.ofInt 2 < nI dr then (nI c - Int32.ofInt 1) / Int32.ofInt 2 else nI dr) = nI (dwn dr c) := by
      rw [e, z_nat, z_nat, z_min (by omega) (by omega), z_nat]
      unfold dwn
      exact congrArg Int32.ofInt (by omega)
    exact W _ _ _ e2 rfl
  · rintro M' ⟨hf, hm⟩ x v w rfl rfl
    refine w_at 90 [15] ?_
    exact z_le (c : Int) (c : Int) (fun h => hQ M' hf hm) (fun h => by omega)
  · rintro i M' hi ⟨hf, hm1, hm2, hm3⟩ ih x v w rfl rfl
    have hr := hR i hi
    have e41 : M'.1 241 i = nI (R i) := by rw [hf.c1 241]; exact hr.1
    refine w_at 90 [15] ?_
    refine z_le (c : Int) (i : Int) (fun h => by omega) (fun h => ?_)
    refine ⟨i, _, by (first | assumption | (simp only [z_nat, z_lit, ← Int32.ofInt_add, ← Int32.ofInt_sub, ← Int32.ofInt_mul]; exact congrArg Int32.ofInt (by omega)) | (simp only [z_nat, z_lit, ← Int32.ofInt_add, ← Int32.ofInt_sub, ← Int32.ofInt_mul]; done) | exact congrArg Int32.ofInt (by omega) | rfl), by (dsimp only; omega), e41, ?_⟩
    refine z_le (dwn dr c : Int) (i : Int) (fun h1 => ?_) (fun h1 => ?_)
    · refine z_lt (i : Int) ((c : Int) - dwn dr c) (fun h2 => ?_) (fun h2 => ?_)
      · refine ⟨_, rfl, ?_⟩
        refine ⟨_, rfl, ?_⟩
        refine ih _ ⟨hf.s1, ?_⟩ _ _ _ rfl (by (first | assumption | (simp only [z_nat, z_lit, ← Int32.ofInt_add, ← Int32.ofInt_sub, ← Int32.ofInt_mul]; exact congrArg Int32.ofInt (by omega)) | (simp only [z_nat, z_lit, ← Int32.ofInt_add, ← Int32.ofInt_sub, ← Int32.ofInt_mul]; done) | exact congrArg Int32.ofInt (by omega) | rfl))
        refine ⟨?_, ?_, ?_⟩
        · rw [q_si_s]
          refine hm1.or (by omega) (fun j => ?_)
          constructor
          · rintro (z | ⟨q, z1, z2, z3, z4⟩)
            · exact Or.inl (Or.inl z)
            · by_cases qi : q = i
              · exact Or.inr (by rw [← z4, qi])
              · exact Or.inl (Or.inr ⟨q, by omega, z2, z3, z4⟩)
          · rintro ((z | ⟨q, z1, z2, z3, z4⟩) | z)
            · exact Or.inl z
            · exact Or.inr ⟨q, by omega, z2, z3, z4⟩
            · exact Or.inr ⟨i, by omega, by omega, by omega, z.symm⟩
        · rw [q_si_n (by decide)]
          refine hm2.co (fun j => ?_)
          constructor
          · rintro (z | ⟨q, z1, z2, z4⟩)
            · exact Or.inl z
            · exact Or.inr ⟨q, by omega, z2, z4⟩
          · rintro (z | ⟨q, z1, z2, z4⟩)
            · exact Or.inl z
            · exact Or.inr ⟨q, by omega, z2, z4⟩
        · rw [q_si_n (by decide)]
          refine hm3.co (fun j => ?_)
          constructor
          · rintro (z | ⟨q, z1, z2, z3, z4⟩)
            · exact Or.inl z
            · exact Or.inr ⟨q, by omega, z2, z3, z4⟩
          · rintro (z | ⟨q, z1, z2, z3, z4⟩)
            · exact Or.inl z
            · exact Or.inr ⟨q, by omega, z2, z3, z4⟩
      · refine ⟨_, rfl, ?_⟩
        refine ⟨_, rfl, ?_⟩
        refine ih _ ⟨hf.s1, ?_⟩ _ _ _ rfl (by (first | assumption | (simp only [z_nat, z_lit, ← Int32.ofInt_add, ← Int32.ofInt_sub, ← Int32.ofInt_mul]; exact congrArg Int32.ofInt (by omega)) | (simp only [z_nat, z_lit, ← Int32.ofInt_add, ← Int32.ofInt_sub, ← Int32.ofInt_mul]; done) | exact congrArg Int32.ofInt (by omega) | rfl))
        refine ⟨?_, ?_, ?_⟩
        · rw [q_si_n (by decide)]
          refine hm1.co (fun j => ?_)
          constructor
          · rintro (z | ⟨q, z1, z2, z3, z4⟩)
            · exact Or.inl z
            · exact Or.inr ⟨q, by omega, z2, z3, z4⟩
          · rintro (z | ⟨q, z1, z2, z3, z4⟩)
            · exact Or.inl z
            · exact Or.inr ⟨q, by omega, z2, z3, z4⟩
        · rw [q_si_n (by decide)]
          refine hm2.co (fun j => ?_)
          constructor
          · rintro (z | ⟨q, z1, z2, z4⟩)
            · exact Or.inl z
            · exact Or.inr ⟨q, by omega, z2, z4⟩
          · rintro (z | ⟨q, z1, z2, z4⟩)
            · exact Or.inl z
            · exact Or.inr ⟨q, by omega, z2, z4⟩
        · rw [q_si_s]
          refine hm3.or (by omega) (fun j => ?_)
          constructor
          · rintro (z | ⟨q, z1, z2, z3, z4⟩)
            · exact Or.inl (Or.inl z)
            · by_cases qi : q = i
              · exact Or.inr (by rw [← z4, qi])
              · exact Or.inl (Or.inr ⟨q, by omega, z2, z3, z4⟩)
          · rintro ((z | ⟨q, z1, z2, z3, z4⟩) | z)
            · exact Or.inl z
            · exact Or.inr ⟨q, by omega, z2, z3, z4⟩
            · exact Or.inr ⟨i, by omega, by omega, by omega, z.symm⟩
    · refine ⟨_, rfl, ?_⟩
      refine ⟨_, rfl, ?_⟩
      refine ih _ ⟨hf.s1, ?_⟩ _ _ _ rfl (by (first | assumption | (simp only [z_nat, z_lit, ← Int32.ofInt_add, ← Int32.ofInt_sub, ← Int32.ofInt_mul]; exact congrArg Int32.ofInt (by omega)) | (simp only [z_nat, z_lit, ← Int32.ofInt_add, ← Int32.ofInt_sub, ← Int32.ofInt_mul]; done) | exact congrArg Int32.ofInt (by omega) | rfl))
      refine ⟨?_, ?_, ?_⟩
      · rw [q_si_n (by decide)]
        refine hm1.co (fun j => ?_)
        constructor
        · rintro (z | ⟨q, z1, z2, z3, z4⟩)
          · exact Or.inl z
          · exact Or.inr ⟨q, by omega, z2, z3, z4⟩
        · rintro (z | ⟨q, z1, z2, z3, z4⟩)
          · exact Or.inl z
          · exact Or.inr ⟨q, by omega, z2, z3, z4⟩
      · rw [q_si_s]
        refine hm2.or (by omega) (fun j => ?_)
        constructor
        · rintro (z | ⟨q, z1, z2, z4⟩)
          · exact Or.inl (Or.inl z)
          · by_cases qi : q = i
            · exact Or.inr (by rw [← z4, qi])
            · exact Or.inl (Or.inr ⟨q, by omega, z2, z4⟩)
        · rintro ((z | ⟨q, z1, z2, z4⟩) | z)
          · exact Or.inl z
          · exact Or.inr ⟨q, by omega, z2, z4⟩
          · exact Or.inr ⟨i, by omega, by omega, z.symm⟩
      · rw [q_si_n (by decide)]
        refine hm3.co (fun j => ?_)
        constructor
        · rintro (z | ⟨q, z1, z2, z3, z4⟩)
          · exact Or.inl z
          · exact Or.inr ⟨q, by omega, z2, z3, z4⟩
        · rintro (z | ⟨q, z1, z2, z3, z4⟩)
          · exact Or.inl z
          · exact Or.inr ⟨q, by omega, z2, z3, z4⟩
/-- what a score leaves -/
def pD (M : q_M) (t : q_T) (S : Nat → Bool) (c : Nat → Int) (dr s : Nat) : Prop := (∀ j, j < t 2 0 → S j = true → t 4 j < s → M.1 240 j = Int32.ofInt (c j)) ∧ isMk (M.1 238 10) (fun j => j < t 2 0 ∧ S j = true ∧ t 4 j < s ∧ fat t S c dr j = 2) ∧ isMk (M.1 238 11) (fun j => j < t 2 0 ∧ S j = true ∧ t 4 j < s ∧ fat t S c dr j = 0) ∧ isMk (M.1 238 12) (fun j => j < t 2 0 ∧ S j = true ∧ t 4 j < s ∧ fat t S c dr j = 1)
set_option maxRecDepth 100000 in
set_option maxHeartbeats 4000000 in
theorem p_score (k : g_K M t) (p : g_P M t S m cap bal hal deg dr) (hS : ∀ j, j < t 2 0 → S j = true → 0 ≤ m j) (hQ : ∀ M', q_fs [240, 241] fP M M' → pD M' t S (cvt t m cap bal hal) dr 4 → Q (some (.int (Int32.ofInt (ptS t S (cvt t m cap bal hal) dr deg)))) M') : q_C q_mt (L, xs, q_shp) E nX5_score (d + 3) 0 0 [.ref 238] M Q := by
  have h11 := k.2.1
  have J0 : ∀ {M' : q_M}, q_fs [240, 241] fP M M' → g_K M' t ∧ g_P M' t S m cap bal hal deg dr := fun h => ⟨k.eq (h.c1 6) (h.c1 8), p.fs h⟩
  have hc0 : ∀ j, j < t 2 0 → S j = true → 0 ≤ cvt t m cap bal hal j ∧ cvt t m cap bal hal j ≤ 20 := fun j hj hs => ⟨cvl_0 (hS j hj hs) p.2.2.1.2.1, (cvl_b (p.2.1 j hj).2 p.2.2.1.2.1).2⟩
  have W41 : ∀ M', q_fs [240, 241] fP M M' → pD M' t S (cvt t m cap bal hal) dr 4 → q_G q_mt (L, xs, q_shp) E nX5_score (d + 3) 0 0 (q_Q (L, xs, q_shp) E Q) 41 [some (.ref 238), some (.int (Int32.ofInt 0)), some (.int (Int32.ofInt 0))] [] M' := by
    intro M' hf hp
    obtain ⟨k', p'⟩ := J0 hf
    have hm : ∀ j, j < 32 → (bt (M'.1 238 10) j = true ↔ j < t 2 0 ∧ kpt t S (cvt t m cap bal hal) dr j = true) := by
      intro j hj
      rw [hp.2.1 j hj]
      unfold kpt
      rw [Bool.and_eq_true, decide_eq_true_eq]
      constructor
      · rintro ⟨a, b, -, e⟩
        exact ⟨a, b, e⟩
      · rintro ⟨a, b, e⟩
        have := k.2.2 j a
        exact ⟨a, b, by omega, e⟩
    have W := lp_up (W := fun i => ∀ u v, u = Int32.ofInt (smS t S (cvt t m cap bal hal) dr i) → v = nI i → q_G q_mt (L, xs, q_shp) E nX5_score (d + 3) 0 0 (q_Q (L, xs, q_shp) E Q) 41 [some (.ref 238), some (.int (u)), some (.int (v))] [] M') (t 2 0) ?_ ?_ 0 (Nat.zero_le _)
    · exact W _ _ rfl rfl
    · rintro u v rfl rfl
      have hs := smS_b (t := t) (dr := dr) hc0
      have hc := fb_ct_le (kpt t S (cvt t m cap bal hal) dr) (t 2 0)
      have hbc : bcF (M'.1 238 10) = nI (fb_ct (kpt t S (cvt t m cap bal hal) dr) (t 2 0)) := by
        rw [bc_ok (p := fun j => decide (j < t 2 0) && kpt t S (cvt t m cap bal hal) dr j)]
        · refine congrArg nI (ct_eq h11 (fun i hi => ?_) (fun i z1 z2 => ?_))
          · rw [decide_eq_true hi, Bool.true_and]
          · rw [decide_eq_false (by omega), Bool.false_and]
        · intro j hj
          have := hm j hj
          by_cases q : j < t 2 0
          · rw [decide_eq_true q, decide_eq_true (by omega), Bool.true_and, Bool.true_and]
            cases q1 : bt (M'.1 238 10) j <;> cases q2 : kpt t S (cvt t m cap bal hal) dr j <;> simp_all
          · rw [decide_eq_false q, Bool.false_and, Bool.and_false]
            cases q1 : bt (M'.1 238 10) j with
            | false => rfl
            | true => exact absurd (this.mp q1).1 q
      have hQ := hQ M' hf hp
      unfold ptS at hQ
      refine w_at 90 [41] ?_
      refine ⟨_, k'.1.1, ?_⟩
      refine z_le (t 2 0) (t 2 0) (fun h => ?_) (fun h => by omega)
      refine ⟨_, rfl, ?_⟩
      refine p_bitCount ?_
      rw [hbc]
      refine z_ne (fb_ct (kpt t S (cvt t m cap bal hal) dr) (t 2 0)) 0 (fun h1 => ?_) (fun h1 => ?_)
      · rw [if_neg (by omega)] at hQ
        refine ⟨_, p'.2.2.2.2.2.1.1, ?_⟩
        refine And.intro ?_ ?_
        · intro z
          rw [z_nat, show (0 : Int32) = Int32.ofInt 0 from rfl, z_inj (by omega) (by omega)] at z
          exact h1 z
        · refine ⟨_, ?_, hQ⟩
          have hd := p'.2.2.2.2.2.1.2
          generalize hsm : smS t S (cvt t m cap bal hal) dr (t 2 0) = s at *
          have hs2 : s ≤ 220 := by omega
          have hp0 : 0 ≤ s * 15 * deg := Int.mul_nonneg (Int.mul_nonneg hs.1 (by omega)) hd.1
          have hp1 : s * 15 * deg ≤ 3300 * 60 := Int.mul_le_mul (by omega) hd.2 hd.1 (by omega)
          rw [← z_div (by omega) (by omega)]
          (first | assumption | (simp only [z_nat, z_lit, ← Int32.ofInt_add, ← Int32.ofInt_sub, ← Int32.ofInt_mul]; exact congrArg Int32.ofInt (by omega)) | (simp only [z_nat, z_lit, ← Int32.ofInt_add, ← Int32.ofInt_sub, ← Int32.ofInt_mul]; done) | exact congrArg Int32.ofInt (by omega) | rfl)
      · rw [if_pos (by omega)] at hQ
        exact ⟨_, rfl, hQ⟩
    · rintro i hi ih u v rfl rfl
      have hx := b_at (x := M'.1 238 10) (j := i) (by omega)
      have hmi := hm i (by omega)
      refine w_at 90 [41] ?_
      refine ⟨_, k'.1.1, ?_⟩
      refine z_le (t 2 0) i (fun h => by omega) (fun h => ?_)
      refine ⟨_, rfl, ?_⟩
      cases q : bt (M'.1 238 10) i with
      | true =>
        rw [q] at hx
        have hk := (hmi.mp q).2
        have hS2 : S i = true := by unfold kpt at hk; exact (Bool.and_eq_true _ _ |>.mp hk).1
        have h4 := k.2.2 i hi
        refine z_ne 1 1 (fun z => absurd rfl z) (fun _ => ?_) (hx := hx)
        refine ⟨i, _, by (first | assumption | (simp only [z_nat, z_lit, ← Int32.ofInt_add, ← Int32.ofInt_sub, ← Int32.ofInt_mul]; exact congrArg Int32.ofInt (by omega)) | (simp only [z_nat, z_lit, ← Int32.ofInt_add, ← Int32.ofInt_sub, ← Int32.ofInt_mul]; done) | exact congrArg Int32.ofInt (by omega) | rfl), by (dsimp only; omega), hp.1 i hi hS2 (by omega), ?_⟩
        refine ih _ _ ?_ (by (first | assumption | (simp only [z_nat, z_lit, ← Int32.ofInt_add, ← Int32.ofInt_sub, ← Int32.ofInt_mul]; exact congrArg Int32.ofInt (by omega)) | (simp only [z_nat, z_lit, ← Int32.ofInt_add, ← Int32.ofInt_sub, ← Int32.ofInt_mul]; done) | exact congrArg Int32.ofInt (by omega) | rfl))
        unfold smS
        rw [fb_si_succ, if_pos hk]
        (first | assumption | (simp only [z_nat, z_lit, ← Int32.ofInt_add, ← Int32.ofInt_sub, ← Int32.ofInt_mul]; exact congrArg Int32.ofInt (by omega)) | (simp only [z_nat, z_lit, ← Int32.ofInt_add, ← Int32.ofInt_sub, ← Int32.ofInt_mul]; done) | exact congrArg Int32.ofInt (by omega) | rfl)
      | false =>
        rw [q] at hx
        have hk : kpt t S (cvt t m cap bal hal) dr i = false := Bool.eq_false_iff.mpr (fun z => absurd (q.symm.trans (hmi.mpr ⟨hi, z⟩)) (by decide))
        refine z_ne 0 1 (fun _ => ?_) (fun z => by omega) (hx := hx)
        refine ih _ _ ?_ (by (first | assumption | (simp only [z_nat, z_lit, ← Int32.ofInt_add, ← Int32.ofInt_sub, ← Int32.ofInt_mul]; exact congrArg Int32.ofInt (by omega)) | (simp only [z_nat, z_lit, ← Int32.ofInt_add, ← Int32.ofInt_sub, ← Int32.ofInt_mul]; done) | exact congrArg Int32.ofInt (by omega) | rfl))
        unfold smS
        rw [fb_si_succ, if_neg (by rw [hk]; decide), Int.add_zero]
  have W := lp_m (W := fun s M' => ∀ v w, v = nI s → q_G q_mt (L, xs, q_shp) E nX5_score (d + 3) 0 0 (q_Q (L, xs, q_shp) E Q) 17 [some (.ref 238), some (.int (v)), w] [] M') (J := fun s M' => q_fs [240, 241] fP M M' ∧ pD M' t S (cvt t m cap bal hal) dr s) 4 ?_ ?_ 0 (q_si (q_si (q_si M 238 10 (Int32.ofInt 0)) 238 11 (Int32.ofInt 0)) 238 12 (Int32.ofInt 0)) (by omega) ⟨q_fs.rf.s1.s1.s1, fun j _ _ z => absurd z (Nat.not_lt_zero _), ?_, ?_, ?_⟩
  · refine w_in 90 [17, 41] ?_
    refine ⟨_, rfl, ?_⟩
    refine ⟨_, rfl, ?_⟩
    refine ⟨_, rfl, ?_⟩
    exact W _ _ rfl
  · rintro M' ⟨hf, hp⟩ v w rfl
    refine w_at 90 [17, 41] ?_
    exact z_le 4 (4 : Nat) (fun h => W41 M' hf hp) (fun h => by omega)
  · rintro s M' hs ⟨hf, hp⟩ ih v w rfl
    obtain ⟨k', p'⟩ := J0 hf
    refine w_at 90 [17, 41] ?_
    refine z_le 4 s (fun h => by omega) (fun h => ?_)
    refine p_lineUp k' p' s (by omega) (fun M1 R hf1 hR hq h1 h0 => ?_)
    have hf2 : q_fs [240, 241] fP M M1 := hf.tr hf1.mono
    obtain ⟨k1, p1⟩ := J0 hf2
    have hpn : pan t S s ≤ 11 := Nat.le_trans (fb_ct_le _ _) h11
    refine p_trim (dr := dr) (pan t S s) R hpn p1.2.2.2.2.2.2 (fun q hq2 => ⟨hq q hq2, by have := (hR q hq2).1; omega⟩) (fun M2 hf3 hm => ?_)
    rw [hf1.p1 238 10, hf1.p1 238 11, hf1.p1 238 12] at hm
    have fa : ∀ j, j < t 2 0 → S j = true → t 4 j = s → rk (ofS t S s) (cvt t m cap bal hal) (t 2 0) j < pan t S s ∧ R (rk (ofS t S s) (cvt t m cap bal hal) (t 2 0) j) = j := fun j hj a b => ⟨rk_top (ofS_t.mpr ⟨a, b⟩) hj, hR.at (ofS_t.mpr ⟨a, b⟩) hj⟩
    have fb : ∀ q, q < pan t S s → R q < t 2 0 ∧ S (R q) = true ∧ t 4 (R q) = s ∧ rk (ofS t S s) (cvt t m cap bal hal) (t 2 0) (R q) = q := fun q hq => by
      have a := hR q hq
      have b := ofS_t.mp a.2.1
      exact ⟨a.1, b.1, b.2, a.2.2⟩
    have fc : ∀ j, j < t 2 0 → S j = true → t 4 j = s → fat t S (cvt t m cap bal hal) dr j = if rk (ofS t S s) (cvt t m cap bal hal) (t 2 0) j < dwn dr (pan t S s) then 0 else if pan t S s - dwn dr (pan t S s) ≤ rk (ofS t S s) (cvt t m cap bal hal) (t 2 0) j then 1 else 2 := fun j hj a b => by
      unfold fat
      rw [plc_rk b, b]
    refine ih M2 ⟨hf2.tr hf3.mono, fun j hj a b => ?_, hm.1.co (fun j => ?_), hm.2.1.co (fun j => ?_), hm.2.2.co (fun j => ?_)⟩ _ _ (by (first | assumption | (simp only [z_nat, z_lit, ← Int32.ofInt_add, ← Int32.ofInt_sub, ← Int32.ofInt_mul]; exact congrArg Int32.ofInt (by omega)) | (simp only [z_nat, z_lit, ← Int32.ofInt_add, ← Int32.ofInt_sub, ← Int32.ofInt_mul]; done) | exact congrArg Int32.ofInt (by omega) | rfl))
    · rw [hf3.c1 240]
      by_cases q : t 4 j = s
      · exact h1 j hj (ofS_t.mpr ⟨a, q⟩)
      · rw [h0 j hj (Bool.eq_false_iff.mpr (fun z => q (ofS_t.mp z).2))]
        exact hp.1 j hj a (by omega)
    · have hj32 : j < t 2 0 → j < 32 := fun z => by omega
      constructor
      · rintro ⟨a, b, e, f⟩
        by_cases q : t 4 j = s
        · have := fa j a b q
          rw [fc j a b q] at f
          refine Or.inr ⟨_, this.1, ?_, ?_, this.2⟩ <;> (split at f <;> first | omega | (split at f <;> omega))
        · exact Or.inl ((hp.2.1 j (hj32 a)).mpr ⟨a, b, by omega, f⟩)
      · rintro (z | ⟨q, z1, z2, z3, rfl⟩)
        · by_cases q : j < 32
          · have := (hp.2.1 j q).mp z
            exact ⟨this.1, this.2.1, by omega, this.2.2.2⟩
          · rw [b_big (by omega)] at z
            exact absurd z (by decide)
        · have := fb q z1
          refine ⟨this.1, this.2.1, by omega, ?_⟩
          rw [fc _ this.1 this.2.1 this.2.2.1, this.2.2.2, if_neg (by omega), if_neg (by omega)]
    · have hj32 : j < t 2 0 → j < 32 := fun z => by omega
      constructor
      · rintro ⟨a, b, e, f⟩
        by_cases q : t 4 j = s
        · have := fa j a b q
          rw [fc j a b q] at f
          refine Or.inr ⟨_, this.1, ?_, this.2⟩
          split at f
          · assumption
          · split at f <;> omega
        · exact Or.inl ((hp.2.2.1 j (hj32 a)).mpr ⟨a, b, by omega, f⟩)
      · rintro (z | ⟨q, z1, z2, rfl⟩)
        · by_cases q : j < 32
          · have := (hp.2.2.1 j q).mp z
            exact ⟨this.1, this.2.1, by omega, this.2.2.2⟩
          · rw [b_big (by omega)] at z
            exact absurd z (by decide)
        · have := fb q z1
          refine ⟨this.1, this.2.1, by omega, ?_⟩
          rw [fc _ this.1 this.2.1 this.2.2.1, this.2.2.2, if_pos (by omega)]
    · have hj32 : j < t 2 0 → j < 32 := fun z => by omega
      constructor
      · rintro ⟨a, b, e, f⟩
        by_cases q : t 4 j = s
        · have := fa j a b q
          rw [fc j a b q] at f
          refine Or.inr ⟨_, this.1, ?_, ?_, this.2⟩ <;> (split at f <;> first | omega | (split at f <;> omega))
        · exact Or.inl ((hp.2.2.2 j (hj32 a)).mpr ⟨a, b, by omega, f⟩)
      · rintro (z | ⟨q, z1, z2, z3, rfl⟩)
        · by_cases q : j < 32
          · have := (hp.2.2.2 j q).mp z
            exact ⟨this.1, this.2.1, by omega, this.2.2.2⟩
          · rw [b_big (by omega)] at z
            exact absurd z (by decide)
        · have := fb q z1
          refine ⟨this.1, this.2.1, by omega, ?_⟩
          rw [fc _ this.1 this.2.1 this.2.2.1, this.2.2.2, if_neg (by omega), if_pos (by omega)]
  · intro j hj
    rw [q_si_n (by decide), q_si_n (by decide), q_si_s]
    exact ⟨fun z => absurd ((b_0 j).symm.trans z) (by decide), fun z => absurd z.2.2.1 (Nat.not_lt_zero _)⟩
  · intro j hj
    rw [q_si_n (by decide), q_si_s]
    exact ⟨fun z => absurd ((b_0 j).symm.trans z) (by decide), fun z => absurd z.2.2.1 (Nat.not_lt_zero _)⟩
  · intro j hj
    rw [q_si_s]
    exact ⟨fun z => absurd ((b_0 j).symm.trans z) (by decide), fun z => absurd z.2.2.1 (Nat.not_lt_zero _)⟩
end SC
