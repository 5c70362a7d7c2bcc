/-! the class's points of a seated dive -/
def bcF (x : Int32) : Int32 :=
  let a := x - ((x.toUInt32 >>> ((Int32.ofInt 1).toUInt32 &&& Int32.toUInt32 31)).toInt32 &&& Int32.ofInt 1431655765)
  let b := (a &&& Int32.ofInt 858993459) + ((a.toUInt32 >>> ((Int32.ofInt 2).toUInt32 &&& Int32.toUInt32 31)).toInt32 &&& Int32.ofInt 858993459)
  let c := (b + (b.toUInt32 >>> ((Int32.ofInt 4).toUInt32 &&& Int32.toUInt32 31)).toInt32) &&& Int32.ofInt 252645135
  let e := c + (c.toUInt32 >>> ((Int32.ofInt 8).toUInt32 &&& Int32.toUInt32 31)).toInt32
  let f := e + (e.toUInt32 >>> ((Int32.ofInt 16).toUInt32 &&& Int32.toUInt32 31)).toInt32
  f &&& Int32.ofInt 63
theorem bcF_ok : ∀ K, K < 2048 → bcF (nI K) = nI (fb_ct (fun j => K.testBit j) 11) := by decide +kernel
theorem bt_nat {K j : Nat} (hj : j < 32) : bt (nI K) j = K.testBit j := by
  unfold bt
  show (BitVec.ofNat 32 K).getLsbD j = _
  rw [BitVec.getLsbD_ofNat, decide_eq_true hj, Bool.true_and]
theorem bc_ok {x : Int32} {p : Nat → Bool} (h : ∀ j, j < 32 → bt x j = (decide (j < 11) && p j)) : bcF x = nI (fb_ct p 11) := by
  obtain ⟨K, hK, rfl⟩ := wb_of32 x
  have h2 : K < 2048 := by
    refine Nat.lt_pow_two_of_testBit (n := 11) K (fun i hi => ?_)
    by_cases q : i < 32
    · rw [← bt_nat q, h i q, decide_eq_false (by omega), Bool.false_and]
    · exact Nat.testBit_lt_two_pow (Nat.lt_of_lt_of_le hK (Nat.pow_le_pow_right (by decide) (by omega)))
  rw [bcF_ok K h2]
  refine congrArg nI (fb_ct_cong (fun j hj => ?_))
  rw [← bt_nat (by omega), h j (by omega), decide_eq_true hj, Bool.true_and]
/-- the mask of some judges -/
def isMk (x : Int32) (p : Nat → Prop) : Prop := ∀ j, j < 32 → (bt x j = true ↔ p j)
theorem isMk.un {x y : Int32} {p : Nat → Prop} (h : isMk x p) (h' : isMk y p) : x = y := b_ext (fun i hi => by
  have a := h i hi
  have b := h' i hi
  rw [← b] at a
  cases q1 : bt x i <;> cases q2 : bt y i <;> simp_all)
section SC
variable {S : Nat → Bool} {m : Nat → Int} {cap bal hal deg : Int} {dr : Nat}
variable {L : Nat} {xs : Nat → Int32} {E : q_E} {d : Nat} {M : q_M} {t : q_T} {n : sN} {Q : Option Value → q_M → Prop} {P : q_M → Prop}
set_option maxRecDepth 100000 in
set_option maxHeartbeats 4000000 in
theorem p_bitCount {a : Int32} (hQ : Q (some (.int (bcF a))) M) : q_C q_mt (L, xs, q_shp) E nJ6_bitCount (d) 0 0 [.int (a)] M Q := by
  refine w_in 90 [] ?_
  exact ⟨_, rfl, hQ⟩
/-- trim's three masks -/
def t_m (x y z x' y' z' : Int32) (R : Nat → Nat) (dd c i : Nat) : Prop := isMk x' (fun j => bt x j = true ∨ ∃ q, q < i ∧ dd ≤ q ∧ q < c - dd ∧ R q = j) ∧ isMk y' (fun j => bt y j = true ∨ ∃ q, q < i ∧ q < dd ∧ R q = j) ∧ isMk z' (fun j => bt z j = true ∨ ∃ q, q < i ∧ dd ≤ q ∧ c - dd ≤ q ∧ R q = j)
theorem isMk.or {x : Int32} {p p' : Nat → Prop} {a : Nat} (h : isMk x p) (ha : a < 32) (h' : ∀ j, p' j ↔ (p j ∨ j = a)) : isMk (x ||| ((1 : Int32) <<< (nI a &&& 31))) p' := fun j hj => by
  rw [b_set ha hj, Bool.or_eq_true, h j hj, h', decide_eq_true_eq]
theorem isMk.co {x : Int32} {p p' : Nat → Prop} (h : isMk x p) (h' : ∀ j, p' j ↔ p j) : isMk x p' := fun j hj => by rw [h j hj, h']
set_option maxRecDepth 100000 in
set_option maxHeartbeats 4000000 in
theorem p_trim {a : Int32} (c : Nat) (R : Nat → Nat) (hc : c ≤ 11) (hdr : M.1 238 4 = nI dr ∧ dr ≤ 3) (hR : ∀ q, q < c → M.1 241 q = nI (R q) ∧ R q < 11) (hQ : ∀ M', q_fs [] fP M M' → t_m (M.1 238 10) (M.1 238 11) (M.1 238 12) (M'.1 238 10) (M'.1 238 11) (M'.1 238 12) R (dwn dr c) c c → Q none M') (ha : a = nI c := by (first | assumption | (simp only [z_nat, z_lit, ← Int32.ofInt_add, ← Int32.ofInt_sub, ← Int32.ofInt_mul]; exact congrArg Int32.ofInt (by omega)) | (simp only [z_nat, z_lit, ← Int32.ofInt_add, ← Int32.ofInt_sub, ← Int32.ofInt_mul]; done) | exact congrArg Int32.ofInt (by omega) | rfl)) : q_C q_mt (L, xs, q_shp) E nX5_trim (d + 1) 0 0 [.ref 238, .int (a)] M Q := by
  subst ha
  have hd : dwn dr c ≤ c := by unfold dwn; omega
  have W := lp_m (W := fun i M' => ∀ v w, v = nI i → q_G q_mt (L, xs, q_shp) E nX5_trim (d + 1) 0 0 (q_Q (L, xs, q_shp) E Q) 15 [some (.ref 238), some (.int (nI c)), some (.int (nI (dwn dr c))), some (.int (v)), w] [] M') (J := fun i M' => q_fs [] fP M M' ∧ t_m (M.1 238 10) (M.1 238 11) (M.1 238 12) (M'.1 238 10) (M'.1 238 11) (M'.1 238 12) R (dwn dr c) c i) c ?_ ?_ 0 M (Nat.zero_le _) ⟨q_fs.rf, fun j hj => ⟨Or.inl, fun z => z.elim id (fun ⟨q, h, _⟩ => absurd h (Nat.not_lt_zero _))⟩, fun j hj => ⟨Or.inl, fun z => z.elim id (fun ⟨q, h, _⟩ => absurd h (Nat.not_lt_zero _))⟩, fun j hj => ⟨Or.inl, fun z => z.elim id (fun ⟨q, h, _⟩ => absurd h (Nat.not_lt_zero _))⟩⟩
  · have e : (nI c - Int32.ofInt 1) / Int32.ofInt 2 = nI ((c - 1) / 2) := by
      have : ∀ b, b ≤ 11 → (nI b - Int32.ofInt 1) / Int32.ofInt 2 = nI ((b - 1) / 2) := by decide
      exact this c hc
    refine w_in 90 [15] ?_
    refine ⟨_, hdr.1, ?_⟩
    refine And.intro (by decide) ?_
    rw [e]
    have e2 : (if nI ((c - 1) / 2) < nI dr then nI ((c - 1) / 2) else nI dr) = nI (dwn dr c) := by
      rw [z_nat, z_nat, z_min (by omega) (by omega), z_nat]
      unfold dwn
      exact congrArg Int32.ofInt (by omega)
    rw [e2]
    exact W _ _ rfl
  · rintro M' ⟨hf, hm⟩ v w rfl
    refine w_at 90 [15] ?_
    exact z_le (c : Int) (c : Int) (fun h => hQ M' hf hm) (fun h => by omega)
  · rintro i M' hi ⟨hf, hm1, hm2, hm3⟩ ih v w rfl
    have hr := hR i hi
    have ri : ∀ (A : Prop), (A ∨ ∃ q, q < i + 1 ∧ dwn dr c ≤ q ∧ q < c - dwn dr c ∧ R q = 0) → True := fun _ _ => trivial
    refine w_at 90 [15] ?_
    refine z_le (c : Int) (i : Int) (fun h => by omega) (fun h => ?_)
    refine ⟨i, _, by (first | assumption | (simp only [z_nat, z_lit, ← Int32.ofInt_add, ← Int32.ofInt_sub, ← Int32.ofInt_mul]; exact congrArg Int32.ofInt (by omega)) | (simp only [z_nat, z_lit, ← Int32.ofInt_add, ← Int32.ofInt_sub, ← Int32.ofInt_mul]; done) | exact congrArg Int32.ofInt (by omega) | rfl), by (dsimp only; omega), by rw [hf.c1 241]; exact hr.1, ?_⟩
    refine z_le (dwn dr c : Int) (i : Int) (fun h1 => ?_) (fun h1 => ?_)
    · refine z_lt (i : Int) ((c : Int) - dwn dr c) (fun h2 => ?_) (fun h2 => ?_)
      · refine ih _ ⟨hf.s1, ?_⟩ _ _ (by (first | assumption | (simp only [z_nat, z_lit, ← Int32.ofInt_add, ← Int32.ofInt_sub, ← Int32.ofInt_mul]; exact congrArg Int32.ofInt (by omega)) | (simp only [z_nat, z_lit, ← Int32.ofInt_add, ← Int32.ofInt_sub, ← Int32.ofInt_mul]; done) | exact congrArg Int32.ofInt (by omega) | rfl))
        refine ⟨?_, ?_, ?_⟩
        · rw [q_si_s]
          refine hm1.or (by omega) (fun j => ?_)
          constructor
          · rintro (z | ⟨q, z1, z2, z3, z4⟩)
            · exact Or.inl (Or.inl z)
            · by_cases qi : q = i
              · exact Or.inr (by rw [← z4, qi])
              · exact Or.inl (Or.inr ⟨q, by omega, z2, z3, z4⟩)
          · rintro ((z | ⟨q, z1, z2, z3, z4⟩) | z)
            · exact Or.inl z
            · exact Or.inr ⟨q, by omega, z2, z3, z4⟩
            · exact Or.inr ⟨i, by omega, by omega, by omega, z.symm⟩
        · rw [q_si_n (by decide)]
          refine hm2.co (fun j => ?_)
          constructor
          · rintro (z | ⟨q, z1, z2, z4⟩)
            · exact Or.inl z
            · exact Or.inr ⟨q, by omega, z2, z4⟩
          · rintro (z | ⟨q, z1, z2, z4⟩)
            · exact Or.inl z
            · exact Or.inr ⟨q, by omega, z2, z4⟩
        · rw [q_si_n (by decide)]
          refine hm3.co (fun j => ?_)
          constructor
          · rintro (z | ⟨q, z1, z2, z3, z4⟩)
            · exact Or.inl z
            · exact Or.inr ⟨q, by omega, z2, z3, z4⟩
          · rintro (z | ⟨q, z1, z2, z3, z4⟩)
            · exact Or.inl z
            · exact Or.inr ⟨q, by omega, z2, z3, z4⟩
      · refine ih _ ⟨hf.s1, ?_⟩ _ _ (by (first | assumption | (simp only [z_nat, z_lit, ← Int32.ofInt_add, ← Int32.ofInt_sub, ← Int32.ofInt_mul]; exact congrArg Int32.ofInt (by omega)) | (simp only [z_nat, z_lit, ← Int32.ofInt_add, ← Int32.ofInt_sub, ← Int32.ofInt_mul]; done) | exact congrArg Int32.ofInt (by omega) | rfl))
        refine ⟨?_, ?_, ?_⟩
        · rw [q_si_n (by decide)]
          refine hm1.co (fun j => ?_)
          constructor
          · rintro (z | ⟨q, z1, z2, z3, z4⟩)
            · exact Or.inl z
            · exact Or.inr ⟨q, by omega, z2, z3, z4⟩
          · rintro (z | ⟨q, z1, z2, z3, z4⟩)
            · exact Or.inl z
            · exact Or.inr ⟨q, by omega, z2, z3, z4⟩
        · rw [q_si_n (by decide)]
          refine hm2.co (fun j => ?_)
          constructor
          · rintro (z | ⟨q, z1, z2, z4⟩)
            · exact Or.inl z
            · exact Or.inr ⟨q, by omega, z2, z4⟩
          · rintro (z | ⟨q, z1, z2, z4⟩)
            · exact Or.inl z
            · exact Or.inr ⟨q, by omega, z2, z4⟩
        · rw [q_si_s]
          refine hm3.or (by omega) (fun j => ?_)
          constructor
          · rintro (z | ⟨q, z1, z2, z3, z4⟩)
            · exact Or.inl (Or.inl z)
            · by_cases qi : q = i
              · exact Or.inr (by rw [← z4, qi])
              · exact Or.inl (Or.inr ⟨q, by omega, z2, z3, z4⟩)
          · rintro ((z | ⟨q, z1, z2, z3, z4⟩) | z)
            · exact Or.inl z
            · exact Or.inr ⟨q, by omega, z2, z3, z4⟩
            · exact Or.inr ⟨i, by omega, by omega, by omega, z.symm⟩
    · refine ih _ ⟨hf.s1, ?_⟩ _ _ (by (first | assumption | (simp only [z_nat, z_lit, ← Int32.ofInt_add, ← Int32.ofInt_sub, ← Int32.ofInt_mul]; exact congrArg Int32.ofInt (by omega)) | (simp only [z_nat, z_lit, ← Int32.ofInt_add, ← Int32.ofInt_sub, ← Int32.ofInt_mul]; done) | exact congrArg Int32.ofInt (by omega) | rfl))
      refine ⟨?_, ?_, ?_⟩
      · rw [q_si_n (by decide)]
        refine hm1.co (fun j => ?_)
        constructor
        · rintro (z | ⟨q, z1, z2, z3, z4⟩)
          · exact Or.inl z
          · exact Or.inr ⟨q, by omega, z2, z3, z4⟩
        · rintro (z | ⟨q, z1, z2, z3, z4⟩)
          · exact Or.inl z
          · exact Or.inr ⟨q, by omega, z2, z3, z4⟩
      · rw [q_si_s]
        refine hm2.or (by omega) (fun j => ?_)
        constructor
        · rintro (z | ⟨q, z1, z2, z4⟩)
          · exact Or.inl (Or.inl z)
          · by_cases qi : q = i
            · exact Or.inr (by rw [← z4, qi])
            · exact Or.inl (Or.inr ⟨q, by omega, z2, z4⟩)
        · rintro ((z | ⟨q, z1, z2, z4⟩) | z)
          · exact Or.inl z
          · exact Or.inr ⟨q, by omega, z2, z4⟩
          · exact Or.inr ⟨i, by omega, by omega, z.symm⟩
      · rw [q_si_n (by decide)]
        refine hm3.co (fun j => ?_)
        constructor
        · rintro (z | ⟨q, z1, z2, z3, z4⟩)
          · exact Or.inl z
          · exact Or.inr ⟨q, by omega, z2, z3, z4⟩
        · rintro (z | ⟨q, z1, z2, z3, z4⟩)
          · exact Or.inl z
          · exact Or.inr ⟨q, by omega, z2, z3, z4⟩
end SC
