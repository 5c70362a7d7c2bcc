/-! a MEET begins: the class -/
theorem cpl_at {M : q_M} {a b n i : Nat} (h : i < n) : (q_cpl M a 0 b 0 n).2 b i = M.2 a i := by
  show (bif Nat.beq b b && (Nat.ble 0 i && Nat.blt i (0 + n)) then M.2 a (0 + (i - 0)) else M.2 b i) = _
  rw [Nat.beq_refl, Nat.ble_eq_true_of_le (Nat.zero_le i), show Nat.blt i (0 + n) = true from Nat.ble_eq_true_of_le (by omega)]
  show M.2 a (0 + (i - 0)) = _
  rw [Nat.zero_add, Nat.sub_zero]
theorem q_fs.cpl {l : List Nat} {f : List (Nat × Nat)} {M M' : q_M} {a sp b dp n : Nat} (h0 : q_fs l f M M') (h : ∀ i, q_scr l f b i = true := by intro i; exact rfl) : q_fs l f M (q_cpl M' a sp b dp n) := h0.tr (fun r i hr => ⟨rfl, by
  show (bif Nat.beq r b && (Nat.ble dp i && Nat.blt i (dp + n)) then M'.2 a (sp + (i - dp)) else M'.2 r i) = _
  cases q : Nat.beq r b with
  | false => rfl
  | true =>
    rw [Nat.eq_of_beq_eq_true q, h i] at hr
    exact absurd hr (by decide)⟩)
/-- the class's Meet as its draft was -/
def m_eq (M M' : q_M) : Prop := (M'.1 6 0 = M.1 24 0 ∧ M'.1 6 1 = M.1 24 1 ∧ M'.1 6 2 = M.1 24 2 ∧ M'.1 6 5 = M.1 24 5 ∧ M'.1 6 9 = M.1 24 9 ∧ M'.1 6 16 = M.1 24 16 ∧ M'.1 17 5 = M.1 35 5) ∧ (∀ i, i < 11 → M'.1 7 i = M.1 25 i ∧ M'.1 8 i = M.1 26 i) ∧ (∀ i, i < 10 → M'.2 9 i = M.2 27 i ∧ M'.1 10 i = M.1 28 i ∧ M'.1 11 i = M.1 29 i) ∧ (∀ i, i < 6 → M'.2 12 i = M.2 30 i ∧ M'.1 13 i = M.1 31 i ∧ M'.1 14 i = M.1 32 i) ∧ (∀ i, i < 36 → M'.1 15 i = M.1 33 i ∧ M'.1 16 i = M.1 34 i) ∧ (∀ i, i < 1200 → M'.1 18 i = M.1 36 i) ∧ (∀ i, i < 6 → M'.1 19 i = M.1 37 i) ∧ ∀ i, i < 3 → M'.1 21 i = M.1 39 i ∧ M'.1 22 i = M.1 40 i ∧ M'.1 23 i = M.1 41 i
abbrev lMt : List Nat := [6, 7, 8, 9, 10, 11, 12, 13, 14, 15, 16, 17, 18, 19, 21, 22, 23]
section BG
variable {L : Nat} {xs : Nat → Int32} {E : q_E} {d : Nat} {M : q_M} {t : q_T} {n : sN} {Q : Option Value → q_M → Prop} {P : q_M → Prop}
theorem dC.cp {M' : q_M} {i : Nat} (h : dC M t) (b : bD t i) (i12 : i ≤ 1200) (e : m_eq M M') : r_C 6 M' t ∧ (∀ s, s < 36 → M'.1 15 s = Int32.ofInt ((t 11 s : Int) - 1)) ∧ (∀ i, i < t 5 0 → M'.2 9 i = Int64.ofInt (n5 t i : Nat)) ∧ (∀ e, e < t 8 0 → M'.2 12 e = Int64.ofInt (n5 t (10 + e) : Nat)) ∧ M'.1 17 5 = nI (t 17 0) ∧ ∀ l, l < t 17 0 → M'.1 19 l = nI (lawE t (l + 1)) ∧ ∀ i, i < t 18 l → M'.1 18 (lawE t l + i) = nI (cS (t (19 + l) i)) := by
  obtain ⟨⟨a0, a1, a2, a5, a9, a16, a17, aJ, aD, aE, aF, aC⟩, aL, aG, aN, aM, aW, aS⟩ := h
  obtain ⟨⟨e0, e1, e2, e5, e9, e16, e17⟩, f1, f2, f3, f4, f5, f6, f7⟩ := e
  obtain ⟨⟨b0, b1, b2, b5, b8, b13, b17, -⟩, -, -, -, -, bw, -⟩ := b
  refine ⟨⟨e0.trans a0, e1.trans a1, e2.trans a2, e5.trans a5, e9.trans a9, e16.trans a16, e17.trans a17, fun j hj => ⟨(f1 j (by omega)).1.trans (aJ j hj).1, (f1 j (by omega)).2.trans (aJ j hj).2⟩, fun j hj => ⟨(f2 j (by omega)).2.1.trans (aD j hj).1, (f2 j (by omega)).2.2.trans (aD j hj).2⟩, fun j hj => ⟨(f3 j (by omega)).2.1.trans (aE j hj).1, (f3 j (by omega)).2.2.trans (aE j hj).2⟩, fun e he g hg => (f4 _ (by omega)).2.trans (aF e he g hg), fun c hc => ⟨(f7 c (by omega)).1.trans (aC c hc).1, (f7 c (by omega)).2.1.trans (aC c hc).2.1, (f7 c (by omega)).2.2.trans (aC c hc).2.2⟩⟩, fun s hs => (f4 s hs).1.trans (aL s hs), fun i hi => (f2 i (by omega)).1.trans (aN i hi), fun e he => (f3 e (by omega)).1.trans (aM e he), e17.trans a17, fun l hl => ⟨(f6 l (by omega)).trans (aS l hl).1, fun i hi => ?_⟩⟩
  have l1 := lawE_le (t := t) (show l + 1 ≤ t 17 0 from hl)
  rw [lawE_s] at l1
  exact (f5 _ (by omega)).trans ((aS l hl).2 i hi)
set_option maxRecDepth 100000 in
set_option maxHeartbeats 4000000 in
theorem k2_copyLaws (hQ : ∀ M', q_fs [18, 19] [(17, 3), (17, 5)] M M' → M'.1 17 3 = M.1 35 3 → M'.1 17 5 = M.1 35 5 → (∀ i, i < 1200 → M'.1 18 i = M.1 36 i) → (∀ i, i < 6 → M'.1 19 i = M.1 37 i) → Q none M') : q_C q_mt (L, xs, q_shp) E nX1_copyFrom (d + 1) 0 0 [.ref 17, .ref 35] M Q := by
  refine w_in 90 [] ?_
  refine ⟨_, rfl, ?_⟩
  refine ⟨_, rfl, ?_⟩
  refine ⟨_, rfl, ?_⟩
  refine ⟨_, rfl, ?_⟩
  refine ⟨⟨by decide, by decide, by decide, by decide, by decide⟩, ?_⟩
  refine ⟨⟨by decide, by decide, by decide, by decide, by decide⟩, ?_⟩
  exact hQ _ q_fs.rf.s1.s1.cp.cp rfl rfl (fun i hi => cp_at (M := M) (a := 36) (b := 18) (n := 1200) hi) (fun i hi => cp_at (M := M) (a := 37) (b := 19) (n := 6) hi)
set_option maxRecDepth 100000 in
set_option maxHeartbeats 4000000 in
theorem k2_copyMeet (hQ : ∀ M', q_fs lMt [] M M' → m_eq M M' → Q none M') : q_C q_mt (L, xs, q_shp) E nX2_copyFrom (d + 2) 0 0 [.ref 6, .ref 24] M Q := by
  refine w_in 200 [] ?_
  refine ⟨_, rfl, ?_⟩
  refine ⟨_, rfl, ?_⟩
  refine ⟨_, rfl, ?_⟩
  refine ⟨_, rfl, ?_⟩
  refine ⟨_, rfl, ?_⟩
  refine ⟨_, rfl, ?_⟩
  refine ⟨⟨by decide, by decide, by decide, by decide, by decide⟩, ?_⟩
  refine ⟨⟨by decide, by decide, by decide, by decide, by decide⟩, ?_⟩
  refine ⟨_, rfl, ?_⟩
  refine ⟨_, rfl, ?_⟩
  refine ⟨⟨by decide, by decide, by decide, by decide, by decide⟩, ?_⟩
  refine ⟨⟨by decide, by decide, by decide, by decide, by decide⟩, ?_⟩
  refine ⟨⟨by decide, by decide, by decide, by decide, by decide⟩, ?_⟩
  refine ⟨_, rfl, ?_⟩
  refine ⟨_, rfl, ?_⟩
  refine ⟨⟨by decide, by decide, by decide, by decide, by decide⟩, ?_⟩
  refine ⟨⟨by decide, by decide, by decide, by decide, by decide⟩, ?_⟩
  refine ⟨⟨by decide, by decide, by decide, by decide, by decide⟩, ?_⟩
  refine ⟨⟨by decide, by decide, by decide, by decide, by decide⟩, ?_⟩
  refine ⟨⟨by decide, by decide, by decide, by decide, by decide⟩, ?_⟩
  refine k2_copyLaws (fun M1 hf1 c3 c5 c18 c19 => ?_)
  have ff : q_fs lMt [] M M1 := by
    refine q_fs.tr ?_ (hf1.mono : q_fs lMt [] _ M1)
    exact q_fs.rf.s1.s1.s1.cp.cp.s1.cpl.cp.cp.s1.cpl.cp.cp.cp.cp
  have g0 : M1.1 6 0 = M.1 24 0 := hf1.p1 6 0
  have g1 : M1.1 6 1 = M.1 24 1 := hf1.p1 6 1
  have g2 : M1.1 6 2 = M.1 24 2 := hf1.p1 6 2
  have g5 : M1.1 6 5 = M.1 24 5 := hf1.p1 6 5
  have g9 : M1.1 6 9 = M.1 24 9 := hf1.p1 6 9
  have g16 : M1.1 24 16 = M.1 24 16 := hf1.p1 24 16
  have r7 : ∀ i, i < 11 → M1.1 7 i = M.1 25 i := fun i hi => (hf1.p1 7 i).trans (cp_at (M := M) (a := 25) (b := 7) (n := 11) hi)
  have r8 : ∀ i, i < 11 → M1.1 8 i = M.1 26 i := fun i hi => (hf1.p1 8 i).trans (cp_at (M := M) (a := 26) (b := 8) (n := 11) hi)
  have r9 : ∀ i, i < 10 → M1.2 9 i = M.2 27 i := fun i hi => (hf1.p2 9 i).trans (cpl_at (M := M) (a := 27) (b := 9) (n := 10) hi)
  have r10 : ∀ i, i < 10 → M1.1 10 i = M.1 28 i := fun i hi => (hf1.p1 10 i).trans (cp_at (M := M) (a := 28) (b := 10) (n := 10) hi)
  have r11 : ∀ i, i < 10 → M1.1 11 i = M.1 29 i := fun i hi => (hf1.p1 11 i).trans (cp_at (M := M) (a := 29) (b := 11) (n := 10) hi)
  have r12 : ∀ i, i < 6 → M1.2 12 i = M.2 30 i := fun i hi => (hf1.p2 12 i).trans (cpl_at (M := M) (a := 30) (b := 12) (n := 6) hi)
  have r13 : ∀ i, i < 6 → M1.1 13 i = M.1 31 i := fun i hi => (hf1.p1 13 i).trans (cp_at (M := M) (a := 31) (b := 13) (n := 6) hi)
  have r14 : ∀ i, i < 6 → M1.1 14 i = M.1 32 i := fun i hi => (hf1.p1 14 i).trans (cp_at (M := M) (a := 32) (b := 14) (n := 6) hi)
  have r15 : ∀ i, i < 36 → M1.1 15 i = M.1 33 i := fun i hi => (hf1.p1 15 i).trans (cp_at (M := M) (a := 33) (b := 15) (n := 36) hi)
  have r16 : ∀ i, i < 36 → M1.1 16 i = M.1 34 i := fun i hi => (hf1.p1 16 i).trans (cp_at (M := M) (a := 34) (b := 16) (n := 36) hi)
  have r39 : ∀ i, M1.1 39 i = M.1 39 i := fun i => hf1.p1 39 i
  have r40 : ∀ i, M1.1 40 i = M.1 40 i := fun i => hf1.p1 40 i
  have r41 : ∀ i, M1.1 41 i = M.1 41 i := fun i => hf1.p1 41 i
  have c5 : M1.1 17 5 = M.1 35 5 := c5
  have c18 : ∀ i, i < 1200 → M1.1 18 i = M.1 36 i := c18
  have c19 : ∀ i, i < 6 → M1.1 19 i = M.1 37 i := c19
  clear hf1 c3
  refine ⟨_, g16, ?_⟩
  refine ⟨_, rfl, ?_⟩
  refine ⟨⟨by decide, by decide, by decide, by decide, by decide⟩, ?_⟩
  refine ⟨⟨by decide, by decide, by decide, by decide, by decide⟩, ?_⟩
  refine ⟨⟨by decide, by decide, by decide, by decide, by decide⟩, ?_⟩
  exact hQ _ ff.s1.cp.cp.cp ⟨⟨g0, g1, g2, g5, g9, rfl, c5⟩, fun i hi => ⟨r7 i hi, r8 i hi⟩, fun i hi => ⟨r9 i hi, r10 i hi, r11 i hi⟩, fun i hi => ⟨r12 i hi, r13 i hi, r14 i hi⟩, fun i hi => ⟨r15 i hi, r16 i hi⟩, c18, c19, fun i hi => ⟨(cp_at (M := M1) (a := 39) (b := 21) (n := 3) hi).trans (r39 i), (cp_at (M := M1) (a := 40) (b := 22) (n := 3) hi).trans (r40 i), (cp_at (M := M1) (a := 41) (b := 23) (n := 3) hi).trans (r41 i)⟩⟩
set_option maxRecDepth 100000 in
set_option maxHeartbeats 4000000 in
theorem k2_clearMarks {s : Nat} {a : Int32} (hs : s < 36) (hQ : ∀ M', q_fs [45] [] M M' → (∀ j, j < 11 → M'.1 45 (16 * s + 5 + j) = Int32.ofInt (-1)) → (∀ q, ¬ (16 * s + 5 ≤ q ∧ q < 16 * s + 16) → M'.1 45 q = M.1 45 q) → Q none M') (ha : a = nI (16 * s) := by (first | assumption | (simp only [z_nat, z_lit, ← Int32.ofInt_add, ← Int32.ofInt_sub, ← Int32.ofInt_mul]; exact congrArg Int32.ofInt (by omega)) | (simp only [z_nat, z_lit, ← Int32.ofInt_add, ← Int32.ofInt_sub, ← Int32.ofInt_mul]; done) | exact congrArg Int32.ofInt (by omega) | rfl)) : q_C q_mt (L, xs, q_shp) E nX8_clearMarks (d) 0 0 [.ref 43, .int (a)] M Q := by
  subst ha
  have W := lp_m (W := fun i M' => ∀ v, v = nI i → q_G q_mt (L, xs, q_shp) E nX8_clearMarks (d) 0 0 (q_Q (L, xs, q_shp) E Q) 2 [some (.ref 43), some (.int (nI (16 * s))), some (.int (v))] [] M') (J := fun i M' => q_fs [45] [] M M' ∧ (∀ k, k < i → M'.1 45 (16 * s + 5 + k) = Int32.ofInt (-1)) ∧ ∀ q, ¬ (16 * s + 5 ≤ q ∧ q < 16 * s + 16) → M'.1 45 q = M.1 45 q) 11 ?_ ?_ 0 M (Nat.zero_le _) ⟨q_fs.rf, fun k hk => absurd hk (Nat.not_lt_zero _), fun _ _ => rfl⟩
  · refine w_in 90 [2] ?_
    exact W _ rfl
  · rintro M' ⟨hf, hm, ho⟩ v rfl
    refine w_at 90 [2] ?_
    exact z_le 11 ((11 : Nat) : Int) (fun _ => hQ M' hf hm ho) (fun h => by omega)
  · rintro i M' hi ⟨hf, hm, ho⟩ ih v rfl
    refine w_at 90 [2] ?_
    refine z_le 11 (i : Int) (fun h => by omega) (fun _ => ?_)
    refine ⟨16 * s + 5 + i, _, by (first | assumption | (simp only [z_nat, z_lit, ← Int32.ofInt_add, ← Int32.ofInt_sub, ← Int32.ofInt_mul]; exact congrArg Int32.ofInt (by omega)) | (simp only [z_nat, z_lit, ← Int32.ofInt_add, ← Int32.ofInt_sub, ← Int32.ofInt_mul]; done) | exact congrArg Int32.ofInt (by omega) | rfl), by (dsimp only; omega), rfl, ?_⟩
    refine ih _ ⟨hf.s1, fun k hk => ?_, fun q hq => (q_si_n (by omega)).trans (ho q hq)⟩ _ (by (first | assumption | (simp only [z_nat, z_lit, ← Int32.ofInt_add, ← Int32.ofInt_sub, ← Int32.ofInt_mul]; exact congrArg Int32.ofInt (by omega)) | (simp only [z_nat, z_lit, ← Int32.ofInt_add, ← Int32.ofInt_sub, ← Int32.ofInt_mul]; done) | exact congrArg Int32.ofInt (by omega) | rfl))
    by_cases q : k = i
    · rw [q, q_si_s]
    · rw [q_si_n (by omega)]
      exact hm k (by omega)
set_option maxRecDepth 100000 in
set_option maxHeartbeats 4000000 in
theorem k2_clearSlot {s : Nat} {a : Int32} (hs : s < 36) (hQ : ∀ M', q_fs [45] [] M M' → ((M'.1 45 (16 * s) = Int32.ofInt (-1) ∧ M'.1 45 (16 * s + 1) = Int32.ofInt 0 ∧ M'.1 45 (16 * s + 2) = Int32.ofInt 20 ∧ M'.1 45 (16 * s + 3) = Int32.ofInt 0 ∧ M'.1 45 (16 * s + 4) = Int32.ofInt 0) ∧ ∀ j, j < 11 → M'.1 45 (16 * s + 5 + j) = Int32.ofInt (-1)) → (∀ q, ¬ (16 * s ≤ q ∧ q < 16 * s + 16) → M'.1 45 q = M.1 45 q) → Q none M') (ha : a = nI (16 * s) := by (first | assumption | (simp only [z_nat, z_lit, ← Int32.ofInt_add, ← Int32.ofInt_sub, ← Int32.ofInt_mul]; exact congrArg Int32.ofInt (by omega)) | (simp only [z_nat, z_lit, ← Int32.ofInt_add, ← Int32.ofInt_sub, ← Int32.ofInt_mul]; done) | exact congrArg Int32.ofInt (by omega) | rfl)) : q_C q_mt (L, xs, q_shp) E nX8_clearSlot (d + 1) 0 0 [.ref 43, .int (a)] M Q := by
  subst ha
  refine w_in 90 [] ?_
  refine ⟨16 * s, _, by (first | assumption | (simp only [z_nat, z_lit, ← Int32.ofInt_add, ← Int32.ofInt_sub, ← Int32.ofInt_mul]; exact congrArg Int32.ofInt (by omega)) | (simp only [z_nat, z_lit, ← Int32.ofInt_add, ← Int32.ofInt_sub, ← Int32.ofInt_mul]; done) | exact congrArg Int32.ofInt (by omega) | rfl), by (dsimp only; omega), rfl, ?_⟩
  refine ⟨16 * s + 1, _, by (first | assumption | (simp only [z_nat, z_lit, ← Int32.ofInt_add, ← Int32.ofInt_sub, ← Int32.ofInt_mul]; exact congrArg Int32.ofInt (by omega)) | (simp only [z_nat, z_lit, ← Int32.ofInt_add, ← Int32.ofInt_sub, ← Int32.ofInt_mul]; done) | exact congrArg Int32.ofInt (by omega) | rfl), by (dsimp only; omega), rfl, ?_⟩
  refine ⟨16 * s + 2, _, by (first | assumption | (simp only [z_nat, z_lit, ← Int32.ofInt_add, ← Int32.ofInt_sub, ← Int32.ofInt_mul]; exact congrArg Int32.ofInt (by omega)) | (simp only [z_nat, z_lit, ← Int32.ofInt_add, ← Int32.ofInt_sub, ← Int32.ofInt_mul]; done) | exact congrArg Int32.ofInt (by omega) | rfl), by (dsimp only; omega), rfl, ?_⟩
  refine ⟨16 * s + 3, _, by (first | assumption | (simp only [z_nat, z_lit, ← Int32.ofInt_add, ← Int32.ofInt_sub, ← Int32.ofInt_mul]; exact congrArg Int32.ofInt (by omega)) | (simp only [z_nat, z_lit, ← Int32.ofInt_add, ← Int32.ofInt_sub, ← Int32.ofInt_mul]; done) | exact congrArg Int32.ofInt (by omega) | rfl), by (dsimp only; omega), rfl, ?_⟩
  refine ⟨16 * s + 4, _, by (first | assumption | (simp only [z_nat, z_lit, ← Int32.ofInt_add, ← Int32.ofInt_sub, ← Int32.ofInt_mul]; exact congrArg Int32.ofInt (by omega)) | (simp only [z_nat, z_lit, ← Int32.ofInt_add, ← Int32.ofInt_sub, ← Int32.ofInt_mul]; done) | exact congrArg Int32.ofInt (by omega) | rfl), by (dsimp only; omega), rfl, ?_⟩
  have hf0 : q_fs [45] [] M (q_si (q_si (q_si (q_si (q_si M 45 (16 * s) (Int32.ofInt (-1))) 45 (16 * s + 1) (Int32.ofInt 0)) 45 (16 * s + 2) (Int32.ofInt 20)) 45 (16 * s + 3) (Int32.ofInt 0)) 45 (16 * s + 4) (Int32.ofInt 0)) := q_fs.rf.s1.s1.s1.s1.s1
  refine k2_clearMarks hs (fun M1 hf1 hm1 ho1 => ?_)
  refine hQ M1 (hf0.tr hf1) ⟨⟨?_, ?_, ?_, ?_, ?_⟩, hm1⟩ (fun q hq => ?_)
  · exact (ho1 _ (by omega)).trans ((q_si_n (by omega)).trans ((q_si_n (by omega)).trans ((q_si_n (by omega)).trans ((q_si_n (by omega)).trans q_si_s))))
  · exact (ho1 _ (by omega)).trans ((q_si_n (by omega)).trans ((q_si_n (by omega)).trans ((q_si_n (by omega)).trans q_si_s)))
  · exact (ho1 _ (by omega)).trans ((q_si_n (by omega)).trans ((q_si_n (by omega)).trans q_si_s))
  · exact (ho1 _ (by omega)).trans ((q_si_n (by omega)).trans q_si_s)
  · exact (ho1 _ (by omega)).trans q_si_s
  · exact (ho1 q (by omega)).trans ((q_si_n (by omega)).trans ((q_si_n (by omega)).trans ((q_si_n (by omega)).trans ((q_si_n (by omega)).trans (q_si_n (by omega))))))
abbrev lBg : List Nat := [43, 44, 45, 46, 47, 48, 49, 50]
set_option maxRecDepth 100000 in
set_option maxHeartbeats 4000000 in
theorem k2_begin {f : Nat → Int} (h9 : M.1 6 9 = nI (t 8 0)) (w : lsW t f) (h15 : ∀ s, s < 36 → M.1 15 s = Int32.ofInt ((t 11 s : Int) - 1)) (hQ : ∀ M', q_fs lBg [] M M' → sC0 M' t → Q none M') : q_C q_mt (L, xs, q_shp) E nX6_begin (d + 3) 0 0 [.ref 242] M Q := by
  have e6 := w.2.1
  -- the entrants
  have B : ∀ M1, q_fs lBg [] M M1 → (∀ s, s < 36 → M1.1 44 s = Int32.ofInt ((t 11 s : Int) - 1)) → (∀ s, s < 36 → (M1.1 45 (16 * s) = Int32.ofInt (-1) ∧ M1.1 45 (16 * s + 1) = Int32.ofInt 0 ∧ M1.1 45 (16 * s + 2) = Int32.ofInt 20 ∧ M1.1 45 (16 * s + 3) = Int32.ofInt 0 ∧ M1.1 45 (16 * s + 4) = Int32.ofInt 0) ∧ ∀ j, j < 11 → M1.1 45 (16 * s + 5 + j) = Int32.ofInt (-1)) → ∀ v, v = nI 0 → q_G q_mt (L, xs, q_shp) E nX6_begin (d + 3) 0 0 (q_Q (L, xs, q_shp) E Q) 48 [some (.ref 242), some (.int (v))] [] M1 := by
    intro M1 hf1 h44 h45
    refine lp_m (W := fun i M' => ∀ v, v = nI i → q_G q_mt (L, xs, q_shp) E nX6_begin (d + 3) 0 0 (q_Q (L, xs, q_shp) E Q) 48 [some (.ref 242), some (.int (v))] [] M') (J := fun i M' => q_fs [46, 47, 48, 49, 50] [] M1 M' ∧ ∀ e, e < i → M'.1 46 e = Int32.ofInt 0 ∧ M'.1 47 e = Int32.ofInt 0 ∧ M'.1 48 e = nI e ∧ M'.1 49 e = Int32.ofInt 0 ∧ M'.1 50 e = Int32.ofInt 0) 6 ?_ ?_ 0 M1 (Nat.zero_le _) ⟨q_fs.rf, fun k hk => absurd hk (Nat.not_lt_zero _)⟩
    · rintro M2 ⟨hf2, hm2⟩ v rfl
      refine w_at 90 [23, 48] ?_
      refine z_le 6 ((6 : Nat) : Int) (fun _ => ?_) (fun h => by omega)
      refine ⟨_, rfl, ?_⟩
      refine ⟨_, rfl, ?_⟩
      have hf3 : q_fs [] [(43, 7), (43, 8)] M2 (q_si (q_si M2 43 7 (Int32.ofInt 1)) 43 8 (Int32.ofInt (-1))) := q_fs.rf.s1.s1
      have e7 : (q_si (q_si M2 43 7 (Int32.ofInt 1)) 43 8 (Int32.ofInt (-1))).1 43 7 = Int32.ofInt 1 := rfl
      have e8 : (q_si (q_si M2 43 7 (Int32.ofInt 1)) 43 8 (Int32.ofInt (-1))).1 43 8 = Int32.ofInt (-1) := rfl
      revert hf3 e7 e8
      generalize q_si (q_si M2 43 7 (Int32.ofInt 1)) 43 8 (Int32.ofInt (-1)) = M3
      intro hf3 e7 e8
      have s9 : M3.1 6 9 = nI (t 8 0) := (hf3.p1 6 9).trans ((hf2.p1 6 9).trans ((hf1.p1 6 9).trans h9))
      have m3 : ∀ e, e < 6 → M3.1 46 e = Int32.ofInt 0 ∧ M3.1 47 e = Int32.ofInt 0 ∧ M3.1 48 e = nI e ∧ M3.1 49 e = Int32.ofInt 0 ∧ M3.1 50 e = Int32.ofInt 0 := fun e he => ⟨(hf3.p1 46 e).trans (hm2 e he).1, (hf3.p1 47 e).trans (hm2 e he).2.1, (hf3.p1 48 e).trans (hm2 e he).2.2.1, (hf3.p1 49 e).trans (hm2 e he).2.2.2.1, (hf3.p1 50 e).trans (hm2 e he).2.2.2.2⟩
      have c : q_C q_mt (L, xs, q_shp) E nX6_callNext (d + 2) 0 0 [.ref 242] M3 (fun v M' => v = none ∧ M' = q_si (q_si (q_si M3 43 9 (Int32.ofInt (-1))) 43 8 (nI 0)) 43 9 (nI 0)) := by
        refine w_in 90 [] ?_
        refine ⟨_, rfl, ?_⟩
        have e8' : (q_si M3 43 9 (Int32.ofInt (-1))).1 43 8 = Int32.ofInt (-1) := e8
        refine ⟨_, e8', ?_⟩
        have st : sts 43 (q_si M3 43 9 (Int32.ofInt (-1))) t (n_0 t f) := ⟨⟨s9, e6.2⟩, fun e he => by
          rw [n0_4 (by omega) (by omega)]
          exact ⟨(m3 e (by omega)).1, by decide, by decide⟩⟩
        refine k2_callFrom_43 st (qu := id) (fun i hi hi' => ⟨(m3 i hi).2.2.1, hi'⟩) 0 (Nat.zero_le _) (fun k hk1 hk2 hk3 hk4 => ?_) (fun hno => ?_)
        · obtain rfl : k = 0 := by
            by_cases q : k = 0
            · exact q
            · have := hk4 0 (Nat.le_refl _) (by omega)
              rw [n0_in (by decide)] at this
              cases this
          have e9 : (q_si (q_si (q_si M3 43 9 (Int32.ofInt (-1))) 43 8 (nI 0)) 43 9 (nI (id 0))).1 43 9 = nI 0 := rfl
          refine ⟨_, e9, ?_⟩
          exact br_f (by decide) ⟨rfl, rfl⟩
        · have := hno 0 (Nat.le_refl _) (by omega)
          rw [n0_in (by decide)] at this
          cases this
      refine c.mono (fun v M' hv => ?_)
      obtain ⟨rfl, rfl⟩ := hv
      have hf4 : q_fs [] [(43, 8), (43, 9)] M3 (q_si (q_si (q_si M3 43 9 (Int32.ofInt (-1))) 43 8 (nI 0)) 43 9 (nI 0)) := q_fs.rf.s1.s1.s1
      refine hQ _ (hf1.tr (hf2.mono.tr (hf3.mono.tr hf4.mono))) ⟨fun s hs => ?_, fun s hs => ?_, fun e he => ?_, ?_, rfl, rfl⟩
      · exact (hf4.p1 44 s).trans ((hf3.p1 44 s).trans ((hf2.p1 44 s).trans (h44 s hs)))
      · have e5 : ∀ q, (q_si (q_si (q_si M3 43 9 (Int32.ofInt (-1))) 43 8 (nI 0)) 43 9 (nI 0)).1 45 q = M1.1 45 q := fun q => (hf4.p1 45 q).trans ((hf3.p1 45 q).trans (hf2.p1 45 q))
        obtain ⟨⟨x0, x1, x2, x3, x4⟩, xm⟩ := h45 s hs
        exact ⟨⟨(e5 _).trans x0, (e5 _).trans x1, (e5 _).trans x2, (e5 _).trans x3, (e5 _).trans x4⟩, fun j hj => (e5 _).trans (xm j hj)⟩
      · have y := m3 e he
        exact ⟨(hf4.p1 46 e).trans y.1, (hf4.p1 47 e).trans y.2.1, (hf4.p1 48 e).trans y.2.2.1, (hf4.p1 49 e).trans y.2.2.2.1, (hf4.p1 50 e).trans y.2.2.2.2⟩
      · exact (hf4.p1 43 7).trans e7
    · rintro i M2 hi ⟨hf2, hm2⟩ ih v rfl
      refine w_at 90 [23, 48] ?_
      refine z_le 6 (i : Int) (fun h => by omega) (fun _ => ?_)
      refine ⟨i, _, by (first | assumption | (simp only [z_nat, z_lit, ← Int32.ofInt_add, ← Int32.ofInt_sub, ← Int32.ofInt_mul]; exact congrArg Int32.ofInt (by omega)) | (simp only [z_nat, z_lit, ← Int32.ofInt_add, ← Int32.ofInt_sub, ← Int32.ofInt_mul]; done) | exact congrArg Int32.ofInt (by omega) | rfl), by (dsimp only; omega), rfl, ?_⟩
      refine ⟨i, _, by (first | assumption | (simp only [z_nat, z_lit, ← Int32.ofInt_add, ← Int32.ofInt_sub, ← Int32.ofInt_mul]; exact congrArg Int32.ofInt (by omega)) | (simp only [z_nat, z_lit, ← Int32.ofInt_add, ← Int32.ofInt_sub, ← Int32.ofInt_mul]; done) | exact congrArg Int32.ofInt (by omega) | rfl), by (dsimp only; omega), rfl, ?_⟩
      refine ⟨i, _, by (first | assumption | (simp only [z_nat, z_lit, ← Int32.ofInt_add, ← Int32.ofInt_sub, ← Int32.ofInt_mul]; exact congrArg Int32.ofInt (by omega)) | (simp only [z_nat, z_lit, ← Int32.ofInt_add, ← Int32.ofInt_sub, ← Int32.ofInt_mul]; done) | exact congrArg Int32.ofInt (by omega) | rfl), by (dsimp only; omega), rfl, ?_⟩
      refine ⟨i, _, by (first | assumption | (simp only [z_nat, z_lit, ← Int32.ofInt_add, ← Int32.ofInt_sub, ← Int32.ofInt_mul]; exact congrArg Int32.ofInt (by omega)) | (simp only [z_nat, z_lit, ← Int32.ofInt_add, ← Int32.ofInt_sub, ← Int32.ofInt_mul]; done) | exact congrArg Int32.ofInt (by omega) | rfl), by (dsimp only; omega), rfl, ?_⟩
      refine ⟨i, _, by (first | assumption | (simp only [z_nat, z_lit, ← Int32.ofInt_add, ← Int32.ofInt_sub, ← Int32.ofInt_mul]; exact congrArg Int32.ofInt (by omega)) | (simp only [z_nat, z_lit, ← Int32.ofInt_add, ← Int32.ofInt_sub, ← Int32.ofInt_mul]; done) | exact congrArg Int32.ofInt (by omega) | rfl), by (dsimp only; omega), rfl, ?_⟩
      refine ih _ ⟨hf2.s1.s1.s1.s1.s1, fun e he => ?_⟩ _ (by (first | assumption | (simp only [z_nat, z_lit, ← Int32.ofInt_add, ← Int32.ofInt_sub, ← Int32.ofInt_mul]; exact congrArg Int32.ofInt (by omega)) | (simp only [z_nat, z_lit, ← Int32.ofInt_add, ← Int32.ofInt_sub, ← Int32.ofInt_mul]; done) | exact congrArg Int32.ofInt (by omega) | rfl))
      by_cases q : e = i
      · subst q
        exact ⟨(q_si_nn (by omega)).trans ((q_si_nn (by omega)).trans ((q_si_nn (by omega)).trans ((q_si_nn (by omega)).trans q_si_s))), (q_si_nn (by omega)).trans ((q_si_nn (by omega)).trans ((q_si_nn (by omega)).trans q_si_s)), (q_si_nn (by omega)).trans ((q_si_nn (by omega)).trans q_si_s), (q_si_nn (by omega)).trans q_si_s, q_si_s⟩
      · have y := hm2 e (by omega)
        exact ⟨(q_si_nn (by omega)).trans ((q_si_nn (by omega)).trans ((q_si_nn (by omega)).trans ((q_si_nn (by omega)).trans ((q_si_n (by omega)).trans y.1)))), (q_si_nn (by omega)).trans ((q_si_nn (by omega)).trans ((q_si_nn (by omega)).trans ((q_si_n (by omega)).trans ((q_si_nn (by omega)).trans y.2.1)))), (q_si_nn (by omega)).trans ((q_si_nn (by omega)).trans ((q_si_n (by omega)).trans ((q_si_nn (by omega)).trans ((q_si_nn (by omega)).trans y.2.2.1)))), (q_si_nn (by omega)).trans ((q_si_n (by omega)).trans ((q_si_nn (by omega)).trans ((q_si_nn (by omega)).trans ((q_si_nn (by omega)).trans y.2.2.2.1)))), (q_si_n (by omega)).trans ((q_si_nn (by omega)).trans ((q_si_nn (by omega)).trans ((q_si_nn (by omega)).trans ((q_si_nn (by omega)).trans y.2.2.2.2))))⟩
  have A : ∀ M1, q_fs [44] [] M M1 → (∀ s, s < 36 → M1.1 44 s = Int32.ofInt ((t 11 s : Int) - 1)) → ∀ v, v = nI 0 → q_G q_mt (L, xs, q_shp) E nX6_begin (d + 3) 0 0 (q_Q (L, xs, q_shp) E Q) 23 [some (.ref 242), some (.int (v))] [] M1 := by
    intro M1 hf1 h44
    refine lp_m (W := fun i M' => ∀ v, v = nI i → q_G q_mt (L, xs, q_shp) E nX6_begin (d + 3) 0 0 (q_Q (L, xs, q_shp) E Q) 23 [some (.ref 242), some (.int (v))] [] M') (J := fun i M' => q_fs [45] [] M1 M' ∧ ∀ s, s < i → (M'.1 45 (16 * s) = Int32.ofInt (-1) ∧ M'.1 45 (16 * s + 1) = Int32.ofInt 0 ∧ M'.1 45 (16 * s + 2) = Int32.ofInt 20 ∧ M'.1 45 (16 * s + 3) = Int32.ofInt 0 ∧ M'.1 45 (16 * s + 4) = Int32.ofInt 0) ∧ ∀ j, j < 11 → M'.1 45 (16 * s + 5 + j) = Int32.ofInt (-1)) 36 ?_ ?_ 0 M1 (Nat.zero_le _) ⟨q_fs.rf, fun k hk => absurd hk (Nat.not_lt_zero _)⟩
    · rintro M2 ⟨hf2, hm2⟩ v rfl
      refine w_at 90 [23, 48] ?_
      exact z_le 36 ((36 : Nat) : Int) (fun _ => B M2 (hf1.mono.tr hf2.mono) (fun s hs => (hf2.p1 44 s).trans (h44 s hs)) hm2 _ rfl) (fun h => by omega)
    · rintro i M2 hi ⟨hf2, hm2⟩ ih v rfl
      refine w_at 90 [23, 48] ?_
      refine z_le 36 (i : Int) (fun h => by omega) (fun _ => ?_)
      refine k2_clearSlot (s := i) hi (fun M3 hf3 hm3 ho3 => ?_)
      refine ih _ ⟨hf2.tr hf3, fun s hs => ?_⟩ _ (by (first | assumption | (simp only [z_nat, z_lit, ← Int32.ofInt_add, ← Int32.ofInt_sub, ← Int32.ofInt_mul]; exact congrArg Int32.ofInt (by omega)) | (simp only [z_nat, z_lit, ← Int32.ofInt_add, ← Int32.ofInt_sub, ← Int32.ofInt_mul]; done) | exact congrArg Int32.ofInt (by omega) | rfl))
      by_cases q : s = i
      · subst q
        exact hm3
      · obtain ⟨⟨x0, x1, x2, x3, x4⟩, xm⟩ := hm2 s (by omega)
        exact ⟨⟨(ho3 _ (by omega)).trans x0, (ho3 _ (by omega)).trans x1, (ho3 _ (by omega)).trans x2, (ho3 _ (by omega)).trans x3, (ho3 _ (by omega)).trans x4⟩, fun j hj => (ho3 _ (by omega)).trans (xm j hj)⟩
  refine w_in 90 [23, 48] ?_
  refine ⟨⟨by decide, by decide, by decide, by decide, by decide⟩, ?_⟩
  exact A _ q_fs.rf.cp (fun s hs => (cp_at (M := M) (a := 15) (b := 44) (n := 36) hs).trans (h15 s hs)) _ rfl
end BG
