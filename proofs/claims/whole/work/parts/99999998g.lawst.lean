/-! the STATEMENT law -/
def lawT (t : q_T) (c : List Nat) : q_T := fun a b => if a = 17 ∧ b = 0 then t 17 0 + 1 else if a = 18 ∧ b = t 17 0 then c.length else if a = 19 + t 17 0 then gt c b else t a b
abbrev fuL (T : Nat) : Nat := 12 * (T + 1) + 6
def lawP (tok : Nat → Tok) (T : Nat) (t : q_T) (i : Nat) : Rs q_T := bd (prs tok (fuL T) 0 (i + 1) 0 0) (fun a j => .inr (lawT t a.1, j))
section LW
variable {L : Nat} {xs : Nat → Int32} {E : q_E} {d : Nat} {M : q_M} {t : q_T} {n : sN} {Q : Option Value → q_M → Prop} {P : q_M → Prop}
variable {x : Nat → Nat} {len : Nat} {tok : Nat → Tok} {T : Nat}
theorem law_t {c : List Nat} (l6 : t 17 0 < 6) : (lawT t c 17 0 = t 17 0 + 1 ∧ lawT t c 18 (t 17 0) = c.length ∧ ∀ b, lawT t c (19 + t 17 0) b = gt c b) ∧ (∀ l, ¬ l = t 17 0 → lawT t c 18 l = t 18 l) ∧ (∀ k, ¬ (k = 17 ∨ k = 18 ∨ k = 19 + t 17 0) → lawT t c k = t k) ∧ (∀ l, l ≤ t 17 0 → lawE (lawT t c) l = lawE t l) ∧ lawE (lawT t c) (t 17 0 + 1) = lawE t (t 17 0) + c.length := by
  have h18 : ∀ l, ¬ l = t 17 0 → lawT t c 18 l = t 18 l := fun l hl => by
    unfold lawT
    rw [if_neg (by omega), if_neg (fun z => hl z.2), if_neg (by omega)]
  have e18 : lawT t c 18 (t 17 0) = c.length := by
    unfold lawT
    rw [if_neg (by omega), if_pos ⟨rfl, rfl⟩]
  have le : ∀ l, l ≤ t 17 0 → lawE (lawT t c) l = lawE t l := fun l hl => by
    unfold lawE
    exact fb_sm_cong (fun i hi => h18 i (by omega))
  refine ⟨⟨?_, e18, fun b => ?_⟩, h18, fun k hk => funext fun b => ?_, le, ?_⟩
  · unfold lawT
    rw [if_pos ⟨rfl, rfl⟩]
  · unfold lawT
    rw [if_neg (by omega), if_neg (by omega), if_pos rfl]
  · unfold lawT
    rw [if_neg (by omega), if_neg (by omega), if_neg (by omega)]
  · rw [lawE_s, le _ (Nat.le_refl _), e18]
set_option maxRecDepth 100000 in
set_option maxHeartbeats 4000000 in
theorem k2_openL {l W : Nat} (h3 : M.1 35 3 = nI W) (h5 : M.1 35 5 = nI l) (l6 : l < 6) (hQ : ∀ M', q_fs [37] [(35, 4), (35, 5)] M M' → (∀ q, q < l → M'.1 37 q = M.1 37 q) → lwC M' l W 0 [] → Q none M') : q_C q_mt (L, xs, q_shp) E nX1_open (d) 0 0 [.ref 35] M Q := by
  refine w_in 90 [] ?_
  refine ⟨_, h5, ?_⟩
  refine z_le 6 (l : Int) (fun z => by omega) (fun _ => ?_)
  refine ⟨_, h5, ?_⟩
  refine ⟨_, h3, ?_⟩
  refine ⟨l, _, by (first | assumption | (simp only [z_nat, z_lit, ← Int32.ofInt_add, ← Int32.ofInt_sub, ← Int32.ofInt_mul]; exact congrArg Int32.ofInt (by omega)) | (simp only [z_nat, z_lit, ← Int32.ofInt_add, ← Int32.ofInt_sub, ← Int32.ofInt_mul]; done) | exact congrArg Int32.ofInt (by omega) | rfl), by (dsimp only; omega), rfl, ?_⟩
  refine ⟨_, h5, ?_⟩
  refine ⟨nI (l + 1), by (first | assumption | (simp only [z_nat, z_lit, ← Int32.ofInt_add, ← Int32.ofInt_sub, ← Int32.ofInt_mul]; exact congrArg Int32.ofInt (by omega)) | (simp only [z_nat, z_lit, ← Int32.ofInt_add, ← Int32.ofInt_sub, ← Int32.ofInt_mul]; done) | exact congrArg Int32.ofInt (by omega) | rfl), ?_⟩
  refine ⟨_, rfl, ?_⟩
  have hf : q_fs [37] [(35, 4), (35, 5)] M (q_si (q_si (q_si M 37 l (nI W)) 35 5 (nI (l + 1))) 35 4 (Int32.ofInt 0)) := q_fs.rf.s1.s1.s1
  refine hQ _ hf (fun q hq => ?_) ⟨(hf.p1 35 3).trans h3, rfl, rfl, ?_, fun p hp => absurd hp (Nat.not_lt_zero _)⟩
  · exact (q_si_nn (by omega)).trans ((q_si_nn (by omega)).trans (q_si_n (by omega)))
  · exact (q_si_nn (by omega)).trans ((q_si_nn (by omega)).trans q_si_s)
/-- the class's draft behind a law -/
theorem dC.lawS {M' : q_M} {c : List Nat} {v : Nat} (h : dC M t) (l6 : t 17 0 < 6) (hf : q_fs [36, 37] [(35, 3), (35, 4), (35, 5), (3, 3), (3, 4), (3, 5), (3, 6), (3, 7), (3, 8), (3, 9), (3, 10)] M M') (lo : lowL (t 17 0) (lawE t (t 17 0)) M M') (lw : lwC M' (t 17 0) (lawE t (t 17 0)) v ([] ++ c)) : dC M' (lawT t c) := by
  obtain ⟨⟨d1, d2, d3⟩, d4, d5, d6, d7⟩ := law_t (t := t) (c := c) l6
  have lw : lwC M' (t 17 0) (lawE t (t 17 0)) v c := lw
  obtain ⟨w3, w4, w5, w7, w6⟩ := lw
  refine h.law d1 d4 ?_ l6 ?_ lo ⟨?_, fun i hi => ?_⟩ d5 hf
  · rw [d1]
    exact w5
  · rw [d1, d7]
    exact w3
  · rw [d7]
    exact w7
  · rw [d2] at hi
    rw [d6 _ (Nat.le_refl _), d3]
    exact w6 i hi
/-- a whole law, read by the pile -/
theorem smX_law {f l i D : Nat} (X : smX L xs E x len tok T f) (m : mS M x len tok T l i [] 0 0 [] 0) (hm : 12 * (T + 1 - i) + 6 ≤ f) (hok : ∀ c v' j M', prs tok f 0 i 0 0 = .inr ((c, v'), j) → q_fs lLr fLr M M' → lowD l M M' → mS M' x len tok T l j [] 0 v' c 3 → hdL L xs E D Q l 0 M') (hno : ∀ k j M' u, prs tok f 0 i 0 0 = .inl (k, j) → q_fs lLr fLr M M' → g_rb M' x len tok T k j → hdL L xs E D Q l u M') : hdL L xs E D Q l 1 M := by
  have ht := m.v9
  refine X i 0 0 l D [] [] M Q hm (Nat.zero_le _) (Nat.zero_le _) (Or.inl rfl) m (fun c v' j pend cs' M1 er hf1 lo1 m1 eq hpe nand nor => ?_) hno
  obtain ⟨⟨p1, p2, p3, p4⟩, p5, p6, -, -, -⟩ := prs_pK ht (by omega) (by omega) (by omega) er
  obtain ⟨q1, q2, q3, q4⟩ := p6 (Or.inl rfl)
  have le := len_eq eq
  have l0 : ([] : List Nat).length = 0 := rfl
  refine k_atElse (P0 := []) m1 nand ⟨show ¬ 99 = 28 by decide, show ¬ 99 = 29 by decide⟩ hpe (by omega) (by omega) (fun z => absurd z nor) (fun _ _ M2 hf2 lo2 m2 => ?_) (fun _ z => absurd z (show ¬ 99 = 41 by decide))
  rw [eq] at m2
  exact hok c v' j M2 er (hf1.tr hf2) (lo1.tr lo2) m2
set_option maxRecDepth 100000 in
set_option maxHeartbeats 4000000 in
theorem k_readsLaw {i : Nat} (g : g_rt M x len tok T i) (nf : ¬ (tok i).1 = 0) (h : dR M t) (bt : b_T t) (c255 : ∀ l, l < t 17 0 → t 18 l ≤ 255) (h1 : t 17 0 < 6 → ∀ t' j M', lawP tok T t i = .inr (t', j) → q_fs lDq fDq M M' → g_rt M' x len tok T j → dR M' t' → M'.1 279 7 = M.1 279 7 → Q none M') (h0 : ∀ k j M', (t 17 0 < 6 → lawP tok T t i = .inl (k, j)) → (t 17 0 = 6 → k = 4 ∧ j = i) → q_fs lDq fDq M M' → g_rb M' x len tok T k j → Q none M') : q_C q_mt (L, xs, q_shp) E nX12_readsLaw (d + 6) 0 0 [.ref 271] M Q := by
  have i12 := g.i12
  have b17 := bt.2.2.2.2.2.2.1
  have h5 : M.1 279 5 = nI (t 17 0) := h.1.2.2.2.2.2.2.1
  refine w_in 90 [49] ?_
  refine k_oneMore (q := 5) (n := t 17 0) (mx := 6) g nf (by omega) h5 (by omega) (fun z g1 => ?_) (fun z M1 hf1 g1 => ?_)
  rotate_left 1
  · exact k_isFine0 g1.2.2.2.1 g1.2.1 (bn_f rfl (h0 4 i M1 (fun y => by omega) (fun _ => ⟨rfl, rfl⟩) hf1.mono g1))
  have l6 : t 17 0 < 6 := by omega
  have n6 : ∀ {A : Prop}, t 17 0 = 6 → A := fun y => absurd y z
  have hf1 : q_fs [] [(271, 8)] M (q_si M 271 8 (nI (i + 1))) := q_fs.rf.s1
  refine k_isFine1 g1.2.2.2.1 (bn_t (by decide) ?_)
  refine ⟨143 + t 17 0, _, by (first | assumption | (simp only [z_nat, z_lit, ← Int32.ofInt_add, ← Int32.ofInt_sub, ← Int32.ofInt_mul]; exact congrArg Int32.ofInt (by omega)) | (simp only [z_nat, z_lit, ← Int32.ofInt_add, ← Int32.ofInt_sub, ← Int32.ofInt_mul]; done) | exact congrArg Int32.ofInt (by omega) | rfl), by (dsimp only; omega), rfl, ?_⟩
  refine ⟨_, rfl, ?_⟩
  refine ⟨_, rfl, ?_⟩
  refine ⟨_, rfl, ?_⟩
  refine ⟨_, rfl, ?_⟩
  have hf2 : q_fs [279] [(271, 8), (271, 19), (271, 20), (271, 21), (271, 22)] M (q_si (q_si (q_si (q_si (q_si (q_si M 271 8 (nI (i + 1))) 279 (143 + t 17 0) (Int32.ofInt 0)) 271 19 (Int32.ofInt 0)) 271 20 (Int32.ofInt 0)) 271 21 (Int32.ofInt 0)) 271 22 (Int32.ofInt 0)) := q_fs.rf.s1.s1.s1.s1.s1.s1
  have lo2 : lowD (t 17 0) M (q_si (q_si (q_si (q_si (q_si (q_si M 271 8 (nI (i + 1))) 279 (143 + t 17 0) (Int32.ofInt 0)) 271 19 (Int32.ofInt 0)) 271 20 (Int32.ofInt 0)) 271 21 (Int32.ofInt 0)) 271 22 (Int32.ofInt 0)) := fun q h1 _ => (q_si_nn (by omega)).trans ((q_si_nn (by omega)).trans ((q_si_nn (by omega)).trans ((q_si_nn (by omega)).trans ((q_si_n h1).trans (q_si_nn (by omega))))))
  have m2 : mS (q_si (q_si (q_si (q_si (q_si (q_si M 271 8 (nI (i + 1))) 279 (143 + t 17 0) (Int32.ofInt 0)) 271 19 (Int32.ofInt 0)) 271 20 (Int32.ofInt 0)) 271 21 (Int32.ofInt 0)) 271 22 (Int32.ofInt 0)) x len tok T (t 17 0) (i + 1) [] 0 0 [] 0 := by
    have hf3 : q_fs [279] [(271, 19), (271, 20), (271, 21), (271, 22)] (q_si M 271 8 (nI (i + 1))) (q_si (q_si (q_si (q_si (q_si (q_si M 271 8 (nI (i + 1))) 279 (143 + t 17 0) (Int32.ofInt 0)) 271 19 (Int32.ofInt 0)) 271 20 (Int32.ofInt 0)) 271 21 (Int32.ofInt 0)) 271 22 (Int32.ofInt 0)) := q_fs.rf.s1.s1.s1.s1.s1
    refine ⟨g1.fs hf3, ⟨⟨(lo2 5 (by omega) (by omega)).trans h5, l6⟩, ?_, Nat.zero_le _, fun p hp => absurd hp (Nat.not_lt_zero _)⟩, ⟨rfl, Nat.zero_le _, trivial⟩, ⟨rfl, Nat.zero_le _⟩, ⟨rfl, Nat.zero_le _⟩, rfl⟩
    exact (q_si_nn (by omega)).trans ((q_si_nn (by omega)).trans ((q_si_nn (by omega)).trans ((q_si_nn (by omega)).trans q_si_s)))
  revert hf2 lo2 m2
  generalize (q_si (q_si (q_si (q_si (q_si (q_si M 271 8 (nI (i + 1))) 279 (143 + t 17 0) (Int32.ofInt 0)) 271 19 (Int32.ofInt 0)) 271 20 (Int32.ofInt 0)) 271 21 (Int32.ofInt 0)) 271 22 (Int32.ofInt 0)) = M2
  intro hf2 lo2 m2
  have iT := m2.iT
  have ht := m2.v9
  -- behind a fault
  have bad : ∀ k j M3 u, prs tok (fuL T) 0 (i + 1) 0 0 = .inl (k, j) → q_fs lLr fLr M2 M3 → g_rb M3 x len tok T k j → hdL L xs E d Q (t 17 0) u M3 := by
    intro k j M3 u er hf3 g3
    have ep : lawP tok T t i = .inl (k, j) := bd_no er
    have fin : ∀ y, Q none (q_si M3 279 5 y) := fun y => by
      have hf4 : q_fs [279] [] M3 (q_si M3 279 5 y) := q_fs.rf.s1
      exact h0 k j _ (fun _ => ep) n6 ((hf2.mono.tr hf3.mono).tr hf4.mono) (g3.fs hf4)
    refine w_at 90 [49] ?_
    refine ⟨fun _ => ?_, fun _ => ?_⟩
    · refine ⟨5, _, by (first | assumption | (simp only [z_nat, z_lit, ← Int32.ofInt_add, ← Int32.ofInt_sub, ← Int32.ofInt_mul]; exact congrArg Int32.ofInt (by omega)) | (simp only [z_nat, z_lit, ← Int32.ofInt_add, ← Int32.ofInt_sub, ← Int32.ofInt_mul]; done) | exact congrArg Int32.ofInt (by omega) | rfl), by (dsimp only; omega), rfl, ?_⟩
      refine k_isFine0 g3.2.2.2.1 g3.2.1 (br_t (by decide) ?_)
      refine ⟨5, _, by (first | assumption | (simp only [z_nat, z_lit, ← Int32.ofInt_add, ← Int32.ofInt_sub, ← Int32.ofInt_mul]; exact congrArg Int32.ofInt (by omega)) | (simp only [z_nat, z_lit, ← Int32.ofInt_add, ← Int32.ofInt_sub, ← Int32.ofInt_mul]; done) | exact congrArg Int32.ofInt (by omega) | rfl), by (dsimp only; omega), rfl, ?_⟩
      exact fin _
    · refine k_isFine0 g3.2.2.2.1 g3.2.1 (br_t (by decide) ?_)
      refine ⟨5, _, by (first | assumption | (simp only [z_nat, z_lit, ← Int32.ofInt_add, ← Int32.ofInt_sub, ← Int32.ofInt_mul]; exact congrArg Int32.ofInt (by omega)) | (simp only [z_nat, z_lit, ← Int32.ofInt_add, ← Int32.ofInt_sub, ← Int32.ofInt_mul]; done) | exact congrArg Int32.ofInt (by omega) | rfl), by (dsimp only; omega), rfl, ?_⟩
      refine k_isFine0 g3.2.2.2.1 g3.2.1 (br_t (by decide) ?_)
      refine ⟨5, _, by (first | assumption | (simp only [z_nat, z_lit, ← Int32.ofInt_add, ← Int32.ofInt_sub, ← Int32.ofInt_mul]; exact congrArg Int32.ofInt (by omega)) | (simp only [z_nat, z_lit, ← Int32.ofInt_add, ← Int32.ofInt_sub, ← Int32.ofInt_mul]; done) | exact congrArg Int32.ofInt (by omega) | rfl), by (dsimp only; omega), rfl, ?_⟩
      exact fin _
  have X := (s_all (L := L) (xs := xs) (E := E) (x := x) (len := len) (tok := tok) (T := T) (fuL T) (fuL T) (Nat.le_refl _)).1
  refine smX_law X m2 (by show 12 * (T + 1 - (i + 1)) + 6 ≤ 12 * (T + 1) + 6; omega) (fun c v' j M3 er hf3 lo3 m3 => ?_) (fun k j M3 u er hf3 g3 => bad k j M3 u er hf3 g3)
  have ep : lawP tok T t i = .inr (lawT t c, j) := bd_ok er
  obtain ⟨⟨p1, p2, p3, p4⟩, p5, p6, -, -, -⟩ := prs_pK ht (by omega) (by omega) (by omega) er
  obtain ⟨q1, q2, q3, q4⟩ := p6 (Or.inl rfl)
  obtain ⟨g3, ⟨⟨e5, -⟩, e143, c25, ecd⟩, -⟩ := m3
  obtain ⟨⟨d1, d2, d3⟩, d4, d5, d6, d7⟩ := law_t (t := t) (c := c) l6
  refine w_at 90 [49] ?_
  refine ⟨fun _ => ?_, fun z => absurd rfl z⟩
  refine ⟨5, _, by (first | assumption | (simp only [z_nat, z_lit, ← Int32.ofInt_add, ← Int32.ofInt_sub, ← Int32.ofInt_mul]; exact congrArg Int32.ofInt (by omega)) | (simp only [z_nat, z_lit, ← Int32.ofInt_add, ← Int32.ofInt_sub, ← Int32.ofInt_mul]; done) | exact congrArg Int32.ofInt (by omega) | rfl), by (dsimp only; omega), e5, ?_⟩
  refine k_isFine1 g3.2.2.2.1 (br_f (by decide) ?_)
  refine ⟨5, nI (t 17 0 + 1), by (first | assumption | (simp only [z_nat, z_lit, ← Int32.ofInt_add, ← Int32.ofInt_sub, ← Int32.ofInt_mul]; exact congrArg Int32.ofInt (by omega)) | (simp only [z_nat, z_lit, ← Int32.ofInt_add, ← Int32.ofInt_sub, ← Int32.ofInt_mul]; done) | exact congrArg Int32.ofInt (by omega) | rfl), by (dsimp only; omega), by (first | assumption | (simp only [z_nat, z_lit, ← Int32.ofInt_add, ← Int32.ofInt_sub, ← Int32.ofInt_mul]; exact congrArg Int32.ofInt (by omega)) | (simp only [z_nat, z_lit, ← Int32.ofInt_add, ← Int32.ofInt_sub, ← Int32.ofInt_mul]; done) | exact congrArg Int32.ofInt (by omega) | rfl), ?_⟩
  have hf4 : q_fs [279] [] M3 (q_si M3 279 5 (nI (t 17 0 + 1))) := q_fs.rf.s1
  have out : ∀ q, ¬ q = 5 → ¬ q = 143 + t 17 0 → ¬ (149 + 256 * t 17 0 ≤ q ∧ q < 405 + 256 * t 17 0) → (q_si M3 279 5 (nI (t 17 0 + 1))).1 279 q = M.1 279 q := fun q y1 y2 y3 => (q_si_n y1).trans ((lo3 q y2 y3).trans (lo2 q y2 y3))
  refine h1 l6 _ _ _ ep ((hf2.mono.tr hf3.mono).tr hf4.mono) (g3.fs hf4) (h.law bt c255 d1 l6 d4 ?_ ⟨?_, fun p hp => ?_⟩ d5 (fun q hq => out q (by omega) (by omega) (by omega)) (fun q _ => ?_)) (out 7 (by omega) (by omega) (by omega))
  · rw [d1]
    exact q_si_s
  · rw [d2]
    exact (q_si_n (by omega)).trans e143
  · rw [d2] at hp
    rw [d3]
    exact (q_si_n (by omega)).trans (ecd p hp)
  · exact (hf4.p2 281 q).trans ((hf3.p2 281 q).trans (hf2.p2 281 q))
end LW
