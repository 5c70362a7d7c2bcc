/-! names of the draft -/
def fnE (t : q_T) (x : Nat → Nat) (len o N j : Nat) : Nat := rnE (fun e => !decide (n5 t (o + e) = w5E x (tkS x len j) ((tkR x len (tkS x len j) - tkS x len j)))) id N 0
section NM
variable {L : Nat} {xs : Nat → Int32} {E : q_E} {d : Nat} {M : q_M} {t : q_T} {n : sN} {Q : Option Value → q_M → Prop} {P : q_M → Prop}
variable {x : Nat → Nat} {len : Nat} {tok : Nat → Tok} {T : Nat}
theorem fnE_s {o N j : Nat} : fnE t x len o N j ≤ N ∧ (∀ e, e < fnE t x len o N j → ¬ n5 t (o + e) = w5E x (tkS x len j) ((tkR x len (tkS x len j) - tkS x len j))) ∧ (fnE t x len o N j < N → n5 t (o + fnE t x len o N j) = w5E x (tkS x len j) ((tkR x len (tkS x len j) - tkS x len j))) := by
  obtain ⟨s1, s2, s3, s4⟩ := rnE_s (f := fun e => !decide (n5 t (o + e) = w5E x (tkS x len j) ((tkR x len (tkS x len j) - tkS x len j)))) (x := id) (k := N) (i := 0)
  have e : fnE t x len o N j = rnE (fun e => !decide (n5 t (o + e) = w5E x (tkS x len j) ((tkR x len (tkS x len j) - tkS x len j)))) id N 0 := rfl
  rw [← e] at s1 s2 s3 s4
  refine ⟨by omega, fun k hk z => ?_, fun hl => ?_⟩
  · have := s3 k (Nat.zero_le _) hk
    rw [Bool.not_eq_true', decide_eq_false_iff_not] at this
    exact this z
  · have := s4 (by omega)
    rw [Bool.not_eq_false', decide_eq_true_iff] at this
    exact this
theorem fnE_un {o N j e : Nat} (he : e < N) (h1 : n5 t (o + e) = w5E x (tkS x len j) ((tkR x len (tkS x len j) - tkS x len j))) (h2 : ∀ i, i < e → ¬ n5 t (o + i) = w5E x (tkS x len j) ((tkR x len (tkS x len j) - tkS x len j))) : fnE t x len o N j = e := by
  obtain ⟨s1, s2, s3⟩ := fnE_s (t := t) (x := x) (len := len) (o := o) (N := N) (j := j)
  rcases Nat.lt_trichotomy (fnE t x len o N j) e with z | z | z
  · exact absurd (s3 (by omega)) (h2 _ z)
  · exact z
  · exact absurd h1 (s2 e z)
theorem nm_tkG {i e : Nat} (hT : g_T x len tok T) (h : (tok i).1 = 2) (hm : nmO t e) : (Int64.ofInt (n5 t e : Nat) = Int64.ofInt (w5E x (tkS x len i) ((tkR x len (tkS x len i) - tkS x len i)) : Nat) ↔ n5 t e = w5E x (tkS x len i) ((tkR x len (tkS x len i) - tkS x len i))) ∧ (Int64.ofInt (n8 t e : Nat) = Int64.ofInt (w8E x (tkS x len i) ((tkR x len (tkS x len i) - tkS x len i)) : Nat) ↔ n5 t e = w5E x (tkS x len i) ((tkR x len (tkS x len i) - tkS x len i))) := by
  have a := hT.2.1 i
  rw [tk_pr h] at a
  obtain ⟨a1, a2, a3, a4⟩ := a.nm
  have l : ∀ p, p < (tkR x len (tkS x len i) - tkS x len i) → 97 ≤ x (tkS x len i + p) ∧ x (tkS x len i + p) ≤ 122 := fun p hp => lt_tk a1 a2 hp
  have b := nm_b hm
  have c := w5E_60 l
  have e8 := w8E_63 (by omega) l
  refine ⟨y_inj (by omega) (by omega), ?_⟩
  rw [y_inj (by omega) (by omega)]
  exact (w58 (by have := hm.2.1; omega) (by omega) hm.2.2.1 l).symm
def bNm (t : q_T) : Prop := (∀ i, i < t 5 0 → nmO t (0 + i)) ∧ ∀ e, e < t 8 0 → nmO t (10 + e)
set_option maxRecDepth 100000 in
set_option maxHeartbeats 4000000 in
theorem k2_findDiveD {i : Nat} (g : g_ct M x len tok T i) (h : (tok i).1 = 2) (dc : dC M t) (hk : t 5 0 ≤ 10) (bn : bNm t) {v : Int64} (hv : v = Int64.ofInt (w5E x (tkS x len i) ((tkR x len (tkS x len i) - tkS x len i)) : Nat)) (h1 : fnE t x len 0 (t 5 0) i < t 5 0 → Q (some (.int (nI (fnE t x len 0 (t 5 0) i)))) M) (h0 : ¬ fnE t x len 0 (t 5 0) i < t 5 0 → Q (some (.int (Int32.ofInt (-1)))) M) : q_C q_mt (L, xs, q_shp) E nX2_findDive (d) 0 0 [.ref 24, .long (v)] M Q := by
  subst hv
  have hN : M.1 24 5 = nI (t 5 0) := by
    obtain ⟨⟨a0, a1, a2, a5, a9, a16, a17, aJ, aD, aE, aF, aC⟩, aL, aG, aN, aM, aW, aS⟩ := dc
    first | exact a5 | exact a9
  have hM : ∀ e, e < t 5 0 → M.2 27 e = Int64.ofInt (n5 t (0 + e) : Nat) := fun e he => by
    obtain ⟨⟨a0, a1, a2, a5, a9, a16, a17, aJ, aD, aE, aF, aC⟩, aL, aG, aN, aM, aW, aS⟩ := dc
    first | exact aM e he | (rw [Nat.zero_add]; exact aN e he)
  have key : ∀ e, e < t 5 0 → (M.2 27 e = Int64.ofInt (w5E x (tkS x len i) ((tkR x len (tkS x len i) - tkS x len i)) : Nat) ↔ n5 t (0 + e) = w5E x (tkS x len i) ((tkR x len (tkS x len i) - tkS x len i))) := fun e he => by
    rw [hM e he]
    exact (nm_tkG g.tt h (bn.1 e he)).1
  have W := lp_up (W := fun k => (∀ e, e < k → ¬ n5 t (0 + e) = w5E x (tkS x len i) ((tkR x len (tkS x len i) - tkS x len i))) → ∀ u, u = nI k → q_G q_mt (L, xs, q_shp) E nX2_findDive (d) 0 0 (q_Q (L, xs, q_shp) E Q) 2 [some (.ref 24), some (.long (Int64.ofInt (w5E x (tkS x len i) ((tkR x len (tkS x len i) - tkS x len i)) : Nat))), none, some (.int (u))] [] M) (t 5 0) ?_ ?_ 0 (Nat.zero_le _)
  · refine w_in 90 [2] ?_
    exact W (fun j hj => absurd hj (Nat.not_lt_zero _)) _ rfl
  · rintro hj u rfl
    refine w_at 90 [2] ?_
    refine ⟨_, hN, ?_⟩
    refine z_le (t 5 0 : Int) (t 5 0) (fun _ => ⟨_, rfl, h0 (fun z => ?_)⟩) (fun z => by omega)
    exact hj _ z ((fnE_s).2.2 z)
  · rintro k hk ih hj u rfl
    refine w_at 90 [2] ?_
    refine ⟨_, hN, ?_⟩
    refine z_le (t 5 0 : Int) k (fun z => by omega) (fun _ => ?_)
    refine ⟨k, _, by (first | assumption | (simp only [z_nat, z_lit, ← Int32.ofInt_add, ← Int32.ofInt_sub, ← Int32.ofInt_mul]; exact congrArg Int32.ofInt (by omega)) | (simp only [z_nat, z_lit, ← Int32.ofInt_add, ← Int32.ofInt_sub, ← Int32.ofInt_mul]; done) | exact congrArg Int32.ofInt (by omega) | rfl), by (dsimp only; omega), rfl, ?_⟩
    refine ⟨fun z => ?_, fun z => ⟨_, rfl, ?_⟩⟩
    · refine ih (fun j hjk w => ?_) (nI k + Int32.ofInt 1) (by (first | assumption | (simp only [z_nat, z_lit, ← Int32.ofInt_add, ← Int32.ofInt_sub, ← Int32.ofInt_mul]; exact congrArg Int32.ofInt (by omega)) | (simp only [z_nat, z_lit, ← Int32.ofInt_add, ← Int32.ofInt_sub, ← Int32.ofInt_mul]; done) | exact congrArg Int32.ofInt (by omega) | rfl))
      by_cases q : j = k
      · subst q
        exact z ((lg_cmp_eq _ _).mpr ((key j hk).mpr w))
      · exact hj j (by omega) w
    · have e : fnE t x len 0 (t 5 0) i = k := fnE_un hk ((key k hk).mp ((lg_cmp_eq _ _).mp z)) hj
      have := h1 (by rw [e]; exact hk)
      rw [e] at this
      exact this
set_option maxRecDepth 100000 in
set_option maxHeartbeats 4000000 in
theorem k2_findEntrantD {i : Nat} (g : g_ct M x len tok T i) (h : (tok i).1 = 2) (dc : dC M t) (hk : t 8 0 ≤ 6) (bn : bNm t) {v : Int64} (hv : v = Int64.ofInt (w5E x (tkS x len i) ((tkR x len (tkS x len i) - tkS x len i)) : Nat)) (h1 : fnE t x len 10 (t 8 0) i < t 8 0 → Q (some (.int (nI (fnE t x len 10 (t 8 0) i)))) M) (h0 : ¬ fnE t x len 10 (t 8 0) i < t 8 0 → Q (some (.int (Int32.ofInt (-1)))) M) : q_C q_mt (L, xs, q_shp) E nX2_findEntrant (d) 0 0 [.ref 24, .long (v)] M Q := by
  subst hv
  have hN : M.1 24 9 = nI (t 8 0) := by
    obtain ⟨⟨a0, a1, a2, a5, a9, a16, a17, aJ, aD, aE, aF, aC⟩, aL, aG, aN, aM, aW, aS⟩ := dc
    first | exact a5 | exact a9
  have hM : ∀ e, e < t 8 0 → M.2 30 e = Int64.ofInt (n5 t (10 + e) : Nat) := fun e he => by
    obtain ⟨⟨a0, a1, a2, a5, a9, a16, a17, aJ, aD, aE, aF, aC⟩, aL, aG, aN, aM, aW, aS⟩ := dc
    first | exact aM e he | (rw [Nat.zero_add]; exact aN e he)
  have key : ∀ e, e < t 8 0 → (M.2 30 e = Int64.ofInt (w5E x (tkS x len i) ((tkR x len (tkS x len i) - tkS x len i)) : Nat) ↔ n5 t (10 + e) = w5E x (tkS x len i) ((tkR x len (tkS x len i) - tkS x len i))) := fun e he => by
    rw [hM e he]
    exact (nm_tkG g.tt h (bn.2 e he)).1
  have W := lp_up (W := fun k => (∀ e, e < k → ¬ n5 t (10 + e) = w5E x (tkS x len i) ((tkR x len (tkS x len i) - tkS x len i))) → ∀ u, u = nI k → q_G q_mt (L, xs, q_shp) E nX2_findEntrant (d) 0 0 (q_Q (L, xs, q_shp) E Q) 2 [some (.ref 24), some (.long (Int64.ofInt (w5E x (tkS x len i) ((tkR x len (tkS x len i) - tkS x len i)) : Nat))), none, some (.int (u))] [] M) (t 8 0) ?_ ?_ 0 (Nat.zero_le _)
  · refine w_in 90 [2] ?_
    exact W (fun j hj => absurd hj (Nat.not_lt_zero _)) _ rfl
  · rintro hj u rfl
    refine w_at 90 [2] ?_
    refine ⟨_, hN, ?_⟩
    refine z_le (t 8 0 : Int) (t 8 0) (fun _ => ⟨_, rfl, h0 (fun z => ?_)⟩) (fun z => by omega)
    exact hj _ z ((fnE_s).2.2 z)
  · rintro k hk ih hj u rfl
    refine w_at 90 [2] ?_
    refine ⟨_, hN, ?_⟩
    refine z_le (t 8 0 : Int) k (fun z => by omega) (fun _ => ?_)
    refine ⟨k, _, by (first | assumption | (simp only [z_nat, z_lit, ← Int32.ofInt_add, ← Int32.ofInt_sub, ← Int32.ofInt_mul]; exact congrArg Int32.ofInt (by omega)) | (simp only [z_nat, z_lit, ← Int32.ofInt_add, ← Int32.ofInt_sub, ← Int32.ofInt_mul]; done) | exact congrArg Int32.ofInt (by omega) | rfl), by (dsimp only; omega), rfl, ?_⟩
    refine ⟨fun z => ?_, fun z => ⟨_, rfl, ?_⟩⟩
    · refine ih (fun j hjk w => ?_) (nI k + Int32.ofInt 1) (by (first | assumption | (simp only [z_nat, z_lit, ← Int32.ofInt_add, ← Int32.ofInt_sub, ← Int32.ofInt_mul]; exact congrArg Int32.ofInt (by omega)) | (simp only [z_nat, z_lit, ← Int32.ofInt_add, ← Int32.ofInt_sub, ← Int32.ofInt_mul]; done) | exact congrArg Int32.ofInt (by omega) | rfl))
      by_cases q : j = k
      · subst q
        exact z ((lg_cmp_eq _ _).mpr ((key j hk).mpr w))
      · exact hj j (by omega) w
    · have e : fnE t x len 10 (t 8 0) i = k := fnE_un hk ((key k hk).mp ((lg_cmp_eq _ _).mp z)) hj
      have := h1 (by rw [e]; exact hk)
      rw [e] at this
      exact this
set_option maxRecDepth 100000 in
set_option maxHeartbeats 4000000 in
theorem k_draftNamed {i o N : Nat} {a b : Int32} (g : g_rt M x len tok T i) (h : (tok i).1 = 2) (hoN : o + N ≤ 16) (hm : ∀ e, e < N → nmO t (o + e) ∧ M.2 281 (o + e) = Int64.ofInt (n8 t (o + e) : Nat)) {v : Int64} (hv : v = Int64.ofInt (w8E x (tkS x len i) ((tkR x len (tkS x len i) - tkS x len i)) : Nat)) (h1 : fnE t x len o N i < N → Q (some (.int (nI (fnE t x len o N i)))) M) (h0 : ¬ fnE t x len o N i < N → Q (some (.int (Int32.ofInt (-1)))) M) (ha : a = nI o := by (first | assumption | (simp only [z_nat, z_lit, ← Int32.ofInt_add, ← Int32.ofInt_sub, ← Int32.ofInt_mul]; exact congrArg Int32.ofInt (by omega)) | (simp only [z_nat, z_lit, ← Int32.ofInt_add, ← Int32.ofInt_sub, ← Int32.ofInt_mul]; done) | exact congrArg Int32.ofInt (by omega) | rfl)) (hb : b = nI N := by (first | assumption | (simp only [z_nat, z_lit, ← Int32.ofInt_add, ← Int32.ofInt_sub, ← Int32.ofInt_mul]; exact congrArg Int32.ofInt (by omega)) | (simp only [z_nat, z_lit, ← Int32.ofInt_add, ← Int32.ofInt_sub, ← Int32.ofInt_mul]; done) | exact congrArg Int32.ofInt (by omega) | rfl)) : q_C q_mt (L, xs, q_shp) E nX12_draftNamed (d) 0 0 [.ref 271, .int (a), .int (b), .long (v)] M Q := by
  subst hv ha hb
  have key : ∀ e, e < N → (M.2 281 (o + e) = Int64.ofInt (w8E x (tkS x len i) ((tkR x len (tkS x len i) - tkS x len i)) : Nat) ↔ n5 t (o + e) = w5E x (tkS x len i) ((tkR x len (tkS x len i) - tkS x len i))) := fun e he => by
    rw [(hm e he).2]
    exact (nm_tkG g.tt h (hm e he).1).2
  have W := lp_up (W := fun k => (∀ e, e < k → ¬ n5 t (o + e) = w5E x (tkS x len i) ((tkR x len (tkS x len i) - tkS x len i))) → ∀ u, u = nI k → q_G q_mt (L, xs, q_shp) E nX12_draftNamed (d) 0 0 (q_Q (L, xs, q_shp) E Q) 3 [some (.ref 271), some (.int (nI o)), some (.int (nI N)), some (.long (Int64.ofInt (w8E x (tkS x len i) ((tkR x len (tkS x len i) - tkS x len i)) : Nat))), none, some (.int (u))] [] M) N ?_ ?_ 0 (Nat.zero_le _)
  · refine w_in 90 [3] ?_
    exact W (fun j hj => absurd hj (Nat.not_lt_zero _)) _ rfl
  · rintro hj u rfl
    refine w_at 90 [3] ?_
    refine z_le (N : Int) N (fun _ => ⟨_, rfl, h0 (fun z => ?_)⟩) (fun z => by omega)
    exact hj _ z ((fnE_s).2.2 z)
  · rintro k hk ih hj u rfl
    refine w_at 90 [3] ?_
    refine z_le (N : Int) k (fun z => by omega) (fun _ => ?_)
    refine ⟨o + k, _, by (first | assumption | (simp only [z_nat, z_lit, ← Int32.ofInt_add, ← Int32.ofInt_sub, ← Int32.ofInt_mul]; exact congrArg Int32.ofInt (by omega)) | (simp only [z_nat, z_lit, ← Int32.ofInt_add, ← Int32.ofInt_sub, ← Int32.ofInt_mul]; done) | exact congrArg Int32.ofInt (by omega) | rfl), by (dsimp only; omega), rfl, ?_⟩
    refine ⟨fun z => ?_, fun z => ⟨_, rfl, ?_⟩⟩
    · refine ih (fun j hjk w => ?_) (nI k + Int32.ofInt 1) (by (first | assumption | (simp only [z_nat, z_lit, ← Int32.ofInt_add, ← Int32.ofInt_sub, ← Int32.ofInt_mul]; exact congrArg Int32.ofInt (by omega)) | (simp only [z_nat, z_lit, ← Int32.ofInt_add, ← Int32.ofInt_sub, ← Int32.ofInt_mul]; done) | exact congrArg Int32.ofInt (by omega) | rfl))
      by_cases q : j = k
      · subst q
        exact z ((lg_cmp_eq _ _).mpr ((key j hk).mpr w))
      · exact hj j (by omega) w
    · have e : fnE t x len o N i = k := fnE_un hk ((key k hk).mp ((lg_cmp_eq _ _).mp z)) hj
      have := h1 (by rw [e]; exact hk)
      rw [e] at this
      exact this
/-- a name that nobody has -/
def namP (t : q_T) (x : Nat → Nat) (len : Nat) (tok : Nat → Tok) (i : Nat) : Rs Unit := if (tok i).1 = 2 then (if fnE t x len 0 (t 5 0) i < t 5 0 ∨ fnE t x len 10 (t 8 0) i < t 8 0 then .inl (3, i) else .inr ((), i + 1)) else .inl (1, i)
theorem dR.nmO {e : Nat} (h : dR M t) (bn : bNm t) : (∀ e, e < t 5 0 → nmO t (0 + e) ∧ M.2 281 (0 + e) = Int64.ofInt (n8 t (0 + e) : Nat)) ∧ ∀ e, e < t 8 0 → nmO t (10 + e) ∧ M.2 281 (10 + e) = Int64.ofInt (n8 t (10 + e) : Nat) := by
  obtain ⟨-, -, aN, aM, -⟩ := h
  refine ⟨fun e he => ⟨bn.1 e he, ?_⟩, fun e he => ⟨bn.2 e he, aM e he⟩⟩
  rw [Nat.zero_add]
  exact aN e he
set_option maxRecDepth 100000 in
set_option maxHeartbeats 4000000 in
theorem k2_takeNewName {i : Nat} (g : g_ct M x len tok T i) (dc : dC M t) (bt : b_T t) (bn : bNm t) (h1 : namP t x len tok i = .inr ((), i + 1) → (tok i).1 = 2 → Q (some (.int 1)) M) (h0 : ∀ k M', namP t x len tok i = .inl (k, i) → q_fs [] fTk M M' → g_cf M' x len k i → Q (some (.int 0)) M') : q_C q_mt (L, xs, q_shp) E nX3_takeNewName (d + 2) 0 0 [.ref 42] M Q := by
  have k5 := g.tt.k5 i
  have d10 := bt.2.2.2.1
  have e6 := bt.2.2.2.2.1
  have s1 := (fnE_s (t := t) (x := x) (len := len) (o := 0) (N := t 5 0) (j := i)).1
  have s2 := (fnE_s (t := t) (x := x) (len := len) (o := 10) (N := t 8 0) (j := i)).1
  refine w_in 90 [] ?_
  refine ⟨_, g.k.1, ?_⟩
  refine z_eq ((tok i).1 : Int) 2 (fun z => ?_) (fun z => ?_)
  · have z : (tok i).1 = 2 := by omega
    have ep : namP t x len tok i = if fnE t x len 0 (t 5 0) i < t 5 0 ∨ fnE t x len 10 (t 8 0) i < t 8 0 then .inl (3, i) else .inr ((), i + 1) := if_pos z
    refine ⟨_, g.k.nm z, ?_⟩
    refine k2_findDiveD g z dc d10 bn rfl (fun y => ?_) (fun y => ?_)
    · rw [if_pos (Or.inl y)] at ep
      refine z_ne (fnE t x len 0 (t 5 0) i : Int) (-1) (fun _ => ?_) (fun w => by omega)
      exact k2_refuse g 3 (fun M' hf g' => ⟨z_0, h0 3 M' ep hf g'⟩)
    · refine z_ne (-1) (-1) (fun w => absurd rfl w) (fun _ => ?_)
      refine ⟨_, g.k.nm z, ?_⟩
      refine k2_findEntrantD g z dc e6 bn rfl (fun y' => ?_) (fun y' => ?_)
      · rw [if_pos (Or.inr y')] at ep
        refine z_eq (fnE t x len 10 (t 8 0) i : Int) (-1) (fun w => by omega) (fun _ => ?_)
        exact k2_refuse g 3 (fun M' hf g' => ⟨z_0, h0 3 M' ep hf g'⟩)
      · rw [if_neg (fun w => w.elim y y')] at ep
        exact z_eq (-1) (-1) (fun _ => ⟨z_1, h1 ep z⟩) (fun w => absurd rfl w)
  · have ep : namP t x len tok i = .inl (1, i) := if_neg (by omega)
    exact k2_refuse g 1 (fun M' hf g' => ⟨z_0, h0 1 M' ep hf g'⟩)
set_option maxRecDepth 100000 in
set_option maxHeartbeats 4000000 in
theorem k_newName {i p : Nat} {a : Int32} (g : g_rt M x len tok T i) (dr : dR M t) (bt : b_T t) (bn : bNm t) (hp : p < 16) (h1 : namP t x len tok i = .inr ((), i + 1) → (tok i).1 = 2 → g_rt (q_si (q_sl M 281 p (Int64.ofInt (w8E x (tkS x len i) ((tkR x len (tkS x len i) - tkS x len i)) : Nat))) 271 8 (nI (i + 1))) x len tok T (i + 1) → Q none (q_si (q_sl M 281 p (Int64.ofInt (w8E x (tkS x len i) ((tkR x len (tkS x len i) - tkS x len i)) : Nat))) 271 8 (nI (i + 1)))) (h0 : ∀ k M', namP t x len tok i = .inl (k, i) → q_fs [] fHr M M' → g_rb M' x len tok T k i → Q none M') (ha : a = nI p := by (first | assumption | (simp only [z_nat, z_lit, ← Int32.ofInt_add, ← Int32.ofInt_sub, ← Int32.ofInt_mul]; exact congrArg Int32.ofInt (by omega)) | (simp only [z_nat, z_lit, ← Int32.ofInt_add, ← Int32.ofInt_sub, ← Int32.ofInt_mul]; done) | exact congrArg Int32.ofInt (by omega) | rfl)) : q_C q_mt (L, xs, q_shp) E nX12_newName (d + 2) 0 0 [.ref 271, .int (a)] M Q := by
  subst ha
  have i12 := g.i12
  have d10 := bt.2.2.2.1
  have e6 := bt.2.2.2.2.1
  have s1 := (fnE_s (t := t) (x := x) (len := len) (o := 0) (N := t 5 0) (j := i)).1
  have s2 := (fnE_s (t := t) (x := x) (len := len) (o := 10) (N := t 8 0) (j := i)).1
  obtain ⟨nD, nE⟩ := dr.nmO (e := 0) bn
  refine w_in 90 [] ?_
  refine k_isFine1 g.2.2.2.1 (bn_t (by decide) ?_)
  refine k_isNameHere g (fun z => bn_t (by decide) ?_) (fun z => bn_f rfl ?_)
  · have ep : namP t x len tok i = if fnE t x len 0 (t 5 0) i < t 5 0 ∨ fnE t x len 10 (t 8 0) i < t 8 0 then .inl (3, i) else .inr ((), i + 1) := if_pos z
    have e76 := (g.k.2.2.2.1 z).2.1
    refine ⟨_, g.2.2.1, ?_⟩
    refine ⟨i, _, by (first | assumption | (simp only [z_nat, z_lit, ← Int32.ofInt_add, ← Int32.ofInt_sub, ← Int32.ofInt_mul]; exact congrArg Int32.ofInt (by omega)) | (simp only [z_nat, z_lit, ← Int32.ofInt_add, ← Int32.ofInt_sub, ← Int32.ofInt_mul]; done) | exact congrArg Int32.ofInt (by omega) | rfl), by (dsimp only; omega), e76, ?_⟩
    refine ⟨3, _, by (first | assumption | (simp only [z_nat, z_lit, ← Int32.ofInt_add, ← Int32.ofInt_sub, ← Int32.ofInt_mul]; exact congrArg Int32.ofInt (by omega)) | (simp only [z_nat, z_lit, ← Int32.ofInt_add, ← Int32.ofInt_sub, ← Int32.ofInt_mul]; done) | exact congrArg Int32.ofInt (by omega) | rfl), by (dsimp only; omega), dr.1.2.2.2.1, ?_⟩
    refine k_draftNamed g z (o := 0) (by omega) nD rfl (fun y => ?_) (fun y => ?_)
    · rw [if_pos (Or.inl y)] at ep
      refine z_ne (fnE t x len 0 (t 5 0) i : Int) (-1) (fun _ => ?_) (fun w => by omega)
      exact k_wrongs g 3 (by omega) (fun M' hf g' => h0 3 M' ep hf g')
    · refine z_ne (-1) (-1) (fun w => absurd rfl w) (fun _ => ?_)
      refine ⟨4, _, by (first | assumption | (simp only [z_nat, z_lit, ← Int32.ofInt_add, ← Int32.ofInt_sub, ← Int32.ofInt_mul]; exact congrArg Int32.ofInt (by omega)) | (simp only [z_nat, z_lit, ← Int32.ofInt_add, ← Int32.ofInt_sub, ← Int32.ofInt_mul]; done) | exact congrArg Int32.ofInt (by omega) | rfl), by (dsimp only; omega), dr.1.2.2.2.2.1, ?_⟩
      refine k_draftNamed g z (o := 10) (by omega) nE rfl (fun y' => ?_) (fun y' => ?_)
      · rw [if_pos (Or.inr y')] at ep
        refine z_eq (fnE t x len 10 (t 8 0) i : Int) (-1) (fun w => by omega) (fun _ => ?_)
        exact k_wrongs g 3 (by omega) (fun M' hf g' => h0 3 M' ep hf g')
      · rw [if_neg (fun w => w.elim y y')] at ep
        refine z_eq (-1) (-1) (fun _ => ?_) (fun w => absurd rfl w)
        refine ⟨p, _, by (first | assumption | (simp only [z_nat, z_lit, ← Int32.ofInt_add, ← Int32.ofInt_sub, ← Int32.ofInt_mul]; exact congrArg Int32.ofInt (by omega)) | (simp only [z_nat, z_lit, ← Int32.ofInt_add, ← Int32.ofInt_sub, ← Int32.ofInt_mul]; done) | exact congrArg Int32.ofInt (by omega) | rfl), by (dsimp only; omega), rfl, ?_⟩
        refine ⟨_, g.2.2.1, ?_⟩
        refine ⟨nI (i + 1), by (first | assumption | (simp only [z_nat, z_lit, ← Int32.ofInt_add, ← Int32.ofInt_sub, ← Int32.ofInt_mul]; exact congrArg Int32.ofInt (by omega)) | (simp only [z_nat, z_lit, ← Int32.ofInt_add, ← Int32.ofInt_sub, ← Int32.ofInt_mul]; done) | exact congrArg Int32.ofInt (by omega) | rfl), ?_⟩
        have hf1 : q_fs [281] [] M (q_sl M 281 p (Int64.ofInt (w8E x (tkS x len i) ((tkR x len (tkS x len i) - tkS x len i)) : Nat))) := q_fs.rf.s2
        exact h1 ep z ((g.fs hf1).nx (by omega) rfl)
  · have ep : namP t x len tok i = .inl (1, i) := if_neg z
    exact k_wrongs g 1 (by omega) (fun M' hf g' => h0 1 M' ep hf g')
set_option maxRecDepth 100000 in
set_option maxHeartbeats 4000000 in
theorem k_newName0 {k i : Nat} {a : Int32} (g : g_rb M x len tok T k i) (hQ : Q none M) : q_C q_mt (L, xs, q_shp) E nX12_newName (d + 2) 0 0 [.ref 271, .int (a)] M Q := by
  refine w_in 90 [] ?_
  exact k_isFine0 g.2.2.2.1 g.2.1 (bn_f rfl hQ)
end NM
