/-! how the reference reads a LAW: its pile -/
def tp : List Nat → Nat
  | [] => 99
  | a :: _ => a
def rkC (a : Nat) : Nat := if a = 22 ∨ a = 23 ∨ a = 24 then 2 else if a = 20 ∨ a = 21 then 1 else 0
def jnC (p : Tok) : Nat := if ¬ addC p = 0 then addC p else if ¬ mulC p = 0 then mulC p else if ¬ cmpC p = 0 then cmpC p else 99
/-- 99 stands for none -/
def nn (a : Nat) : Int := if a = 99 then -1 else a
section LR
variable {L : Nat} {xs : Nat → Int32} {E : q_E} {d : Nat} {M : q_M} {t : q_T} {n : sN} {Q : Option Value → q_M → Prop} {P : q_M → Prop}
variable {x : Nat → Nat} {len : Nat} {tok : Nat → Tok} {T : Nat}
def pk (M : q_M) : List Nat → Prop
  | [] => True
  | a :: P => M.1 283 P.length = nI a ∧ a ≤ 41 ∧ pk M P
theorem pk.eq {M' : q_M} : ∀ {P : List Nat}, pk M P → (∀ q, q < P.length → M'.1 283 q = M.1 283 q) → pk M' P
  | [], _, _ => trivial
  | a :: P, h, e => ⟨(e _ (by rw [List.length_cons]; omega)).trans h.1, h.2.1, pk.eq h.2.2 (fun q hq => e q (by rw [List.length_cons]; omega))⟩
theorem pk.ap {Q P : List Nat} : ∀ {Q : List Nat}, pk M (Q ++ P) → pk M P
  | [], h => h
  | _ :: Q, h => pk.ap (Q := Q) h.2.2
/-- the law l: codes so far -/
def cdR (M : q_M) (l : Nat) (cs : List Nat) : Prop := (M.1 279 5 = nI l ∧ l < 6) ∧ M.1 279 (143 + l) = nI cs.length ∧ cs.length ≤ 255 ∧ ∀ p, p < cs.length → M.1 279 (149 + 256 * l + p) = nI (gt cs p)
def plR (M : q_M) (P : List Nat) : Prop := M.1 271 19 = nI P.length ∧ P.length ≤ 100 ∧ pk M P
/-- the reference amid a law -/
def mS (M : q_M) (x : Nat → Nat) (len : Nat) (tok : Nat → Tok) (T l i : Nat) (P : List Nat) (o v : Nat) (cs : List Nat) (rd : Nat) : Prop := g_rt M x len tok T i ∧ cdR M l cs ∧ plR M P ∧ (M.1 271 20 = nI o ∧ o ≤ 6) ∧ (M.1 271 21 = nI v ∧ v ≤ 40) ∧ M.1 271 22 = nI rd
abbrev lLr : List Nat := [279, 283]
abbrev fLr : List (Nat × Nat) := [(271, 8), (271, 9), (271, 10), (271, 19), (271, 20), (271, 21), (271, 22)]
/-- the rest of the draft stands -/
def lowD (l : Nat) (M M' : q_M) : Prop := ∀ q, ¬ q = 143 + l → ¬ (149 + 256 * l ≤ q ∧ q < 405 + 256 * l) → M'.1 279 q = M.1 279 q
theorem lowD.rf {l : Nat} : lowD l M M := fun _ _ _ => rfl
theorem lowD.tr {l : Nat} {M' M'' : q_M} (h : lowD l M M') (h' : lowD l M' M'') : lowD l M M'' := fun q h1 h2 => (h' q h1 h2).trans (h q h1 h2)
theorem lowD.of {l : Nat} {M' : q_M} {ll : List Nat} {f : List (Nat × Nat)} (hf : q_fs ll f M M') (o : ∀ i, q_scr ll f 279 i = false := by intro i; exact rfl) : lowD l M M' := fun q _ _ => (hf 279 q (o q)).1
theorem cdR.of {l : Nat} {cs : List Nat} {M' : q_M} (h : cdR M l cs) (e : M'.1 279 = M.1 279) : cdR M' l cs := by
  unfold cdR at h ⊢
  rw [e]
  exact h
theorem plR.of {P : List Nat} {M' : q_M} (h : plR M P) (e : M'.1 283 = M.1 283) (e19 : M'.1 271 19 = M.1 271 19) : plR M' P := ⟨e19.trans h.1, h.2.1, h.2.2.eq (fun q _ => by rw [e])⟩
set_option maxRecDepth 100000 in
set_option maxHeartbeats 4000000 in
theorem k_emits {l : Nat} {cs : List Nat} {a : Int32} (c : Nat) (h : cdR M l cs) (hc : cs.length ≤ 254) (hQ : ∀ M', q_fs [279] [] M M' → lowD l M M' → cdR M' l (cs ++ [c]) → Q none M') (ha : a = nI c := by (first | assumption | (simp only [z_nat, z_lit, ← Int32.ofInt_add, ← Int32.ofInt_sub, ← Int32.ofInt_mul]; exact congrArg Int32.ofInt (by omega)) | (simp only [z_nat, z_lit, ← Int32.ofInt_add, ← Int32.ofInt_sub, ← Int32.ofInt_mul]; done) | exact congrArg Int32.ofInt (by omega) | rfl)) : q_C q_mt (L, xs, q_shp) E nX12_emits (d) 0 0 [.ref 271, .int (a)] M Q := by
  subst ha
  obtain ⟨⟨h5, l6⟩, h143, h255, hp⟩ := h
  refine w_in 90 [] ?_
  refine ⟨5, _, by (first | assumption | (simp only [z_nat, z_lit, ← Int32.ofInt_add, ← Int32.ofInt_sub, ← Int32.ofInt_mul]; exact congrArg Int32.ofInt (by omega)) | (simp only [z_nat, z_lit, ← Int32.ofInt_add, ← Int32.ofInt_sub, ← Int32.ofInt_mul]; done) | exact congrArg Int32.ofInt (by omega) | rfl), by (dsimp only; omega), h5, ?_⟩
  refine ⟨143 + l, _, by (first | assumption | (simp only [z_nat, z_lit, ← Int32.ofInt_add, ← Int32.ofInt_sub, ← Int32.ofInt_mul]; exact congrArg Int32.ofInt (by omega)) | (simp only [z_nat, z_lit, ← Int32.ofInt_add, ← Int32.ofInt_sub, ← Int32.ofInt_mul]; done) | exact congrArg Int32.ofInt (by omega) | rfl), by (dsimp only; omega), h143, ?_⟩
  refine ⟨149 + 256 * l + cs.length, _, by (first | assumption | (simp only [z_nat, z_lit, ← Int32.ofInt_add, ← Int32.ofInt_sub, ← Int32.ofInt_mul]; exact congrArg Int32.ofInt (by omega)) | (simp only [z_nat, z_lit, ← Int32.ofInt_add, ← Int32.ofInt_sub, ← Int32.ofInt_mul]; done) | exact congrArg Int32.ofInt (by omega) | rfl), by (dsimp only; omega), rfl, ?_⟩
  have e1 : (q_si M 279 (149 + 256 * l + cs.length) (nI c)).1 279 (143 + l) = nI cs.length := (q_si_n (by omega)).trans h143
  refine ⟨143 + l, _, by (first | assumption | (simp only [z_nat, z_lit, ← Int32.ofInt_add, ← Int32.ofInt_sub, ← Int32.ofInt_mul]; exact congrArg Int32.ofInt (by omega)) | (simp only [z_nat, z_lit, ← Int32.ofInt_add, ← Int32.ofInt_sub, ← Int32.ofInt_mul]; done) | exact congrArg Int32.ofInt (by omega) | rfl), by (dsimp only; omega), e1, ?_⟩
  refine ⟨143 + l, nI (cs.length + 1), by (first | assumption | (simp only [z_nat, z_lit, ← Int32.ofInt_add, ← Int32.ofInt_sub, ← Int32.ofInt_mul]; exact congrArg Int32.ofInt (by omega)) | (simp only [z_nat, z_lit, ← Int32.ofInt_add, ← Int32.ofInt_sub, ← Int32.ofInt_mul]; done) | exact congrArg Int32.ofInt (by omega) | rfl), by (dsimp only; omega), by (first | assumption | (simp only [z_nat, z_lit, ← Int32.ofInt_add, ← Int32.ofInt_sub, ← Int32.ofInt_mul]; exact congrArg Int32.ofInt (by omega)) | (simp only [z_nat, z_lit, ← Int32.ofInt_add, ← Int32.ofInt_sub, ← Int32.ofInt_mul]; done) | exact congrArg Int32.ofInt (by omega) | rfl), ?_⟩
  have hf : q_fs [279] [] M (q_si (q_si M 279 (149 + 256 * l + cs.length) (nI c)) 279 (143 + l) (nI (cs.length + 1))) := q_fs.rf.s1.s1
  refine hQ _ hf (fun q h1 h2 => ?_) ⟨⟨?_, l6⟩, ?_, ?_, fun p hp' => ?_⟩
  · exact (q_si_n h1).trans (q_si_n (by omega))
  · exact (q_si_n (by omega)).trans ((q_si_n (by omega)).trans h5)
  · rw [List.length_append]
    exact q_si_s
  · rw [List.length_append]
    show cs.length + 1 ≤ 255
    omega
  · rw [List.length_append] at hp'
    have hp' : p < cs.length + 1 := hp'
    refine (q_si_n (by omega)).trans ?_
    by_cases q : p = cs.length
    · subst q
      rw [q_si_s]
      have := gt_2 (a := cs) (b := [c]) (p := 0)
      rw [Nat.add_zero] at this
      rw [this]
      rfl
    · rw [q_si_n (by omega), gt_1 (by omega)]
      exact hp p (by omega)
set_option maxRecDepth 100000 in
set_option maxHeartbeats 4000000 in
theorem k_top {P : List Nat} (h : plR M P) (hQ : Q (some (.int (Int32.ofInt (nn (tp P))))) M) : q_C q_mt (L, xs, q_shp) E nX12_topOfPile (d) 0 0 [.ref 271] M Q := by
  obtain ⟨h19, h100, hp⟩ := h
  cases P with
  | nil =>
    refine w_in 90 [] ?_
    refine ⟨_, h19, ?_⟩
    exact z_ne 0 0 (fun z => absurd rfl z) (fun _ => ⟨_, rfl, hQ⟩)
  | cons a P =>
    rw [List.length_cons] at h19 h100
    have e : nn (tp (a :: P)) = a := if_neg (by have := hp.2.1; show ¬ a = 99; omega)
    rw [e] at hQ
    refine w_in 90 [] ?_
    refine ⟨_, h19, ?_⟩
    refine z_ne ((P.length + 1 : Nat) : Int) 0 (fun _ => ?_) (fun z => by omega)
    refine ⟨_, h19, ?_⟩
    refine ⟨P.length, _, by (first | assumption | (simp only [z_nat, z_lit, ← Int32.ofInt_add, ← Int32.ofInt_sub, ← Int32.ofInt_mul]; exact congrArg Int32.ofInt (by omega)) | (simp only [z_nat, z_lit, ← Int32.ofInt_add, ← Int32.ofInt_sub, ← Int32.ofInt_mul]; done) | exact congrArg Int32.ofInt (by omega) | rfl), by (dsimp only; omega), hp.1, ?_⟩
    exact ⟨_, rfl, hQ⟩
set_option maxRecDepth 100000 in
set_option maxHeartbeats 4000000 in
theorem k_drops {l a : Nat} {P cs : List Nat} (h : plR M (a :: P)) (hc : cdR M l cs) (h254 : cs.length ≤ 254) (hQ : ∀ M', q_fs [279] [(271, 19)] M M' → lowD l M M' → plR M' P → cdR M' l (cs ++ [a]) → Q none M') : q_C q_mt (L, xs, q_shp) E nX12_drops (d + 1) 0 0 [.ref 271] M Q := by
  obtain ⟨h19, h100, hp⟩ := h
  rw [List.length_cons] at h19 h100
  refine w_in 90 [] ?_
  refine ⟨_, h19, ?_⟩
  refine ⟨nI P.length, by (first | assumption | (simp only [z_nat, z_lit, ← Int32.ofInt_add, ← Int32.ofInt_sub, ← Int32.ofInt_mul]; exact congrArg Int32.ofInt (by omega)) | (simp only [z_nat, z_lit, ← Int32.ofInt_add, ← Int32.ofInt_sub, ← Int32.ofInt_mul]; done) | exact congrArg Int32.ofInt (by omega) | rfl), ?_⟩
  have hf1 : q_fs [] [(271, 19)] M (q_si M 271 19 (nI P.length)) := q_fs.rf.s1
  have e19 : (q_si M 271 19 (nI P.length)).1 271 19 = nI P.length := q_si_s
  refine ⟨_, e19, ?_⟩
  refine ⟨P.length, _, by (first | assumption | (simp only [z_nat, z_lit, ← Int32.ofInt_add, ← Int32.ofInt_sub, ← Int32.ofInt_mul]; exact congrArg Int32.ofInt (by omega)) | (simp only [z_nat, z_lit, ← Int32.ofInt_add, ← Int32.ofInt_sub, ← Int32.ofInt_mul]; done) | exact congrArg Int32.ofInt (by omega) | rfl), by (dsimp only; omega), hp.1, ?_⟩
  refine k_emits a (hc.of (hf1.c1 279)) h254 (fun M2 hf2 lo2 c2 => ?_)
  exact hQ M2 (hf1.mono.tr hf2.mono) ((lowD.of hf1).tr lo2) ⟨(hf2.p1 271 19).trans e19, by omega, hp.2.2.eq (fun q _ => (hf2.p1 283 q).trans (hf1.p1 283 q))⟩ c2
set_option maxRecDepth 100000 in
set_option maxHeartbeats 4000000 in
theorem k_piles {i a : Nat} {P : List Nat} {b : Int32} (g : g_rt M x len tok T i) (hn : ¬ (tok i).1 = 0) (h : plR M P) (h99 : P.length ≤ 99) (ha : a ≤ 41) (hQ : ∀ M', q_fs [283] [(271, 8), (271, 19)] M M' → g_rt M' x len tok T (i + 1) → plR M' (a :: P) → Q none M') (hb : b = nI a := by (first | assumption | (simp only [z_nat, z_lit, ← Int32.ofInt_add, ← Int32.ofInt_sub, ← Int32.ofInt_mul]; exact congrArg Int32.ofInt (by omega)) | (simp only [z_nat, z_lit, ← Int32.ofInt_add, ← Int32.ofInt_sub, ← Int32.ofInt_mul]; done) | exact congrArg Int32.ofInt (by omega) | rfl)) : q_C q_mt (L, xs, q_shp) E nX12_piles (d) 0 0 [.ref 271, .int (b)] M Q := by
  subst hb
  obtain ⟨h19, h100, hp⟩ := h
  refine w_in 90 [] ?_
  refine ⟨_, h19, ?_⟩
  refine ⟨P.length, _, by (first | assumption | (simp only [z_nat, z_lit, ← Int32.ofInt_add, ← Int32.ofInt_sub, ← Int32.ofInt_mul]; exact congrArg Int32.ofInt (by omega)) | (simp only [z_nat, z_lit, ← Int32.ofInt_add, ← Int32.ofInt_sub, ← Int32.ofInt_mul]; done) | exact congrArg Int32.ofInt (by omega) | rfl), by (dsimp only; omega), rfl, ?_⟩
  refine ⟨_, h19, ?_⟩
  refine ⟨nI (P.length + 1), by (first | assumption | (simp only [z_nat, z_lit, ← Int32.ofInt_add, ← Int32.ofInt_sub, ← Int32.ofInt_mul]; exact congrArg Int32.ofInt (by omega)) | (simp only [z_nat, z_lit, ← Int32.ofInt_add, ← Int32.ofInt_sub, ← Int32.ofInt_mul]; done) | exact congrArg Int32.ofInt (by omega) | rfl), ?_⟩
  refine ⟨_, g.2.2.1, ?_⟩
  refine ⟨nI (i + 1), by (first | assumption | (simp only [z_nat, z_lit, ← Int32.ofInt_add, ← Int32.ofInt_sub, ← Int32.ofInt_mul]; exact congrArg Int32.ofInt (by omega)) | (simp only [z_nat, z_lit, ← Int32.ofInt_add, ← Int32.ofInt_sub, ← Int32.ofInt_mul]; done) | exact congrArg Int32.ofInt (by omega) | rfl), ?_⟩
  have hf1 : q_fs [283] [(271, 19)] M (q_si (q_si M 283 P.length (nI a)) 271 19 (nI (P.length + 1))) := q_fs.rf.s1.s1
  refine hQ _ (hf1.mono.s1) ((g.fs hf1).nx hn rfl) ⟨rfl, by rw [List.length_cons]; omega, ?_, ha, hp.eq (fun q hq => ?_)⟩
  · exact (q_si_nn (by omega)).trans ((q_si_nn (by omega)).trans q_si_s)
  · exact (q_si_nn (by omega)).trans ((q_si_nn (by omega)).trans (q_si_n (by omega)))
set_option maxRecDepth 100000 in
set_option maxHeartbeats 4000000 in
theorem k_rankOf {b : Int32} (a : Nat) (ha : a ≤ 99) (hQ : Q (some (.int (nI (rkC a)))) M) (hb : b = Int32.ofInt (nn a) := by (first | assumption | (simp only [z_nat, z_lit, ← Int32.ofInt_add, ← Int32.ofInt_sub, ← Int32.ofInt_mul]; exact congrArg Int32.ofInt (by omega)) | (simp only [z_nat, z_lit, ← Int32.ofInt_add, ← Int32.ofInt_sub, ← Int32.ofInt_mul]; done) | exact congrArg Int32.ofInt (by omega) | rfl)) : q_C q_mt (L, xs, q_shp) E nX12_rankOf (d) 0 0 [.int (b)] M Q := by
  subst hb
  have e : nn a = if a = 99 then -1 else (a : Int) := rfl
  have rg : -2147483648 ≤ nn a ∧ nn a < 2147483648 := by
    rw [e]
    split <;> omega
  have eq : ∀ k : Nat, k < 99 → (nn a = k ↔ a = k) := fun k hk => by
    rw [e]
    split <;> omega
  have r2 : a = 22 ∨ a = 23 ∨ a = 24 → rkC a = 2 := fun h => if_pos h
  have r1 : a = 20 ∨ a = 21 → rkC a = 1 := fun h => by unfold rkC; rw [if_neg (by omega), if_pos h]
  refine w_in 90 [] ?_
  refine z_eq (nn a) 22 (fun z => ?_) (fun z => ?_)
  · rw [r2 (Or.inl ((eq 22 (by omega)).mp z))] at hQ
    exact ⟨_, rfl, hQ⟩
  refine z_eq (nn a) 23 (fun z => ?_) (fun z2 => ?_)
  · rw [r2 (Or.inr (Or.inl ((eq 23 (by omega)).mp z)))] at hQ
    exact ⟨_, rfl, hQ⟩
  refine z_ne (nn a) 24 (fun z3 => ?_) (fun z => ?_)
  rotate_left 1
  · rw [r2 (Or.inr (Or.inr ((eq 24 (by omega)).mp z)))] at hQ
    exact ⟨_, rfl, hQ⟩
  refine z_eq (nn a) 20 (fun z => ?_) (fun z4 => ?_)
  · rw [r1 (Or.inl ((eq 20 (by omega)).mp z))] at hQ
    exact ⟨_, rfl, hQ⟩
  refine z_ne (nn a) 21 (fun z5 => ?_) (fun z => ?_)
  rotate_left 1
  · rw [r1 (Or.inr ((eq 21 (by omega)).mp z))] at hQ
    exact ⟨_, rfl, hQ⟩
  have : rkC a = 0 := by
    unfold rkC
    rw [if_neg (fun h => ?_), if_neg (fun h => ?_)]
    · rcases h with h | h
      · exact z4 ((eq 20 (by omega)).mpr h)
      · exact z5 ((eq 21 (by omega)).mpr h)
    · rcases h with h | h | h
      · exact z ((eq 22 (by omega)).mpr h)
      · exact z2 ((eq 23 (by omega)).mpr h)
      · exact z3 ((eq 24 (by omega)).mpr h)
  rw [this] at hQ
  exact ⟨_, rfl, hQ⟩
theorem tp_b {P : List Nat} (h : plR M P) : tp P ≤ 99 := by
  cases P with
  | nil => exact Nat.le_refl _
  | cons a P => have := h.2.2.2.1; show a ≤ 99; omega
theorem rkC_b {a : Nat} : rkC a ≤ 2 := by
  unfold rkC
  split
  · omega
  · split <;> omega
-- what is on top goes, down to a place
set_option maxRecDepth 100000 in
set_option maxHeartbeats 4000000 in
theorem k_settles {l r : Nat} {P0 : List Nat} {b : Int32} (hr : 1 ≤ r ∧ r ≤ 2) (h0 : rkC (tp P0) < r) (hb : b = nI r := by (first | assumption | (simp only [z_nat, z_lit, ← Int32.ofInt_add, ← Int32.ofInt_sub, ← Int32.ofInt_mul]; exact congrArg Int32.ofInt (by omega)) | (simp only [z_nat, z_lit, ← Int32.ofInt_add, ← Int32.ofInt_sub, ← Int32.ofInt_mul]; done) | exact congrArg Int32.ofInt (by omega) | rfl)) : ∀ {pend cs : List Nat} {M : q_M} {Q : Option Value → q_M → Prop}, plR M (pend ++ P0) → cdR M l cs → cs.length + pend.length ≤ 255 → (∀ a, a ∈ pend → r ≤ rkC a) → (∀ M', q_fs [279] [(271, 19)] M M' → lowD l M M' → plR M' P0 → cdR M' l (cs ++ pend) → Q none M') → q_C q_mt (L, xs, q_shp) E nX12_settles (d + 2) 0 0 [.ref 271, .int (b)] M Q := by
  subst hb
  have G : ∀ {pend cs : List Nat} {M : q_M} {Q : Option Value → q_M → Prop}, plR M (pend ++ P0) → cdR M l cs → cs.length + pend.length ≤ 255 → (∀ a, a ∈ pend → r ≤ rkC a) → (∀ M', q_fs [279] [(271, 19)] M M' → lowD l M M' → plR M' P0 → cdR M' l (cs ++ pend) → Q none M') → q_G q_mt (L, xs, q_shp) E nX12_settles (d + 2) 0 0 (q_Q (L, xs, q_shp) E Q) 0 [some (.ref 271), some (.int (nI r))] [] M := by
    intro pend
    induction pend with
    | nil =>
      intro cs M Q hp hc hl ha hQ
      have tb := tp_b hp
      have rb := rkC_b (a := tp P0)
      refine w_at 90 [0] ?_
      refine k_top hp ?_
      refine k_rankOf (tp P0) tb ?_
      refine z_lt (rkC (tp P0) : Int) r (fun _ => hQ M q_fs.rf lowD.rf hp (by rw [List.append_nil]; exact hc)) (fun z => by omega)
    | cons a pend ih =>
      intro cs M Q hp hc hl ha hQ
      have tb := tp_b hp
      have rb := rkC_b (a := a)
      have ra := ha a List.mem_cons_self
      rw [List.length_cons] at hl
      refine w_at 90 [0] ?_
      refine k_top hp ?_
      refine k_rankOf a tb ?_
      refine z_lt (rkC a : Int) r (fun z => by omega) (fun _ => ?_)
      refine k_drops (P := pend ++ P0) hp hc (by omega) (fun M2 hf2 lo2 p2 c2 => ?_)
      refine ih p2 c2 (by rw [List.length_append]; show cs.length + 1 + _ ≤ _; omega) (fun b hb => ha b (List.mem_cons_of_mem _ hb)) (fun M3 hf3 lo3 p3 c3 => ?_)
      refine hQ M3 (hf2.tr hf3) (lo2.tr lo3) p3 ?_
      rw [List.append_assoc] at c3
      exact c3
  intro pend cs M Q hp hc hl ha hQ
  refine q_en q_ok (Nat.le_of_ble_eq_true rfl) rfl ?_
  exact G hp hc hl ha hQ
set_option maxRecDepth 100000 in
set_option maxHeartbeats 4000000 in
theorem k_settlesTests {l : Nat} {P0 : List Nat} (h0 : ¬ tp P0 = 28 ∧ ¬ tp P0 = 29) : ∀ {pend cs : List Nat} {M : q_M} {Q : Option Value → q_M → Prop}, plR M (pend ++ P0) → cdR M l cs → cs.length + pend.length ≤ 255 → (∀ a, a ∈ pend → a = 28 ∨ a = 29) → (∀ M', q_fs [279] [(271, 19)] M M' → lowD l M M' → plR M' P0 → cdR M' l (cs ++ pend) → Q none M') → q_C q_mt (L, xs, q_shp) E nX12_settlesTests (d + 2) 0 0 [.ref 271] M Q := by
  have G : ∀ {pend cs : List Nat} {M : q_M} {Q : Option Value → q_M → Prop}, plR M (pend ++ P0) → cdR M l cs → cs.length + pend.length ≤ 255 → (∀ a, a ∈ pend → a = 28 ∨ a = 29) → (∀ M', q_fs [279] [(271, 19)] M M' → lowD l M M' → plR M' P0 → cdR M' l (cs ++ pend) → Q none M') → q_G q_mt (L, xs, q_shp) E nX12_settlesTests (d + 2) 0 0 (q_Q (L, xs, q_shp) E Q) 0 [some (.ref 271)] [] M := by
    intro pend
    induction pend with
    | nil =>
      intro cs M Q hp hc hl ha hQ
      have tb := tp_b hp
      have tb : tp P0 ≤ 99 := tb
      have e : nn (tp P0) = if tp P0 = 99 then -1 else (tp P0 : Int) := rfl
      have rg : -2147483648 ≤ nn (tp P0) ∧ nn (tp P0) < 2147483648 := by rw [e]; split <;> omega
      have n8 : ¬ nn (tp P0) = 28 := by rw [e]; split <;> omega
      have n9 : ¬ nn (tp P0) = 29 := by rw [e]; split <;> omega
      refine w_at 90 [0] ?_
      refine k_top hp ?_
      refine z_eq (nn (tp P0)) 28 (fun z => absurd z n8) (fun _ => ?_)
      refine k_top hp ?_
      exact z_ne (nn (tp P0)) 29 (fun _ => hQ M q_fs.rf lowD.rf hp (by rw [List.append_nil]; exact hc)) (fun z => absurd z n9)
    | cons a pend ih =>
      intro cs M Q hp hc hl ha hQ
      have ra := ha a List.mem_cons_self
      rw [List.length_cons] at hl
      have dr : ∀ M', M' = M → q_C q_mt (L, xs, q_shp) E nX12_drops (d + 1) 0 0 [.ref 271] M' (fun v M2 => v = none ∧ q_G q_mt (L, xs, q_shp) E nX12_settlesTests (d + 2) 0 0 (q_Q (L, xs, q_shp) E Q) 0 [some (.ref 271)] [] M2) := by
        rintro M' rfl
        refine k_drops (P := pend ++ P0) hp hc (by omega) (fun M2 hf2 lo2 p2 c2 => ⟨rfl, ?_⟩)
        refine ih p2 c2 (by rw [List.length_append]; show cs.length + 1 + _ ≤ _; omega) (fun b hb => ha b (List.mem_cons_of_mem _ hb)) (fun M3 hf3 lo3 p3 c3 => ?_)
        refine hQ M3 (hf2.tr hf3) (lo2.tr lo3) p3 ?_
        rw [List.append_assoc] at c3
        exact c3
      have e : nn (tp (a :: pend ++ P0)) = a := if_neg (by show ¬ a = 99; omega)
      rcases ra with rfl | rfl
      · refine w_at 90 [0] ?_
        refine k_top hp ?_
        rw [e]
        refine z_eq 28 28 (fun _ => ?_) (fun z => absurd rfl z)
        refine (dr M rfl).mono (fun v M2 h => ?_)
        obtain ⟨rfl, h⟩ := h
        exact h
      · refine w_at 90 [0] ?_
        refine k_top hp ?_
        rw [e]
        refine z_eq 29 28 (fun z => by omega) (fun _ => ?_)
        refine k_top hp ?_
        rw [e]
        refine z_ne 29 29 (fun z => absurd rfl z) (fun _ => ?_)
        refine (dr M rfl).mono (fun v M2 h => ?_)
        obtain ⟨rfl, h⟩ := h
        exact h
  intro pend cs M Q hp hc hl ha hQ
  refine q_en q_ok (Nat.le_of_ble_eq_true rfl) rfl ?_
  exact G hp hc hl ha hQ
/-- k nots -/
def nts : Nat → List Nat
  | 0 => []
  | k + 1 => 30 :: nts k
theorem nts_len : ∀ {k : Nat}, (nts k).length = k
  | 0 => rfl
  | k + 1 => by show (nts k).length + 1 = k + 1; rw [nts_len]
theorem nts_s {k : Nat} : nts k ++ [30] = nts (k + 1) := by
  induction k with
  | zero => rfl
  | succ k ih => show 30 :: (nts k ++ [30]) = 30 :: nts (k + 1); rw [ih]
set_option maxRecDepth 100000 in
set_option maxHeartbeats 4000000 in
theorem k_closesNots {l : Nat} {P0 : List Nat} (h0 : ¬ tp P0 = 30) : ∀ {k o : Nat} {cs : List Nat} {M : q_M} {Q : Option Value → q_M → Prop}, plR M (nts k ++ P0) → cdR M l cs → cs.length + k ≤ 255 → M.1 271 20 = nI o → k ≤ o → o ≤ 6 → (∀ M', q_fs [279] [(271, 19), (271, 20)] M M' → lowD l M M' → plR M' P0 → cdR M' l (cs ++ nts k) → M'.1 271 20 = nI (o - k) → Q none M') → q_C q_mt (L, xs, q_shp) E nX12_closesNots (d + 2) 0 0 [.ref 271] M Q := by
  have G : ∀ {k o : Nat} {cs : List Nat} {M : q_M} {Q : Option Value → q_M → Prop}, plR M (nts k ++ P0) → cdR M l cs → cs.length + k ≤ 255 → M.1 271 20 = nI o → k ≤ o → o ≤ 6 → (∀ M', q_fs [279] [(271, 19), (271, 20)] M M' → lowD l M M' → plR M' P0 → cdR M' l (cs ++ nts k) → M'.1 271 20 = nI (o - k) → Q none M') → q_G q_mt (L, xs, q_shp) E nX12_closesNots (d + 2) 0 0 (q_Q (L, xs, q_shp) E Q) 0 [some (.ref 271)] [] M := by
    intro k
    induction k with
    | zero =>
      intro o cs M Q hp hc hl ho hk h6 hQ
      have hp : plR M P0 := hp
      have tb : tp P0 ≤ 99 := tp_b hp
      have e : nn (tp P0) = if tp P0 = 99 then -1 else (tp P0 : Int) := rfl
      have rg : -2147483648 ≤ nn (tp P0) ∧ nn (tp P0) < 2147483648 := by rw [e]; split <;> omega
      have n8 : ¬ nn (tp P0) = 30 := by rw [e]; split <;> omega
      refine w_at 90 [0] ?_
      refine k_top hp ?_
      exact z_ne (nn (tp P0)) 30 (fun _ => hQ M q_fs.rf lowD.rf hp (by rw [show cs ++ nts 0 = cs from List.append_nil cs]; exact hc) ho) (fun z => absurd z n8)
    | succ k ih =>
      intro o cs M Q hp hc hl ho hk h6 hQ
      have hp : plR M (30 :: (nts k ++ P0)) := hp
      have e : nn (tp (30 :: (nts k ++ P0))) = 30 := if_neg (show ¬ 30 = 99 by decide)
      refine w_at 90 [0] ?_
      refine k_top hp ?_
      rw [e]
      refine z_ne 30 30 (fun z => absurd rfl z) (fun _ => ?_)
      refine k_drops hp hc (by omega) (fun M2 hf2 lo2 p2 c2 => ?_)
      have o2 : M2.1 271 20 = nI o := (hf2.p1 271 20).trans ho
      refine ⟨_, o2, ?_⟩
      refine ⟨nI (o - 1), by (first | assumption | (simp only [z_nat, z_lit, ← Int32.ofInt_add, ← Int32.ofInt_sub, ← Int32.ofInt_mul]; exact congrArg Int32.ofInt (by omega)) | (simp only [z_nat, z_lit, ← Int32.ofInt_add, ← Int32.ofInt_sub, ← Int32.ofInt_mul]; done) | exact congrArg Int32.ofInt (by omega) | rfl), ?_⟩
      have hf3 : q_fs [] [(271, 20)] M2 (q_si M2 271 20 (nI (o - 1))) := q_fs.rf.s1
      refine ih (o := o - 1) (p2.of (hf3.c1 283) (hf3.p1 271 19)) (c2.of (hf3.c1 279)) (by rw [List.length_append]; show cs.length + 1 + k ≤ 255; omega) q_si_s (by omega) (by omega) (fun M4 hf4 lo4 p4 c4 o4 => ?_)
      refine hQ M4 ((hf2.mono.tr hf3.mono).tr hf4) ((lo2.tr (lowD.of hf3)).tr lo4) p4 ?_ (by rw [o4, show o - 1 - k = o - (k + 1) by omega])
      rw [List.append_assoc] at c4
      exact c4
  intro k o cs M Q hp hc hl ho hk h6 hQ
  refine q_en q_ok (Nat.le_of_ble_eq_true rfl) rfl ?_
  exact G hp hc hl ho hk h6 hQ
set_option maxRecDepth 100000 in
set_option maxHeartbeats 4000000 in
theorem k_opensHere {i a : Nat} {P : List Nat} {o : Nat} {b : Int32} (g : g_rt M x len tok T i) (hn : ¬ (tok i).1 = 0) (h : plR M P) (h99 : P.length ≤ 99) (ha : a ≤ 41) (ho : M.1 271 20 = nI o) (h6 : o ≤ 6) (h1 : o < 6 → ∀ M', q_fs [283] [(271, 8), (271, 19), (271, 20)] M M' → g_rt M' x len tok T (i + 1) → plR M' (a :: P) → M'.1 271 20 = nI (o + 1) → Q none M') (h0 : o = 6 → ∀ M', q_fs [] fHr M M' → g_rb M' x len tok T 4 i → Q none M') (hb : b = nI a := by (first | assumption | (simp only [z_nat, z_lit, ← Int32.ofInt_add, ← Int32.ofInt_sub, ← Int32.ofInt_mul]; exact congrArg Int32.ofInt (by omega)) | (simp only [z_nat, z_lit, ← Int32.ofInt_add, ← Int32.ofInt_sub, ← Int32.ofInt_mul]; done) | exact congrArg Int32.ofInt (by omega) | rfl)) : q_C q_mt (L, xs, q_shp) E nX12_opensHere (d + 2) 0 0 [.ref 271, .int (b)] M Q := by
  subst hb
  refine w_in 90 [] ?_
  refine ⟨_, ho, ?_⟩
  refine z_ne (o : Int) 6 (fun z => ?_) (fun z => ?_)
  · refine ⟨_, ho, ?_⟩
    refine ⟨nI (o + 1), by (first | assumption | (simp only [z_nat, z_lit, ← Int32.ofInt_add, ← Int32.ofInt_sub, ← Int32.ofInt_mul]; exact congrArg Int32.ofInt (by omega)) | (simp only [z_nat, z_lit, ← Int32.ofInt_add, ← Int32.ofInt_sub, ← Int32.ofInt_mul]; done) | exact congrArg Int32.ofInt (by omega) | rfl), ?_⟩
    have hf1 : q_fs [] [(271, 20)] M (q_si M 271 20 (nI (o + 1))) := q_fs.rf.s1
    exact k_piles (g.fs hf1) hn (h.of (hf1.c1 283) (hf1.p1 271 19)) h99 ha (fun M2 hf2 g2 p2 => h1 (by omega) M2 (hf1.mono.tr hf2.mono) g2 p2 ((hf2.p1 271 20).trans q_si_s))
  · exact k_wrongs g 4 (by omega) (fun M2 hf2 g2 => h0 (by omega) M2 hf2 g2)
end LR
