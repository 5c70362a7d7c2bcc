/-! the ring goes as the row of rows goes -/
section R2
variable {L : Nat} {xs : Nat → Int32} {E : q_E} {d : Nat} {M : q_M} {t : q_T} {n : sN} {Q : Option Value → q_M → Prop} {P : q_M → Prop}
theorem g_S.keep {c p : Nat} {M M' : q_M} (h : g_S c M t n) (hf : q_fs (rgL p) [] M M') (hne : c + 8 ≤ 70 + 8 * p ∨ 70 + 8 * p + 8 ≤ c) : g_S c M' t n := by
  have key : ∀ k, k < 8 → M'.1 (c + k) = M.1 (c + k) := fun k hk => hf.c1 (c + k) (fun i => by
    unfold q_scr
    rw [show q_has2 (c + k) i [] = false from rfl, Bool.or_false]
    refine Bool.eq_false_iff.mpr (fun z => ?_)
    have z := q_has1_in.mp z
    simp only [List.mem_cons, List.not_mem_nil, or_false] at z
    omega)
  exact h.eq (key 0 (by omega)) (key 1 (by omega)) (key 2 (by omega)) (key 3 (by omega)) (key 4 (by omega)) (key 5 (by omega)) (key 6 (by omega)) (key 7 (by omega))
theorem g_S.f68 {c i j : Nat} {M : q_M} {x y : Int32} (h : g_S c M t n) (hc : c + 8 ≤ 68 ∨ 69 ≤ c) : g_S c (q_si (q_si M 68 i x) 68 j y) t n := by
  have key : ∀ k, k < 8 → (q_si (q_si M 68 i x) 68 j y).1 (c + k) = M.1 (c + k) := fun k hk => funext fun l => (q_si_nn (by omega)).trans (q_si_nn (by omega))
  exact h.eq (key 0 (by omega)) (key 1 (by omega)) (key 2 (by omega)) (key 3 (by omega)) (key 4 (by omega)) (key 5 (by omega)) (key 6 (by omega)) (key 7 (by omega))
theorem g_Rg.next {p s : Nat} {H : Nat → sN} {M1 : q_M} (h : g_Rg M t p s H) (h0 : g_S 43 M t n) (hf : q_fs (rgL p) [] M M1) (e : s_eq 43 (70 + 8 * p) M M1) : g_Rg (q_si (q_si M1 68 1 (nI ((p + 1) % 21))) 68 2 (nI (min 20 (s + 1)))) t ((p + 1) % 21) (min 20 (s + 1)) (hNx s H n) := by
  obtain ⟨hp, hs, -, -, hh⟩ := h
  refine ⟨Nat.mod_lt _ (by decide), Nat.min_le_left _ _, (q_si_n (by decide)).trans q_si_s, q_si_s, fun i hi => ?_⟩
  refine g_S.f68 ?_ (Or.inr (by omega))
  have new : g_S (70 + 8 * p) M1 t n := h0.cp e
  unfold hNx
  by_cases q : s < 20
  · rw [if_pos q]
    rw [show min 20 (s + 1) = s + 1 by omega] at hi ⊢
    by_cases q2 : i < s
    · rw [if_pos q2]
      have e1 : ((p + 1) % 21 + 21 - (s + 1) + i) % 21 = (p + 21 - s + i) % 21 := by omega
      rw [e1]
      exact (hh i q2).keep hf (by omega)
    · rw [if_neg q2]
      have e1 : ((p + 1) % 21 + 21 - (s + 1) + i) % 21 = p := by omega
      rw [e1]
      exact new
  · rw [if_neg q]
    obtain rfl : s = 20 := by omega
    rw [show min 20 (20 + 1) = 20 from rfl] at hi ⊢
    by_cases q2 : i < 19
    · rw [if_pos q2]
      have e1 : ((p + 1) % 21 + 21 - 20 + i) % 21 = (p + 21 - 20 + (i + 1)) % 21 := by omega
      rw [e1]
      exact (hh (i + 1) (by omega)).keep hf (by omega)
    · rw [if_neg q2]
      have e1 : ((p + 1) % 21 + 21 - 20 + i) % 21 = p := by omega
      rw [e1]
      exact new
/-- the cells of the State itself -/
abbrev stL : List Nat := [43, 44, 45, 46, 47, 48, 49, 50]
set_option maxRecDepth 100000 in
set_option maxHeartbeats 4000000 in
theorem k2_takeBack {p s : Nat} {H : Nat → sN} (h : g_Rg M t p s H) (hs : 0 < s) (hQ : ∀ M', q_fs stL [(68, 1), (68, 2)] M M' → g_Rg M' t ((p + 20) % 21) (s - 1) H → g_S 43 M' t (H (s - 1)) → Q (some (.int (nI (s - 1)))) M') : q_C q_mt (L, xs, q_shp) E nX0_takeBack (d + 3) 0 0 [.ref 68, .ref 43] M Q := by
  obtain ⟨hp, hs20, h1, h2, hh⟩ := h
  have hm : (p + 20) % 21 < 21 := Nat.mod_lt _ (by decide)
  refine w_in 90 [] ?_
  refine ⟨_, h1, ?_⟩
  refine And.intro (by decide) ?_
  refine ⟨_, rg_dn p hp, ?_⟩
  refine ⟨_, h2, ?_⟩
  refine ⟨nI (s - 1), by (first | assumption | (simp only [z_nat, z_lit, ← Int32.ofInt_add, ← Int32.ofInt_sub, ← Int32.ofInt_mul]; exact congrArg Int32.ofInt (by omega)) | (simp only [z_nat, z_lit, ← Int32.ofInt_add, ← Int32.ofInt_sub, ← Int32.ofInt_mul]; done) | exact congrArg Int32.ofInt (by omega) | rfl), ?_⟩
  have e1 : (q_si (q_si M 68 1 (nI ((p + 20) % 21))) 68 2 (nI (s - 1))).1 68 1 = nI ((p + 20) % 21) := (q_si_n (by decide)).trans q_si_s
  refine k2_restore ((p + 20) % 21) e1 hm (fun M' hf he => ?_)
  have e2 : M'.1 68 2 = nI (s - 1) := by
    rw [hf.c1 68]
    exact q_si_s
  refine ⟨_, e2, ?_⟩
  refine ⟨_, rfl, hQ M' ?_ ⟨hm, by omega, ?_, e2, fun i hi => ?_⟩ ?_⟩
  · exact ((q_fs.rf (l := stL) (f := [(68, 1), (68, 2)])).s1.s1).tr hf.mono
  · rw [hf.c1 68]
    exact e1
  · have e3 : ((p + 20) % 21 + 21 - (s - 1) + i) % 21 = (p + 21 - s + i) % 21 := by omega
    rw [e3]
    have g1 := (hh i (by omega)).f68 (i := 1) (j := 2) (x := nI ((p + 20) % 21)) (y := nI (s - 1)) (Or.inr (by omega))
    have key : ∀ c, 51 ≤ c → M'.1 c = (q_si (q_si M 68 1 (nI ((p + 20) % 21))) 68 2 (nI (s - 1))).1 c := fun c hc => hf.c1 c (fun i => by
      unfold q_scr
      rw [show q_has2 c i [] = false from rfl, Bool.or_false]
      refine Bool.eq_false_iff.mpr (fun z => ?_)
      have z := q_has1_in.mp z
      simp only [List.mem_cons, List.not_mem_nil, or_false] at z
      omega)
    exact g1.eq (key _ (by omega)) (key _ (by omega)) (key _ (by omega)) (key _ (by omega)) (key _ (by omega)) (key _ (by omega)) (key _ (by omega)) (key _ (by omega))
  · have g1 := (hh (s - 1) (by omega)).f68 (i := 1) (j := 2) (x := nI ((p + 20) % 21)) (y := nI (s - 1)) (Or.inr (by omega))
    rw [show (p + 21 - s + (s - 1)) % 21 = (p + 20) % 21 by omega] at g1
    exact g1.cp he
set_option maxRecDepth 100000 in
set_option maxHeartbeats 4000000 in
theorem k_undoLoop {c : Nat} {H : Nat → sN} (hc : c < 20) (h28 : M.1 271 28 = nI c) (hH : ∀ k, k < 634 → M.1 286 (634 * c + k) = Int32.ofInt (H c k)) (hQ : ∀ M', q_fs [284] [] M M' → r_N 284 0 M' (H c) → Q (some (.int (nI c))) M') : q_G q_mt (L, xs, q_shp) E nX12_undo (d) 0 0 (q_Q (L, xs, q_shp) E Q) 22 [some (.ref 271), some (.int (Int32.ofInt 0))] [] M := by
  have W := lp_m (W := fun i M' => ∀ v, v = nI i → q_G q_mt (L, xs, q_shp) E nX12_undo (d) 0 0 (q_Q (L, xs, q_shp) E Q) 22 [some (.ref 271), some (.int (v))] [] M') (J := fun i M' => q_fs [284] [] M M' ∧ ∀ k, k < i → M'.1 284 k = Int32.ofInt (H c k)) 634 ?_ ?_ 0 M (Nat.zero_le _) ⟨q_fs.rf, fun k hk => absurd hk (Nat.not_lt_zero _)⟩
  · exact W _ rfl
  · rintro M' ⟨hf, hm⟩ v rfl
    have e28 : M'.1 271 28 = nI c := by rw [hf.c1 271]; exact h28
    refine w_at 90 [22] ?_
    refine z_le 634 (634 : Nat) (fun _ => ?_) (fun h => by omega)
    refine ⟨_, e28, ?_⟩
    exact ⟨_, rfl, hQ M' hf (fun k hk => by rw [Nat.zero_add]; exact hm k hk)⟩
  · rintro i M' hi ⟨hf, hm⟩ ih v rfl
    have e28 : M'.1 271 28 = nI c := by rw [hf.c1 271]; exact h28
    have e86 : M'.1 286 (634 * c + i) = Int32.ofInt (H c i) := by rw [hf.c1 286]; exact hH i hi
    refine w_at 90 [22] ?_
    refine z_le 634 (i : Int) (fun h => by omega) (fun _ => ?_)
    refine ⟨_, e28, ?_⟩
    refine ⟨634 * c + i, _, by (first | assumption | (simp only [z_nat, z_lit, ← Int32.ofInt_add, ← Int32.ofInt_sub, ← Int32.ofInt_mul]; exact congrArg Int32.ofInt (by omega)) | (simp only [z_nat, z_lit, ← Int32.ofInt_add, ← Int32.ofInt_sub, ← Int32.ofInt_mul]; done) | exact congrArg Int32.ofInt (by omega) | rfl), by (dsimp only; omega), e86, ?_⟩
    refine ⟨i, _, by (first | assumption | (simp only [z_nat, z_lit, ← Int32.ofInt_add, ← Int32.ofInt_sub, ← Int32.ofInt_mul]; exact congrArg Int32.ofInt (by omega)) | (simp only [z_nat, z_lit, ← Int32.ofInt_add, ← Int32.ofInt_sub, ← Int32.ofInt_mul]; done) | exact congrArg Int32.ofInt (by omega) | rfl), by (dsimp only; omega), rfl, ?_⟩
    refine ih _ ⟨hf.s1, fun k hk => ?_⟩ _ (by (first | assumption | (simp only [z_nat, z_lit, ← Int32.ofInt_add, ← Int32.ofInt_sub, ← Int32.ofInt_mul]; exact congrArg Int32.ofInt (by omega)) | (simp only [z_nat, z_lit, ← Int32.ofInt_add, ← Int32.ofInt_sub, ← Int32.ofInt_mul]; done) | exact congrArg Int32.ofInt (by omega) | rfl))
    by_cases q : k = i
    · rw [q, q_si_s]
    · rw [q_si_n q]
      exact hm k (by omega)
set_option maxRecDepth 100000 in
set_option maxHeartbeats 4000000 in
theorem o_undo {p s : Nat} {H : Nat → sN} (h : g_Rg M t p s H) (h' : g_H M s H) (hP0 : s = 0 → P M) (hP : 0 < s → ∀ M', q_fs [43, 44, 45, 46, 47, 48, 49, 50, 284] [(68, 1), (68, 2), (271, 28)] M M' → g_Rg M' t ((p + 20) % 21) (s - 1) H → g_H M' (s - 1) H → g_S 43 M' t (H (s - 1)) → r_N 284 0 M' (H (s - 1)) → P M') : zOp L xs E nX11_undo nX12_undo (d + 4) [] M P := by
  have hs20 := h.2.1
  by_cases q : s = 0
  · subst q
    refine w_in 90 [] ?_
    refine ⟨_, h.2.2.2.1, ?_⟩
    refine z_ne (0 : Nat) 0 (fun z => by omega) (fun _ => ⟨_, rfl, _, rfl, ?_⟩)
    refine w_in 90 [22] ?_
    refine ⟨_, h'.2.1, ?_⟩
    exact z_ne (0 : Nat) 0 (fun z => by omega) (fun _ => ⟨_, rfl, rfl, hP0 rfl⟩)
  · refine w_in 90 [] ?_
    refine ⟨_, h.2.2.2.1, ?_⟩
    refine z_ne (s : Int) 0 (fun _ => ?_) (fun z => by omega)
    refine k2_takeBack h (by omega) (fun M1 hf1 hR1 hS1 => ⟨_, rfl, _, rfl, ?_⟩)
    have e28 : M1.1 271 28 = nI s := by
      rw [hf1.c1 271]
      exact h'.2.1
    refine w_in 90 [22] ?_
    refine ⟨_, e28, ?_⟩
    refine z_ne (s : Int) 0 (fun _ => ?_) (fun z => by omega)
    refine ⟨_, e28, ?_⟩
    refine ⟨nI (s - 1), by (first | assumption | (simp only [z_nat, z_lit, ← Int32.ofInt_add, ← Int32.ofInt_sub, ← Int32.ofInt_mul]; exact congrArg Int32.ofInt (by omega)) | (simp only [z_nat, z_lit, ← Int32.ofInt_add, ← Int32.ofInt_sub, ← Int32.ofInt_mul]; done) | exact congrArg Int32.ofInt (by omega) | rfl), ?_⟩
    refine k_undoLoop (H := H) (c := s - 1) (by omega) q_si_s (fun k hk => ?_) (fun M2 hf2 hn2 => ⟨rfl, ?_⟩)
    · show M1.1 286 (634 * (s - 1) + k) = _
      rw [hf1.c1 286]
      exact h'.2.2 (s - 1) (by omega) k hk
    · have fz : q_fs [284] [(271, 28)] M1 M2 := (q_fs.rf.s1 (r := 271) (i := 28) (x := nI (s - 1))).tr hf2.mono
      have ky : ∀ c, ¬ c = 271 → ¬ c = 284 → M2.1 c = M1.1 c := fun c hc1 hc2 => fz.c1 c (fun i => by
        unfold q_scr
        have a1 : q_has1 c [284] = false := Bool.eq_false_iff.mpr (fun z => by
          have z := q_has1_in.mp z
          simp only [List.mem_cons, List.not_mem_nil, or_false] at z
          omega)
        have a2 : q_has2 c i [(271, 28)] = false := Bool.eq_false_iff.mpr (fun z => by
          have z := q_has2_in.mp z
          simp only [List.mem_cons, List.not_mem_nil, or_false, Prod.mk.injEq] at z
          omega)
        rw [a1, a2]
        rfl)
      have ge : ∀ {c : Nat} {m : sN}, c + 8 ≤ 271 → g_S c M1 t m → g_S c M2 t m := fun {c m} hc g => g.eq (ky _ (by omega) (by omega)) (ky _ (by omega) (by omega)) (ky _ (by omega) (by omega)) (ky _ (by omega) (by omega)) (ky _ (by omega) (by omega)) (ky _ (by omega) (by omega)) (ky _ (by omega) (by omega)) (ky _ (by omega) (by omega))
      refine hP (by omega) M2 (hf1.mono.tr fz.mono) ⟨hR1.1, hR1.2.1, ?_, ?_, fun i hi => ge (by omega) (hR1.2.2.2.2 i hi)⟩ ⟨by omega, ?_, fun i hi k hk => ?_⟩ (ge (by omega) hS1) hn2
      · rw [ky 68 (by decide) (by decide)]
        exact hR1.2.2.1
      · rw [ky 68 (by decide) (by decide)]
        exact hR1.2.2.2.1
      · rw [hf2.c1 271]
        exact q_si_s
      · rw [ky 286 (by decide) (by decide), hf1.c1 286]
        exact h'.2.2 i (by omega) k hk
end R2
