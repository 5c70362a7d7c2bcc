/-! acts as calls: noted, done, remembered -/
/-- what an act leaves alone -/
def aO (r i : Nat) : Bool := !(c_rng 43 50 r || c_rng 70 241 r || c_rng 284 286 r || c_rng 293 294 r || Nat.beq r 243 || Nat.beq r 68 || (Nat.beq r 271 && (Nat.beq i 28 || c_rng 36 39 i)))
def q_fo (M M' : q_M) : Prop := ∀ r i, aO r i = true → M'.1 r i = M.1 r i ∧ M'.2 r i = M.2 r i
theorem q_fo.tr {M M' M'' : q_M} (h : q_fo M M') (h' : q_fo M' M'') : q_fo M M'' := fun r i hr => ⟨(h' r i hr).1.trans (h r i hr).1, (h' r i hr).2.trans (h r i hr).2⟩
theorem q_fs.fo {l : List Nat} {f : List (Nat × Nat)} {M M' : q_M} (h : q_fs l f M M') (o : (l.all (fun a => c_rng 43 50 a || c_rng 70 241 a || c_rng 284 286 a || c_rng 293 294 a || Nat.beq a 243 || Nat.beq a 68) && f.all (fun q => !(aO q.1 q.2))) = true := by exact rfl) : q_fo M M' := by
  intro r i hr
  refine h r i ?_
  rw [Bool.and_eq_true, List.all_eq_true, List.all_eq_true] at o
  cases q : q_scr l f r i with
  | false => rfl
  | true =>
    exfalso
    unfold q_scr at q
    rw [Bool.or_eq_true] at q
    rcases q with q | q
    · have := o.1 r (q_has1_in.mp q)
      unfold aO at hr
      rw [this] at hr
      cases hr
    · have := o.2 (r, i) (q_has2_in.mp q)
      rw [Bool.not_eq_true'] at this
      rw [this] at hr
      cases hr
theorem rg_scr {p r i : Nat} (h : r < 70 + 8 * p ∨ 70 + 8 * p + 8 ≤ r) : q_scr (rgL p) [] r i = false := by
  unfold q_scr
  rw [show q_has2 r i [] = false from rfl, Bool.or_false]
  refine Bool.eq_false_iff.mpr (fun z => ?_)
  have z := q_has1_in.mp z
  simp only [List.mem_cons, List.not_mem_nil, or_false] at z
  omega
theorem rg_fo {p : Nat} {M M' : q_M} (h : q_fs (rgL p) [] M M') (hp : p < 21) : q_fo M M' := fun r i hr => h r i (rg_scr (by
  refine Classical.byContradiction (fun z => ?_)
  have : c_rng 70 241 r = true := c_rng.i (by omega) (by omega)
  unfold aO at hr
  rw [this, Bool.or_true] at hr
  cases hr))
section AO
variable {L : Nat} {xs : Nat → Int32} {E : q_E} {d : Nat} {M : q_M} {t : q_T} {n : sN} {Q : Option Value → q_M → Prop} {P : q_M → Prop}
theorem g_A.rg {p : Nat} {M' : q_M} (g : g_A 43 M t n) (hf : q_fs (rgL p) [] M M') (hp : p < 21) : g_A 43 M' t n := by
  have k : ∀ r, r < 70 → M'.1 r = M.1 r := fun r hr => hf.c1 r (fun i => rg_scr (by omega))
  have k2 : ∀ r, 238 ≤ r → M'.1 r = M.1 r := fun r hr => hf.c1 r (fun i => rg_scr (by omega))
  exact ⟨g.R.eq (k2 280 (by omega)) (k2 284 (by omega)), g.C.eq (fun i hi => k _ (by omega)), g.S.eq (k _ (by omega)) (k _ (by omega)) (k _ (by omega)) (k _ (by omega)) (k _ (by omega)) (k _ (by omega)) (k _ (by omega)) (k _ (by omega))⟩
theorem g_H.eq {c : Nat} {H : Nat → sN} {M' : q_M} (h : g_H M c H) (e1 : M'.1 271 28 = M.1 271 28) (e2 : M'.1 286 = M.1 286) : g_H M' c H := by
  unfold g_H at h ⊢
  rw [e1, e2]
  exact h
theorem g_Rg.eq {p s : Nat} {H : Nat → sN} {M' : q_M} (h : g_Rg M t p s H) (e1 : M'.1 68 1 = M.1 68 1) (e2 : M'.1 68 2 = M.1 68 2) (e : ∀ r, 70 ≤ r → r < 238 → M'.1 r = M.1 r) : g_Rg M' t p s H := by
  obtain ⟨h1, h2, h3, h4, h5⟩ := h
  refine ⟨h1, h2, e1.trans h3, e2.trans h4, fun i hi => ?_⟩
  have m : (p + 21 - s + i) % 21 < 21 := Nat.mod_lt _ (by decide)
  exact (h5 i hi).eq (e _ (by omega) (by omega)) (e _ (by omega) (by omega)) (e _ (by omega) (by omega)) (e _ (by omega) (by omega)) (e _ (by omega) (by omega)) (e _ (by omega) (by omega)) (e _ (by omega) (by omega)) (e _ (by omega) (by omega))
theorem g_Rg.fs {l : List Nat} {f : List (Nat × Nat)} {p s : Nat} {H : Nat → sN} {M' : q_M} (h : g_Rg M t p s H) (hf : q_fs l f M M') (o : (l.all (fun a => !(c_rng 68 237 a)) && f.all (fun q => !(c_rng 68 237 q.1))) = true := by exact rfl) : g_Rg M' t p s H := h.eq (by rw [hf.c1 68 (q_out o rfl)]) (by rw [hf.c1 68 (q_out o rfl)]) (fun r h1 h2 => hf.c1 r (q_out o (c_rng.i (by omega) (by omega))))
/-- a noted State that is not yet past -/
theorem g_Rg.nt {p s : Nat} {H : Nat → sN} {M' : q_M} (h : g_Rg M t p s H) (hf : q_fs (rgL p) [] M M') : g_Rg M' t p s H := by
  obtain ⟨h1, h2, h3, h4, h5⟩ := h
  refine ⟨h1, h2, by rw [hf.c1 68 (fun i => rg_scr (by omega))]; exact h3, by rw [hf.c1 68 (fun i => rg_scr (by omega))]; exact h4, fun i hi => (h5 i hi).keep hf ?_⟩
  have m : (p + 21 - s + i) % 21 < 21 := Nat.mod_lt _ (by decide)
  have : ¬ (p + 21 - s + i) % 21 = p := by omega
  omega
/-- what acts go by -/
def iH (M : q_M) (t : q_T) (n : sN) (p s : Nat) (H : Nat → sN) : Prop := (g_A 43 M t n ∧ b_J t n) ∧ g_Rg M t p s H ∧ g_H M s H ∧ ∀ i, i < s → b_J t (H i)
theorem act_no {p s : Nat} {H : Nat → sN} {M1 M2 : q_M} (h : iH M t n p s H) (hf1 : q_fs (rgL p) [] M M1) (hf2 : q_fs [285] [] M1 M2) : iH M2 t n p s H ∧ q_fo M M2 := by
  obtain ⟨⟨g, hJ⟩, hR, hH, hb⟩ := h
  have hp := hR.1
  refine ⟨⟨⟨(g.rg hf1 hp).fs hf2 g_o.of, hJ⟩, (hR.nt hf1).fs hf2, hH.eq ?_ ?_, hb⟩, (rg_fo hf1 hp).tr hf2.fo⟩
  · rw [hf2.c1 271, hf1.c1 271 (fun i => rg_scr (by omega))]
  · rw [hf2.c1 286, hf1.c1 286 (fun i => rg_scr (by omega))]
theorem act_0 {p s : Nat} {H : Nat → sN} {M2 : q_M} (h : iH M t n p s H) (hf2 : q_fs [285] [] M M2) : iH M2 t n p s H ∧ q_fo M M2 := by
  obtain ⟨⟨g, hJ⟩, hR, hH, hb⟩ := h
  exact ⟨⟨⟨g.fs hf2 g_o.of, hJ⟩, hR.fs hf2, hH.eq (by rw [hf2.c1 271]) (hf2.c1 286), hb⟩, hf2.fo⟩
theorem hNx_b {s : Nat} {H : Nat → sN} (hs : s ≤ 20) (hJ : b_J t n) (hb : ∀ i, i < s → b_J t (H i)) : ∀ i, i < min 20 (s + 1) → b_J t (hNx s H n i) := by
  intro i hi
  unfold hNx
  by_cases q : s < 20
  · rw [if_pos q]
    by_cases q2 : i < s
    · rw [if_pos q2]
      exact hb i q2
    · rw [if_neg q2]
      exact hJ
  · rw [if_neg q]
    by_cases q2 : i < 19
    · rw [if_pos q2]
      exact hb (i + 1) (by omega)
    · rw [if_neg q2]
      exact hJ
/-- the class has done it; what the reference goes by then -/
theorem act_c {p s : Nat} {H : Nat → sN} {M1 M2 : q_M} {m : sN} (h : iH M t n p s H) (hf1 : q_fs (rgL p) [] M M1) (he1 : s_eq 43 (70 + 8 * p) M M1) (hf2 : q_fs lC_43 fC M1 M2) (g2 : g_Z 43 M2 t m) : (g_R (q_si (q_si M2 68 1 (nI ((p + 1) % 21))) 68 2 (nI (min 20 (s + 1)))) t n ∧ q_fo M (q_si (q_si M2 68 1 (nI ((p + 1) % 21))) 68 2 (nI (min 20 (s + 1)))) ∧ g_H (q_si (q_si M2 68 1 (nI ((p + 1) % 21))) 68 2 (nI (min 20 (s + 1)))) s H) ∧ g_Z 43 (q_si (q_si M2 68 1 (nI ((p + 1) % 21))) 68 2 (nI (min 20 (s + 1)))) t m ∧ g_Rg (q_si (q_si M2 68 1 (nI ((p + 1) % 21))) 68 2 (nI (min 20 (s + 1)))) t ((p + 1) % 21) (min 20 (s + 1)) (hNx s H n) := by
  obtain ⟨⟨g, hJ⟩, hR, hH, hb⟩ := h
  have hp := hR.1
  have hf3 : q_fs [68] [] M2 (q_si (q_si M2 68 1 (nI ((p + 1) % 21))) 68 2 (nI (min 20 (s + 1)))) := q_fs.rf.s1.s1
  have a := hR.next g.S hf1 he1
  refine ⟨⟨((g.rg hf1 hp).R.fs hf2).fs hf3, ((rg_fo hf1 hp).tr hf2.fo).tr hf3.fo, hH.eq ?_ ?_⟩, g2.f2 hf3, a.eq rfl rfl (fun r h1 h2 => ?_)⟩
  · rw [hf3.c1 271, hf2.c1 271, hf1.c1 271 (fun i => rg_scr (by omega))]
  · rw [hf3.c1 286, hf2.c1 286, hf1.c1 286 (fun i => rg_scr (by omega))]
  · have x : (q_si (q_si M2 68 1 (nI ((p + 1) % 21))) 68 2 (nI (min 20 (s + 1)))).1 r = M2.1 r := funext fun i => (q_si_nn (by omega)).trans (q_si_nn (by omega))
    have y : (q_si (q_si M1 68 1 (nI ((p + 1) % 21))) 68 2 (nI (min 20 (s + 1)))).1 r = M1.1 r := funext fun i => (q_si_nn (by omega)).trans (q_si_nn (by omega))
    rw [x, y]
    refine hf2.c1 r (q_out (p := c_rng 70 237) rfl (c_rng.i h1 (by omega)))
/-- and the reference too -/
theorem act_r {p s : Nat} {H : Nat → sN} {M3 M4 M5 M6 : q_M} {m : sN} (hs : s ≤ 20) (hJ : b_J t n) (hb : ∀ i, i < s → b_J t (H i)) (hJm : b_J t m) (fo : q_fo M M3) (g3 : g_Z 43 M3 t m) (hR : g_Rg M3 t ((p + 1) % 21) (min 20 (s + 1)) (hNx s H n)) (hf4 : q_fs [285] [] M3 M4) (hf5 : q_fs lG fD M4 M5) (g5 : g_R M5 t m) (hf6 : q_fs [286] [(271, 28)] M5 M6) (hH : g_H M6 (min 20 (s + 1)) (hNx s H n)) : iH M6 t m ((p + 1) % 21) (min 20 (s + 1)) (hNx s H n) ∧ q_fo M M6 := by
  have g6 := ((g3.f2 hf4).f2 hf5).f2 hf6
  exact ⟨⟨⟨⟨g5.fs hf6, g6.C, g6.S⟩, hJm⟩, ((hR.fs hf4).fs hf5).fs hf6, hH, hNx_b hs hJ hb⟩, ((fo.tr hf4.fo).tr hf5.fo).tr hf6.fo⟩
set_option maxRecDepth 100000 in
set_option maxHeartbeats 4000000 in
theorem k2_settle {a : Int32} (v : Int) (hv : -3 ≤ v ∧ v ≤ 20000) {p s : Nat} (hp : M.1 68 1 = nI p) (hs : M.1 68 2 = nI s) (h21 : p < 21) (h20 : s ≤ 20) (h0 : v < 0 → Q (some (.int (Int32.ofInt v))) M) (h1 : 0 ≤ v → Q (some (.int (Int32.ofInt v))) (q_si (q_si M 68 1 (nI ((p + 1) % 21))) 68 2 (nI (min 20 (s + 1))))) (ha : a = Int32.ofInt v := by (first | assumption | (simp only [z_nat, z_lit, ← Int32.ofInt_add, ← Int32.ofInt_sub, ← Int32.ofInt_mul]; exact congrArg Int32.ofInt (by omega)) | (simp only [z_nat, z_lit, ← Int32.ofInt_add, ← Int32.ofInt_sub, ← Int32.ofInt_mul]; done) | exact congrArg Int32.ofInt (by omega) | rfl)) : q_C q_mt (L, xs, q_shp) E nX11_settle (d + 2) 0 0 [.ref 2, .int (a)] M Q := by
  subst ha
  refine w_in 90 [] ?_
  refine z_lt v 0 (fun z => ⟨_, rfl, h0 z⟩) (fun z => ?_)
  exact k2_commit p s hp hs h21 h20 ⟨_, rfl, h1 z⟩
set_option maxRecDepth 100000 in
set_option maxHeartbeats 4000000 in
theorem k_acted {a : Int32} (v : Int) (hv : -3 ≤ v ∧ v ≤ 20000) {c : Nat} {H : Nat → sN} (h : g_H M c H) (hn : 0 ≤ v → ∀ k, k < 634 → M.1 285 k = Int32.ofInt (n k)) (h0 : v < 0 → Q (some (.int (Int32.ofInt v))) M) (h1 : 0 ≤ v → ∀ M', q_fs [286] [(271, 28)] M M' → g_H M' (min 20 (c + 1)) (hNx c H n) → Q (some (.int (Int32.ofInt v))) M') (ha : a = Int32.ofInt v := by (first | assumption | (simp only [z_nat, z_lit, ← Int32.ofInt_add, ← Int32.ofInt_sub, ← Int32.ofInt_mul]; exact congrArg Int32.ofInt (by omega)) | (simp only [z_nat, z_lit, ← Int32.ofInt_add, ← Int32.ofInt_sub, ← Int32.ofInt_mul]; done) | exact congrArg Int32.ofInt (by omega) | rfl)) : q_C q_mt (L, xs, q_shp) E nX12_acted (d + 1) 0 0 [.ref 271, .int (a)] M Q := by
  subst ha
  refine w_in 90 [] ?_
  refine z_lt v 0 (fun z => ⟨_, rfl, h0 z⟩) (fun z => ?_)
  exact k_remembers h (hn z) (fun M' hf hH => ⟨_, rfl, h1 z M' hf hH⟩)
end AO
