/-! the call back -/
section BK
variable {L : Nat} {xs : Nat → Int32} {E : q_E} {d : Nat} {M : q_M} {t : q_T} {n : sN} {Q : Option Value → q_M → Prop} {P : q_M → Prop}
set_option maxRecDepth 100000 in
set_option maxHeartbeats 4000000 in
theorem k2_countAll (h6 : t 8 0 ≤ 6) (S : g_S 43 M t n) (hQ : Q (some (.int (nI (gvA t n)))) M) : q_C q_mt (L, xs, q_shp) E nX8_countAllGiven (d) 0 0 [.ref 43] M Q := by
  have eq : fb_sm (gS t n) 6 = gvA t n := by
    obtain ⟨j, hj⟩ : ∃ j, 6 = t 8 0 + j := ⟨6 - t 8 0, by omega⟩
    rw [hj, fb_sm_split]
    have e1 : fb_sm (gS t n) (t 8 0) = gvA t n := fb_sm_cong (fun e he => if_pos he)
    have e2 : fb_sm (fun k => gS t n (t 8 0 + k)) j = fb_sm (fun _ => 0) j := fb_sm_cong (fun e he => if_neg (by omega))
    rw [e1, e2, fb_sm_const]
    omega
  rw [← eq] at hQ
  have W := lp_up (W := fun e => ∀ u v, u = nI (fb_sm (gS t n) e) → v = nI e → q_G q_mt (L, xs, q_shp) E nX8_countAllGiven (d) 0 0 (q_Q (L, xs, q_shp) E Q) 4 [some (.ref 43), some (.int (u)), some (.int (v))] [] M) 6 ?_ ?_ 0 (Nat.zero_le _)
  · refine w_in 90 [4] ?_
    exact W _ _ rfl rfl
  · rintro u v rfl rfl
    refine w_at 90 [4] ?_
    exact z_le 6 (6 : Nat) (fun h => ⟨_, rfl, hQ⟩) (fun h => by omega)
  · rintro e he ih u v rfl rfl
    refine w_at 90 [4] ?_
    refine z_le 6 (e : Int) (fun h => by omega) (fun h => ?_)
    refine ⟨e, _, by (first | assumption | (simp only [z_nat, z_lit, ← Int32.ofInt_add, ← Int32.ofInt_sub, ← Int32.ofInt_mul]; exact congrArg Int32.ofInt (by omega)) | (simp only [z_nat, z_lit, ← Int32.ofInt_add, ← Int32.ofInt_sub, ← Int32.ofInt_mul]; done) | exact congrArg Int32.ofInt (by omega) | rfl), by (dsimp only; omega), (S.2.2.1 e he).2.2.1, ?_⟩
    exact ih _ _ (by rw [fb_sm_succ]; (first | assumption | (simp only [z_nat, z_lit, ← Int32.ofInt_add, ← Int32.ofInt_sub, ← Int32.ofInt_mul]; exact congrArg Int32.ofInt (by omega)) | (simp only [z_nat, z_lit, ← Int32.ofInt_add, ← Int32.ofInt_sub, ← Int32.ofInt_mul]; done) | exact congrArg Int32.ofInt (by omega) | rfl)) (by (first | assumption | (simp only [z_nat, z_lit, ← Int32.ofInt_add, ← Int32.ofInt_sub, ← Int32.ofInt_mul]; exact congrArg Int32.ofInt (by omega)) | (simp only [z_nat, z_lit, ← Int32.ofInt_add, ← Int32.ofInt_sub, ← Int32.ofInt_mul]; done) | exact congrArg Int32.ofInt (by omega) | rfl))
set_option maxRecDepth 100000 in
set_option maxHeartbeats 4000000 in
theorem k_backLoop {mm : sN} (g : g_R M t n) (hN : b_N t mm) (k : Nat) (hk : k < 2) (hm0 : ∀ j, j < 634 → M.1 287 (634 * k + j) = Int32.ofInt (mm j)) (hQ : ∀ M', q_fs [284] [(271, 28)] M M' → M'.1 271 28 = nI 0 → g_R M' t mm → Q (some (.int (nI (gvA t mm)))) M') : q_G q_mt (L, xs, q_shp) E nX12_back (d + 4) 0 0 (q_Q (L, xs, q_shp) E Q) 26 [some (.ref 271), some (.int (nI k)), some (.int (Int32.ofInt 0))] [] M := by
  have W := lp_m (W := fun i M' => ∀ v, v = nI i → q_G q_mt (L, xs, q_shp) E nX12_back (d + 4) 0 0 (q_Q (L, xs, q_shp) E Q) 26 [some (.ref 271), some (.int (nI k)), some (.int (v))] [] M') (J := fun i M' => q_fs [284] [] M M' ∧ ∀ j, j < i → M'.1 284 j = Int32.ofInt (mm j)) 634 ?_ ?_ 0 M (Nat.zero_le _) ⟨q_fs.rf, fun j hj => absurd hj (Nat.not_lt_zero _)⟩
  · exact W _ rfl
  · rintro M' ⟨hf, hm⟩ v rfl
    have g' : g_R (q_si M' 271 28 (nI 0)) t mm := by
      obtain ⟨a, b, -, -⟩ := g
      refine ⟨?_, b, fun j hj => by rw [Nat.zero_add]; exact hm j hj, hN⟩
      unfold r_R at a ⊢
      rw [show (q_si M' 271 28 (nI 0)).1 280 = M'.1 280 from (q_fs.si (l := [271]) (f := []) rfl).c1 280, hf.c1 280]
      exact a
    refine w_at 90 [26] ?_
    refine z_le 634 (634 : Nat) (fun _ => ?_) (fun h => by omega)
    refine ⟨nI 0, rfl, ?_⟩
    exact k_givenMany g' ⟨_, rfl, hQ _ hf.mono.s1 q_si_s g'⟩
  · rintro i M' hi ⟨hf, hm⟩ ih v rfl
    have e : M'.1 287 (634 * k + i) = Int32.ofInt (mm i) := by
      rw [hf.c1 287]
      exact hm0 i hi
    refine w_at 90 [26] ?_
    refine z_le 634 (i : Int) (fun h => by omega) (fun _ => ?_)
    refine ⟨634 * k + i, _, by (first | assumption | (simp only [z_nat, z_lit, ← Int32.ofInt_add, ← Int32.ofInt_sub, ← Int32.ofInt_mul]; exact congrArg Int32.ofInt (by omega)) | (simp only [z_nat, z_lit, ← Int32.ofInt_add, ← Int32.ofInt_sub, ← Int32.ofInt_mul]; done) | exact congrArg Int32.ofInt (by omega) | rfl), by (dsimp only; omega), e, ?_⟩
    refine ⟨i, _, by (first | assumption | (simp only [z_nat, z_lit, ← Int32.ofInt_add, ← Int32.ofInt_sub, ← Int32.ofInt_mul]; exact congrArg Int32.ofInt (by omega)) | (simp only [z_nat, z_lit, ← Int32.ofInt_add, ← Int32.ofInt_sub, ← Int32.ofInt_mul]; done) | exact congrArg Int32.ofInt (by omega) | rfl), by (dsimp only; omega), rfl, ?_⟩
    refine ih _ ⟨hf.s1, fun j hj => ?_⟩ _ (by (first | assumption | (simp only [z_nat, z_lit, ← Int32.ofInt_add, ← Int32.ofInt_sub, ← Int32.ofInt_mul]; exact congrArg Int32.ofInt (by omega)) | (simp only [z_nat, z_lit, ← Int32.ofInt_add, ← Int32.ofInt_sub, ← Int32.ofInt_mul]; done) | exact congrArg Int32.ofInt (by omega) | rfl))
    by_cases q : j = i
    · rw [q, q_si_s]
    · rw [q_si_n q]
      exact hm j (by omega)
set_option maxRecDepth 100000 in
set_option maxHeartbeats 4000000 in
theorem o_back_0 {kp : Nat → Option sN} {mm : sN} (g : g_A 43 M t n) (hk : g_Kp M t kp) (hm : kp 0 = some mm) (hN : b_N t mm) (hP : ∀ M', q_fs [43, 44, 45, 46, 47, 48, 49, 50, 284] [(68, 1), (68, 2), (271, 28)] M M' → M'.1 68 1 = nI 0 → M'.1 68 2 = nI 0 → M'.1 271 28 = nI 0 → g_A 43 M' t mm → P M') : zOp L xs E nX11_back nX12_back (d + 6) [.int (nI 0)] M P := by
  obtain ⟨a1, a2, a3, a4⟩ := (hk 0 (by omega)).2 mm hm
  have hx := b_at (x := M.1 2 13) (j := 0) (by omega)
  rw [a1] at hx
  refine w_in 90 [] ?_
  refine z_lt (0 : Nat) 0 (fun z => by omega) (fun _ => ?_)
  refine z_lt (0 : Nat) 2 (fun _ => ?_) (fun z => by omega)
  refine ⟨_, rfl, ?_⟩
  refine z_ne 1 0 (fun _ => ?_) (fun z => by omega) (hx := hx)
  refine ⟨⟨by decide, by decide⟩, ?_⟩
  refine k2_copy_52_43 (fun M1 hf1 he1 => ?_)
  have fo : q_C q_mt (L, xs, q_shp) E nX0_forget (d + 5) 0 0 [.ref 68] M1 (fun v M' => v = none ∧ M' = q_si (q_si M1 68 1 (nI 0)) 68 2 (nI 0)) := by
    refine w_in 90 [] ?_
    refine ⟨nI 0, rfl, ?_⟩
    refine ⟨nI 0, rfl, ?_⟩
    exact ⟨rfl, rfl⟩
  refine q_C.mono fo (fun v M' h => ?_)
  obtain ⟨rfl, rfl⟩ := h
  have hf2 : q_fs [43, 44, 45, 46, 47, 48, 49, 50, 284] [(68, 1), (68, 2), (271, 28)] M (q_si (q_si M1 68 1 (nI 0)) 68 2 (nI 0)) := hf1.mono.s1.s1
  have g2 : g_R (q_si (q_si M1 68 1 (nI 0)) 68 2 (nI 0)) t n := g.R.eq (by rw [(q_fs.rf.s1.s1 : q_fs [68] [] M1 (q_si (q_si M1 68 1 (nI 0)) 68 2 (nI 0))).c1 280, hf1.c1 280]) (by rw [(q_fs.rf.s1.s1 : q_fs [68] [] M1 (q_si (q_si M1 68 1 (nI 0)) 68 2 (nI 0))).c1 284, hf1.c1 284])
  have s2 : g_S 43 (q_si (q_si M1 68 1 (nI 0)) 68 2 (nI 0)) t mm := (a3.cp he1).f68 (Or.inl (by omega))
  refine k2_countAll g.R.e6 s2 ⟨_, rfl, _, rfl, ?_⟩
  have e88 : (q_si (q_si M1 68 1 (nI 0)) 68 2 (nI 0)).1 288 0 = Int32.ofInt 1 := by
    show M1.1 288 0 = _
    rw [hf1.c1 288]
    exact a2
  refine w_in 90 [26] ?_
  refine k_isIn (0 : Nat) 0 1 (by omega) (by omega) (by omega) (fun _ _ => bn_t (by decide) ?_) (fun z => absurd ⟨by omega, by omega⟩ z)
  refine ⟨⟨by decide, by decide⟩, ?_⟩
  refine z_ne 1 0 (fun _ => ?_) (fun z => by omega) (hx := e88)
  refine k_backLoop g2 hN 0 (by omega) (fun j hj => ?_) (fun M3 hf3 h28 g3 => ⟨rfl, hP M3 (hf2.tr hf3.mono) ?_ ?_ h28 ⟨g3, ?_, ?_⟩⟩)
  · show M1.1 287 _ = _
    rw [hf1.c1 287]
    exact a4 j hj
  · rw [hf3.c1 68]
    exact (q_si_n (by decide)).trans q_si_s
  · rw [hf3.c1 68]
    exact q_si_s
  · have fz : q_fs [43, 44, 45, 46, 47, 48, 49, 50, 284] [(68, 1), (68, 2), (271, 28)] M M3 := hf2.tr hf3.mono
    refine g.C.eq (fun i hi => fz.c1 (6 + i) (fun l => ?_))
    unfold q_scr
    have b1 : q_has1 (6 + i) [43, 44, 45, 46, 47, 48, 49, 50, 284] = false := Bool.eq_false_iff.mpr (fun z => by
      have z := q_has1_in.mp z
      simp only [List.mem_cons, List.not_mem_nil, or_false] at z
      omega)
    have b2 : q_has2 (6 + i) l [(68, 1), (68, 2), (271, 28)] = false := Bool.eq_false_iff.mpr (fun z => by
      have z := q_has2_in.mp z
      simp only [List.mem_cons, List.not_mem_nil, or_false, Prod.mk.injEq] at z
      omega)
    rw [b1, b2]
    rfl
  · exact s2.eq (hf3.c1 43) (hf3.c1 44) (hf3.c1 45) (hf3.c1 46) (hf3.c1 47) (hf3.c1 48) (hf3.c1 49) (hf3.c1 50)
set_option maxRecDepth 100000 in
set_option maxHeartbeats 4000000 in
theorem o_back_1 {kp : Nat → Option sN} {mm : sN} (g : g_A 43 M t n) (hk : g_Kp M t kp) (hm : kp 1 = some mm) (hN : b_N t mm) (hP : ∀ M', q_fs [43, 44, 45, 46, 47, 48, 49, 50, 284] [(68, 1), (68, 2), (271, 28)] M M' → M'.1 68 1 = nI 0 → M'.1 68 2 = nI 0 → M'.1 271 28 = nI 0 → g_A 43 M' t mm → P M') : zOp L xs E nX11_back nX12_back (d + 6) [.int (nI 1)] M P := by
  obtain ⟨a1, a2, a3, a4⟩ := (hk 1 (by omega)).2 mm hm
  have hx := b_at (x := M.1 2 13) (j := 1) (by omega)
  rw [a1] at hx
  refine w_in 90 [] ?_
  refine z_lt (1 : Nat) 0 (fun z => by omega) (fun _ => ?_)
  refine z_lt (1 : Nat) 2 (fun _ => ?_) (fun z => by omega)
  refine ⟨_, rfl, ?_⟩
  refine z_ne 1 0 (fun _ => ?_) (fun z => by omega) (hx := hx)
  refine ⟨⟨by decide, by decide⟩, ?_⟩
  refine k2_copy_60_43 (fun M1 hf1 he1 => ?_)
  have fo : q_C q_mt (L, xs, q_shp) E nX0_forget (d + 5) 0 0 [.ref 68] M1 (fun v M' => v = none ∧ M' = q_si (q_si M1 68 1 (nI 0)) 68 2 (nI 0)) := by
    refine w_in 90 [] ?_
    refine ⟨nI 0, rfl, ?_⟩
    refine ⟨nI 0, rfl, ?_⟩
    exact ⟨rfl, rfl⟩
  refine q_C.mono fo (fun v M' h => ?_)
  obtain ⟨rfl, rfl⟩ := h
  have hf2 : q_fs [43, 44, 45, 46, 47, 48, 49, 50, 284] [(68, 1), (68, 2), (271, 28)] M (q_si (q_si M1 68 1 (nI 0)) 68 2 (nI 0)) := hf1.mono.s1.s1
  have g2 : g_R (q_si (q_si M1 68 1 (nI 0)) 68 2 (nI 0)) t n := g.R.eq (by rw [(q_fs.rf.s1.s1 : q_fs [68] [] M1 (q_si (q_si M1 68 1 (nI 0)) 68 2 (nI 0))).c1 280, hf1.c1 280]) (by rw [(q_fs.rf.s1.s1 : q_fs [68] [] M1 (q_si (q_si M1 68 1 (nI 0)) 68 2 (nI 0))).c1 284, hf1.c1 284])
  have s2 : g_S 43 (q_si (q_si M1 68 1 (nI 0)) 68 2 (nI 0)) t mm := (a3.cp he1).f68 (Or.inl (by omega))
  refine k2_countAll g.R.e6 s2 ⟨_, rfl, _, rfl, ?_⟩
  have e88 : (q_si (q_si M1 68 1 (nI 0)) 68 2 (nI 0)).1 288 1 = Int32.ofInt 1 := by
    show M1.1 288 1 = _
    rw [hf1.c1 288]
    exact a2
  refine w_in 90 [26] ?_
  refine k_isIn (1 : Nat) 0 1 (by omega) (by omega) (by omega) (fun _ _ => bn_t (by decide) ?_) (fun z => absurd ⟨by omega, by omega⟩ z)
  refine ⟨⟨by decide, by decide⟩, ?_⟩
  refine z_ne 1 0 (fun _ => ?_) (fun z => by omega) (hx := e88)
  refine k_backLoop g2 hN 1 (by omega) (fun j hj => ?_) (fun M3 hf3 h28 g3 => ⟨rfl, hP M3 (hf2.tr hf3.mono) ?_ ?_ h28 ⟨g3, ?_, ?_⟩⟩)
  · show M1.1 287 _ = _
    rw [hf1.c1 287]
    exact a4 j hj
  · rw [hf3.c1 68]
    exact (q_si_n (by decide)).trans q_si_s
  · rw [hf3.c1 68]
    exact q_si_s
  · have fz : q_fs [43, 44, 45, 46, 47, 48, 49, 50, 284] [(68, 1), (68, 2), (271, 28)] M M3 := hf2.tr hf3.mono
    refine g.C.eq (fun i hi => fz.c1 (6 + i) (fun l => ?_))
    unfold q_scr
    have b1 : q_has1 (6 + i) [43, 44, 45, 46, 47, 48, 49, 50, 284] = false := Bool.eq_false_iff.mpr (fun z => by
      have z := q_has1_in.mp z
      simp only [List.mem_cons, List.not_mem_nil, or_false] at z
      omega)
    have b2 : q_has2 (6 + i) l [(68, 1), (68, 2), (271, 28)] = false := Bool.eq_false_iff.mpr (fun z => by
      have z := q_has2_in.mp z
      simp only [List.mem_cons, List.not_mem_nil, or_false, Prod.mk.injEq] at z
      omega)
    rw [b1, b2]
    rfl
  · exact s2.eq (hf3.c1 43) (hf3.c1 44) (hf3.c1 45) (hf3.c1 46) (hf3.c1 47) (hf3.c1 48) (hf3.c1 49) (hf3.c1 50)
end BK
