/-! orders: the reference's side -/
section OS
variable {L : Nat} {xs : Nat → Int32} {E : q_E} {d : Nat} {M : q_M} {t : q_T} {n : sN} {Q : Option Value → q_M → Prop} {P : q_M → Prop}
theorem al_dst {e p : Nat} (hd : dst (roE n e) (t 0 0) (t 5 0)) (hp : p < t 0 0) (hx : fxB t n e p = true) : ∀ i, i < t 0 0 → ¬ i = p → alO t n e i (roE n e p) = false := fun i hi hne => by
  unfold alO
  by_cases q : fxB t n e i = true
  · rw [if_pos q]
    exact decide_eq_false (fun z => hd.2 p i hp hi (fun w => hne w.symm) z)
  · rw [if_neg q]
    refine Bool.eq_false_iff.mpr (fun z => ?_)
    obtain ⟨y, hy, h1, h2⟩ := poL_t.mp z
    by_cases w : y = p
    · rw [w, hx] at h1
      cases h1
    · exact hd.2 y p hy hp w h2
set_option maxRecDepth 100000 in
set_option maxHeartbeats 4000000 in
theorem k_order76 (g : g_R M t n) (hJ : b_J t n) (wl : g_W M t) (bl : b_L t) {e un k : Nat} {l3 : Int32} (he : e < t 8 0) (hun : un ≤ 6) (hk0 : k ≤ t 0 0) (h33 : M.1 271 33 = Int32.ofInt 0) (hQ : ∀ M' v, q_fs [289, 290, 291, 292] [(271, 33)] M M' → isTB t e (alO t n e) (wtO n e un) k v → Q (some (.int (Int32.ofInt v))) M') : ∀ x7, q_G q_mt (L, xs, q_shp) E nX12_order (d + 12) 0 0 (q_Q (L, xs, q_shp) E Q) 76 [some (.ref 271), some (.int (nI e)), some (.int (nI k)), some (.int (l3)), some (.int (nI un)), some (.int (Int32.ofInt 0)), some (.int (Int32.ofInt 1)), x7] [] M := by
  have h6 := g.e6
  have h7 := g.r6
  have h10 := g.d10
  have hd := ro_d g.A he
  have r10 : ∀ p, p < t 0 0 → roE n e p < 10 := fun p hp => by have := hd.1 p hp; omega
  have pb : ∀ k, k ≤ t 0 0 → poL (fxB t n e) (roE n e) k < 1024 := fun k hk => poL_b (fun p hp => r10 p (by omega))
  have vb : ∀ k, k ≤ t 0 0 → poL (fun p => !wtO n e un p) (fun p => p) k < 1024 := fun k hk => poL_b (fun p hp => by omega)
  have ero : ∀ p, p < t 0 0 → n (6 * e + p) = (roE n e p : Int) := fun p hp => by
    have bsl := (g.bs he hp).1
    show _ = (((n (6 * e + p)).toNat : Nat) : Int)
    omega
  have W := lp_m (W := fun i M' => ∀ u v x7, u = nI (poL (fun p => !wtO n e un p) (fun p => p) i) → v = nI (i + 1) → q_G q_mt (L, xs, q_shp) E nX12_order (d + 12) 0 0 (q_Q (L, xs, q_shp) E Q) 76 [some (.ref 271), some (.int (nI e)), some (.int (nI k)), some (.int (l3)), some (.int (nI un)), some (.int (u)), some (.int (v)), x7] [] M') (J := fun i M' => q_fs [291] [(271, 33)] M M' ∧ M'.1 271 33 = nI (poL (fxB t n e) (roE n e) i) ∧ ∀ p, p < i → M'.1 291 p = Int32.ofInt (if fxB t n e p = true then n (6 * e + p) else -1)) (t 0 0) ?_ ?_ 0 M (Nat.zero_le _) ⟨q_fs.rf, h33, fun p hp => by omega⟩
  · intro x7
    exact W _ _ _ rfl rfl
  · rintro M' ⟨hf, hpl, hm⟩ u v x7 rfl rfl
    have g' := g.fs hf
    have hs : g_st M' t (alO t n e) := fun p hp => by
      by_cases q : fxB t n e p = true
      · refine Or.inr ⟨roE n e p, hd.1 p hp, ?_, fun x => if_pos q, al_dst hd hp q⟩
        rw [hm p hp, if_pos q, ero p hp]
        rfl
      · refine Or.inl ⟨by rw [hm p hp, if_neg q], fun x hx => ?_⟩
        rw [hpl, bt_nat (by omega)]
        exact (if_neg q).symm
    refine w_at 90 [76, 121, 173] ?_
    refine ⟨0, _, by (first | assumption | (simp only [z_nat, z_lit, ← Int32.ofInt_add, ← Int32.ofInt_sub, ← Int32.ofInt_mul]; exact congrArg Int32.ofInt (by omega)) | (simp only [z_nat, z_lit, ← Int32.ofInt_add, ← Int32.ofInt_sub, ← Int32.ofInt_mul]; done) | exact congrArg Int32.ofInt (by omega) | rfl), by (dsimp only; omega), g'.R0, ?_⟩
    refine z_lt (t 0 0) ((t 0 0 + 1 : Nat) : Int) (fun _ => ?_) (fun z => by omega)
    have mb : -1 ≤ mx (vl (cstE t e (wtO n e un)) 0) (AL t (t 9 e) (alO t n e)) ∧ mx (vl (cstE t e (wtO n e un)) 0) (AL t (t 9 e) (alO t n e)) ≤ 108000 := mx_108 (wt := wtO n e un) (alw := alO t n e) (pr := t 9 e) (e := e) g.A (k := t 0 0) (p := 0) (S := 0) h7
    refine k_bestPoints (wt := wtO n e un) g' (wl.fs hf) bl hs e he (fun p hp => ?_) (fun M4 hf4 hbr => ?_)
    · rw [bt_nat (by omega)]
      cases hw : wtO n e un p with
      | true => exact poL_t.mpr ⟨p, hp, by show (!wtO n e un p) = false; rw [hw]; rfl, rfl⟩
      | false =>
        refine Bool.eq_false_iff.mpr (fun z => ?_)
        obtain ⟨y, hy, h1, h2⟩ := poL_t.mp z
        have h2 : y = p := h2
        have h1 : (!wtO n e un y) = false := h1
        rw [h2, hw] at h1
        cases h1
    · have f4 : q_fs [289, 290, 291, 292] [(271, 33)] M M4 := hf.mono.tr hf4.mono
      have ex : ∀ v, isTB t e (alO t n e) (wtO n e un) k v → Q (some (.int (Int32.ofInt v))) M4 := fun v hv => hQ M4 v f4 hv
      refine z_eq (k : Int) 0 (fun z => ⟨_, rfl, ?_⟩) (fun z => ?_)
      · exact ex _ (Or.inl ⟨Or.inl (by omega), rfl⟩)
      · refine z_ne (mx (vl (cstE t e (wtO n e un)) 0) (AL t (t 9 e) (alO t n e))) (-1) (fun hne => ?_) (fun hz => ⟨_, rfl, ex _ (Or.inl ⟨Or.inr hz, rfl⟩)⟩)
        rcases hbr with w | ⟨br, h1, h2⟩
        · exact absurd w hne
        · refine ⟨k - 1, _, by (first | assumption | (simp only [z_nat, z_lit, ← Int32.ofInt_add, ← Int32.ofInt_sub, ← Int32.ofInt_mul]; exact congrArg Int32.ofInt (by omega)) | (simp only [z_nat, z_lit, ← Int32.ofInt_add, ← Int32.ofInt_sub, ← Int32.ofInt_mul]; done) | exact congrArg Int32.ofInt (by omega) | rfl), by (dsimp only; omega), h2 (k - 1) (by omega), ?_⟩
          refine ⟨_, rfl, ex (br (k - 1) : Int) (Or.inr ⟨⟨by omega, hne⟩, br (k - 1), ?_, rfl⟩)⟩
          rw [h1, lrow_get (by omega), Nat.zero_add]
  · rintro i M' hi ⟨hf, hpl, hm⟩ ih u v x7 rfl rfl
    have g' := g.fs hf
    have t173 : ∀ M2 x7, q_fs [291] [(271, 33)] M M2 → M2.1 271 33 = nI (poL (fxB t n e) (roE n e) (i + 1)) → (∀ p, p < i + 1 → M2.1 291 p = Int32.ofInt (if fxB t n e p = true then n (6 * e + p) else -1)) → q_G q_mt (L, xs, q_shp) E nX12_order (d + 12) 0 0 (q_Q (L, xs, q_shp) E Q) 173 [some (.ref 271), some (.int (nI e)), some (.int (nI k)), some (.int (l3)), some (.int (nI un)), some (.int (nI (poL (fun p => !wtO n e un p) (fun p => p) i))), some (.int (nI (i + 1))), x7] [] M2 := by
      intro M2 x7 hf2 hpl2 hm2
      have g2 := g.fs hf2
      have nw : ¬ (n (576 + (6 * e + i)) = 0 ∧ i + 1 ≤ un) → ∀ u', u' = nI (poL (fun p => !wtO n e un p) (fun p => p) i) ||| Int32.ofInt 0 → u' = nI (poL (fun p => !wtO n e un p) (fun p => p) (i + 1)) := fun z u' hu => by
        rw [hu, show nI (poL (fun p => !wtO n e un p) (fun p => p) i) ||| Int32.ofInt 0 = nI (poL (fun p => !wtO n e un p) (fun p => p) i) from Int32.or_zero]
        show _ = nI (if (!wtO n e un i) = true then _ else _)
        rw [if_pos (by rw [Bool.eq_false_iff.mpr (fun y => z (wtO_t.mp y))]; rfl)]
      refine w_at 90 [76, 121, 173] ?_
      refine k_isGiven g2 e i he hi (fun hg => bn_t (by decide) ?_) (fun hg => bn_f (by decide) ?_)
      · exact ih M2 ⟨hf2, hpl2, hm2⟩ _ _ _ (nw (fun y => by have := y.1; omega) _ rfl) (by (first | assumption | (simp only [z_nat, z_lit, ← Int32.ofInt_add, ← Int32.ofInt_sub, ← Int32.ofInt_mul]; exact congrArg Int32.ofInt (by omega)) | (simp only [z_nat, z_lit, ← Int32.ofInt_add, ← Int32.ofInt_sub, ← Int32.ofInt_mul]; done) | exact congrArg Int32.ofInt (by omega) | rfl))
      · refine z_le ((i + 1 : Nat) : Int) un (fun z => ?_) (fun z => ?_)
        · refine ih M2 ⟨hf2, hpl2, hm2⟩ _ _ _ ?_ (by (first | assumption | (simp only [z_nat, z_lit, ← Int32.ofInt_add, ← Int32.ofInt_sub, ← Int32.ofInt_mul]; exact congrArg Int32.ofInt (by omega)) | (simp only [z_nat, z_lit, ← Int32.ofInt_add, ← Int32.ofInt_sub, ← Int32.ofInt_mul]; done) | exact congrArg Int32.ofInt (by omega) | rfl))
          show _ = nI (if (!wtO n e un i) = true then _ else _)
          rw [if_neg (by rw [wtO_t.mpr ⟨hg, by omega⟩]; decide)]
          show nI (poL (fun p => !wtO n e un p) (fun p => p) i) ||| ((1 : Int32) <<< ((nI (i + 1) - Int32.ofInt 1) &&& 31)) = _
          rw [show nI (i + 1) - Int32.ofInt 1 = nI i by (first | assumption | (simp only [z_nat, z_lit, ← Int32.ofInt_add, ← Int32.ofInt_sub, ← Int32.ofInt_mul]; exact congrArg Int32.ofInt (by omega)) | (simp only [z_nat, z_lit, ← Int32.ofInt_add, ← Int32.ofInt_sub, ← Int32.ofInt_mul]; done) | exact congrArg Int32.ofInt (by omega) | rfl)]
          exact or_nI (vb i (by omega)) (by omega)
        · exact ih M2 ⟨hf2, hpl2, hm2⟩ _ _ _ (nw (fun y => by have := y.2; omega) _ rfl) (by (first | assumption | (simp only [z_nat, z_lit, ← Int32.ofInt_add, ← Int32.ofInt_sub, ← Int32.ofInt_mul]; exact congrArg Int32.ofInt (by omega)) | (simp only [z_nat, z_lit, ← Int32.ofInt_add, ← Int32.ofInt_sub, ← Int32.ofInt_mul]; done) | exact congrArg Int32.ofInt (by omega) | rfl))
    have js : ∀ (y w : Int32), w = Int32.ofInt (if fxB t n e i = true then n (6 * e + i) else -1) → ∀ p, p < i + 1 → (q_si (q_si M' 291 i w) 271 33 y).1 291 p = Int32.ofInt (if fxB t n e p = true then n (6 * e + p) else -1) := by
      rintro y w rfl p hp
      rw [q_si_nn (by omega)]
      by_cases z : p = i
      · rw [z, q_si_s]
      · rw [q_si_n z]
        exact hm p (by omega)
    have t1 : fxB t n e i = true → ∀ x : Int32, x = Int32.ofInt 1 → q_G q_mt (L, xs, q_shp) E nX12_order (d + 12) 0 0 (q_Q (L, xs, q_shp) E Q) 121 [some (.ref 271), some (.int (nI e)), some (.int (nI k)), some (.int (l3)), some (.int (nI un)), some (.int (nI (poL (fun p => !wtO n e un p) (fun p => p) i))), some (.int (nI (i + 1))), some (.int (x))] [] M' := by
      rintro q x rfl
      refine w_at 90 [76, 121, 173] ?_
      refine z_eq 1 0 (fun z => by omega) (fun _ => ?_)
      refine k_diveOf g' e i he hi ?_
      refine ⟨i, _, by (first | assumption | (simp only [z_nat, z_lit, ← Int32.ofInt_add, ← Int32.ofInt_sub, ← Int32.ofInt_mul]; exact congrArg Int32.ofInt (by omega)) | (simp only [z_nat, z_lit, ← Int32.ofInt_add, ← Int32.ofInt_sub, ← Int32.ofInt_mul]; done) | exact congrArg Int32.ofInt (by omega) | rfl), by (dsimp only; omega), rfl, ?_⟩
      refine ⟨_, hpl, ?_⟩
      refine z_eq 1 0 (fun z => by omega) (fun _ => ?_)
      refine ⟨_, rfl, ?_⟩
      refine t173 _ _ hf.s1.s1 ?_ (js _ _ (by rw [if_pos q]))
      rw [q_si_s]
      show _ = nI (if fxB t n e i = true then _ else _)
      rw [if_pos q]
      exact Int32.or_zero
    have t0 : fxB t n e i = false → ∀ x : Int32, x = Int32.ofInt 0 → q_G q_mt (L, xs, q_shp) E nX12_order (d + 12) 0 0 (q_Q (L, xs, q_shp) E Q) 121 [some (.ref 271), some (.int (nI e)), some (.int (nI k)), some (.int (l3)), some (.int (nI un)), some (.int (nI (poL (fun p => !wtO n e un p) (fun p => p) i))), some (.int (nI (i + 1))), some (.int (x))] [] M' := by
      rintro q x rfl
      have q' : ¬ fxB t n e i = true := by rw [q]; decide
      refine w_at 90 [76, 121, 173] ?_
      refine z_eq 0 0 (fun _ => ?_) (fun z => absurd rfl z)
      refine ⟨i, _, by (first | assumption | (simp only [z_nat, z_lit, ← Int32.ofInt_add, ← Int32.ofInt_sub, ← Int32.ofInt_mul]; exact congrArg Int32.ofInt (by omega)) | (simp only [z_nat, z_lit, ← Int32.ofInt_add, ← Int32.ofInt_sub, ← Int32.ofInt_mul]; done) | exact congrArg Int32.ofInt (by omega) | rfl), by (dsimp only; omega), rfl, ?_⟩
      refine ⟨_, hpl, ?_⟩
      refine z_eq 0 0 (fun _ => ?_) (fun z => absurd rfl z)
      have gs : ∀ w, g_R (q_si M' 291 i w) t n := fun w => g.fs (show q_fs [291] [(271, 33)] M (q_si M' 291 i w) from hf.s1)
      refine k_diveOf (gs _) e i he hi ?_
      refine ⟨_, rfl, ?_⟩
      refine t173 _ _ hf.s1.s1 ?_ (js _ _ (by rw [if_neg q']))
      rw [q_si_s]
      show _ = nI (if fxB t n e i = true then _ else _)
      rw [if_neg q', ero i hi]
      exact or_nI (pb i (by omega)) (r10 i hi)
    refine w_at 90 [76, 121, 173] ?_
    refine ⟨0, _, by (first | assumption | (simp only [z_nat, z_lit, ← Int32.ofInt_add, ← Int32.ofInt_sub, ← Int32.ofInt_mul]; exact congrArg Int32.ofInt (by omega)) | (simp only [z_nat, z_lit, ← Int32.ofInt_add, ← Int32.ofInt_sub, ← Int32.ofInt_mul]; done) | exact congrArg Int32.ofInt (by omega) | rfl), by (dsimp only; omega), g'.R0, ?_⟩
    refine z_lt (t 0 0) ((i + 1 : Nat) : Int) (fun z => by omega) (fun _ => ?_)
    refine k_isGiven g' e i he hi (fun hg => bn_t (by decide) ?_) (fun hg => bn_f (by decide) ?_)
    · exact t1 (fxB_t.mpr (Or.inl hg)) _ rfl
    · have no : ¬ (isB t n ∧ bE n = e ∧ bR n = i) → fxB t n e i = false := fxB_f (by omega)
      by_cases q : isB t n
      · have hB := hJ.B h6 q
        have hbe := hB.2.1
        have h31 := hB.2.2.2.1
        have hbr := hB.2.2.1
        refine k_board g' hJ q ?_
        refine z_ne (bE n : Int) (e : Int) (fun z => t0 (no (fun y => z (by rw [y.2.1]))) _ rfl) (fun z => ?_)
        refine k_roundNow g' ?_
        rw [h31]
        exact z_ne ((bR n : Int) + 1) ((i + 1 : Nat) : Int) (fun y => t0 (no (fun w => y (by rw [w.2.2]; omega))) _ rfl) (fun y => t1 (fxB_t.mpr (Or.inr ⟨q, by omega, by omega⟩)) _ rfl)
      · refine k_noBoard g' hJ q ?_
        exact z_ne (-1) (e : Int) (fun _ => t0 (no (fun y => q y.1)) _ rfl) (fun z => by omega)
set_option maxRecDepth 100000 in
set_option maxHeartbeats 4000000 in
theorem o_order {a b : Int32} (g : g_A 43 M t n) (hJ : b_J t n) (wl : g_W M t) (bl : b_L t) (hmo : g_Mo M t) (hP : ∀ M', q_fs lBo fK M M' → g_Mo M' t → P M') : zOp L xs E nX11_order nX12_order (d + 12) [.int a, .int b] M P := by
  have h10 := g.R.d10
  have h6 := g.R.r6
  have h3 := g.R.c3
  have hD := hJ.D g.R.e6
  obtain ⟨k0, hk0, rfl⟩ := z_of b
  by_cases q : (∃ e, e < t 8 0 ∧ a = nI e ∧ inE n e = true) ∧ 0 ≤ k0 ∧ k0 ≤ t 0 0
  · obtain ⟨⟨e, he, rfl, hin⟩, hk1, hk2⟩ := q
    obtain ⟨k, rfl⟩ : ∃ k : Nat, k0 = k := ⟨k0.toNat, by omega⟩
    -- both sides from the last round that counts on
    have ref : ∀ (un : Nat) (M2 : q_M) (v : Int) (l3 : Int32), un ≤ 6 → g_R M2 t n → g_W M2 t → g_Mo M2 t → q_fs lBo fK M M2 → isTB t e (alO t n e) (wtO n e un) k v → ∀ x7, q_G q_mt (L, xs, q_shp) E nX12_order (d + 12) 0 0 (q_Q (L, xs, q_shp) E (fun v' M'' => v' = some (.int (Int32.ofInt v)) ∧ P M'')) 76 [some (.ref 271), some (.int (nI e)), some (.int (nI k)), some (.int l3), some (.int (nI un)), some (.int (Int32.ofInt 0)), some (.int (Int32.ofInt 1)), x7] [] (q_si M2 271 33 (Int32.ofInt 0)) := by
      intro un M2 v l3 hun g2 w2 o2 hf2 hv x7
      have hf3 : q_fs [] [(271, 33)] M2 (q_si M2 271 33 (Int32.ofInt 0)) := q_fs.rf.s1
      refine k_order76 (g2.fs hf3) hJ (w2.fs hf3) bl he hun (by omega) q_si_s (fun M4 v' hf4 hv' => ⟨by rw [hv.un hv'], ?_⟩) x7
      exact hP M4 ((hf2.tr hf3.mono).tr hf4.mono) ((o2.fs h10 hf3).fs h10 hf4)
    by_cases qc : ∃ c, isNx t n c
    · obtain ⟨c, hx⟩ := qc
      have hc := hx.2.1
      have b14 := g.R.b2.2.1 c hc
      refine w_in 90 [] ?_
      refine d_hasEntrant g.C g.R.b (fun _ _ _ => br_f (by decide) ?_) (fun z => absurd ⟨e, he, rfl⟩ z)
      refine k2_isIn_43 g.Z e he (fun _ => br_f (by decide) ?_) (fun z => absurd (hin.symm.trans z) (by decide))
      refine z_lt (k : Int) 0 (fun z => by omega) (fun _ => ?_)
      refine ⟨_, g.ro, ?_⟩
      refine z_le (k : Int) (t 0 0) (fun _ => ?_) (fun z => by omega)
      refine k2_findNextCut g hD (fun c' hc' => ?_) (fun z => absurd hx (z c))
      rw [hc'.un hx]
      refine z_ne (c : Int) (-1) (fun _ => ?_) (fun z => by omega)
      refine ⟨c, _, by (first | assumption | (simp only [z_nat, z_lit, ← Int32.ofInt_add, ← Int32.ofInt_sub, ← Int32.ofInt_mul]; exact congrArg Int32.ofInt (by omega)) | (simp only [z_nat, z_lit, ← Int32.ofInt_add, ← Int32.ofInt_sub, ← Int32.ofInt_mul]; done) | exact congrArg Int32.ofInt (by omega) | rfl), by (dsimp only; omega), (g.cu hc).1, ?_⟩
      refine k2_allowOrders g.Z hJ e (t 14 c) he (by omega) (fun M1 hf1 hal1 => ?_)
      have g1 : g_A 43 M1 t n := g.f3 hf1
      have w1 := wl.fs hf1
      refine k2_tellBest g1.Z w1 bl (hmo.fs h10 hf1) hal1 e k he (by omega) (fun M2 v hf2 ho2 hv => ⟨_, rfl, _, rfl, ?_⟩)
      have g2 : g_A 43 M2 t n := g1.f3 hf2
      refine w_in 90 [76] ?_
      refine c_X12_isEntrant g2.R.1 g2.R.b (fun _ _ _ => br_f (by decide) ?_) (fun z => absurd ⟨e, he, rfl⟩ z)
      refine k_isInStill g2.R e he (fun _ => br_f (by decide) ?_) (fun z => absurd (hin.symm.trans z) (by decide))
      refine ⟨0, _, by (first | assumption | (simp only [z_nat, z_lit, ← Int32.ofInt_add, ← Int32.ofInt_sub, ← Int32.ofInt_mul]; exact congrArg Int32.ofInt (by omega)) | (simp only [z_nat, z_lit, ← Int32.ofInt_add, ← Int32.ofInt_sub, ← Int32.ofInt_mul]; done) | exact congrArg Int32.ofInt (by omega) | rfl), by (dsimp only; omega), g2.R.R0, ?_⟩
      refine k_isIn (k : Int) 0 (t 0 0) (by omega) (by omega) (by omega) (fun _ _ => bn_t (by decide) ?_) (fun z => absurd ⟨by omega, by omega⟩ z)
      refine k_nextCut g2.R hD (fun c' hc' => ?_) (fun z => absurd hx (z c))
      rw [hc'.un hx]
      refine z_ne (c : Int) (-1) (fun _ => ?_) (fun z => by omega)
      refine ⟨134 + 3 * c, _, by (first | assumption | (simp only [z_nat, z_lit, ← Int32.ofInt_add, ← Int32.ofInt_sub, ← Int32.ofInt_mul]; exact congrArg Int32.ofInt (by omega)) | (simp only [z_nat, z_lit, ← Int32.ofInt_add, ← Int32.ofInt_sub, ← Int32.ofInt_mul]; done) | exact congrArg Int32.ofInt (by omega) | rfl), by (dsimp only; omega), (g2.R.cu hc).1, ?_⟩
      refine ⟨_, rfl, ?_⟩
      exact ref (t 14 c) M2 v _ (by omega) g2.R (w1.fs hf2) ho2 (hf1.mono.tr hf2.mono) hv _
    · have qc2 : ∀ c, ¬ isNx t n c := fun c hc => qc ⟨c, hc⟩
      refine w_in 90 [] ?_
      refine d_hasEntrant g.C g.R.b (fun _ _ _ => br_f (by decide) ?_) (fun z => absurd ⟨e, he, rfl⟩ z)
      refine k2_isIn_43 g.Z e he (fun _ => br_f (by decide) ?_) (fun z => absurd (hin.symm.trans z) (by decide))
      refine z_lt (k : Int) 0 (fun z => by omega) (fun _ => ?_)
      refine ⟨_, g.ro, ?_⟩
      refine z_le (k : Int) (t 0 0) (fun _ => ?_) (fun z => by omega)
      refine k2_findNextCut g hD (fun c' hc' => absurd hc' (qc2 c')) (fun _ => ?_)
      refine z_ne (-1) (-1) (fun z => absurd rfl z) (fun _ => ?_)
      refine ⟨_, g.ro, ?_⟩
      refine k2_allowOrders g.Z hJ e (t 0 0) he (by omega) (fun M1 hf1 hal1 => ?_)
      have g1 : g_A 43 M1 t n := g.f3 hf1
      have w1 := wl.fs hf1
      refine k2_tellBest g1.Z w1 bl (hmo.fs h10 hf1) hal1 e k he (by omega) (fun M2 v hf2 ho2 hv => ⟨_, rfl, _, rfl, ?_⟩)
      have g2 : g_A 43 M2 t n := g1.f3 hf2
      refine w_in 90 [76] ?_
      refine c_X12_isEntrant g2.R.1 g2.R.b (fun _ _ _ => br_f (by decide) ?_) (fun z => absurd ⟨e, he, rfl⟩ z)
      refine k_isInStill g2.R e he (fun _ => br_f (by decide) ?_) (fun z => absurd (hin.symm.trans z) (by decide))
      refine ⟨0, _, by (first | assumption | (simp only [z_nat, z_lit, ← Int32.ofInt_add, ← Int32.ofInt_sub, ← Int32.ofInt_mul]; exact congrArg Int32.ofInt (by omega)) | (simp only [z_nat, z_lit, ← Int32.ofInt_add, ← Int32.ofInt_sub, ← Int32.ofInt_mul]; done) | exact congrArg Int32.ofInt (by omega) | rfl), by (dsimp only; omega), g2.R.R0, ?_⟩
      refine k_isIn (k : Int) 0 (t 0 0) (by omega) (by omega) (by omega) (fun _ _ => bn_t (by decide) ?_) (fun z => absurd ⟨by omega, by omega⟩ z)
      refine k_nextCut g2.R hD (fun c' hc' => absurd hc' (qc2 c')) (fun _ => ?_)
      refine z_ne (-1) (-1) (fun z => absurd rfl z) (fun _ => ?_)
      refine ⟨0, _, by (first | assumption | (simp only [z_nat, z_lit, ← Int32.ofInt_add, ← Int32.ofInt_sub, ← Int32.ofInt_mul]; exact congrArg Int32.ofInt (by omega)) | (simp only [z_nat, z_lit, ← Int32.ofInt_add, ← Int32.ofInt_sub, ← Int32.ofInt_mul]; done) | exact congrArg Int32.ofInt (by omega) | rfl), by (dsimp only; omega), g2.R.R0, ?_⟩
      refine ⟨_, rfl, ?_⟩
      exact ref (t 0 0) M2 v _ (by omega) g2.R (w1.fs hf2) ho2 (hf1.mono.tr hf2.mono) hv _
  · have fin : q_C q_mt (L, xs, q_shp) E nX12_order (d + 12) 0 0 (.ref 271 :: [.int a, .int (Int32.ofInt k0)]) M (fun v' M'' => v' = some (.int (Int32.ofInt (-1))) ∧ P M'') := by
      refine w_in 90 [76] ?_
      refine c_X12_isEntrant g.R.1 g.R.b (fun e he e1 => br_f (by decide) ?_) (fun z => br_t (by decide) ⟨_, rfl, rfl, hP M q_fs.rf hmo⟩)
      refine k_isInStill g.R e he (fun hin => br_f (by decide) ?_) (fun z => br_t (by decide) ⟨_, rfl, rfl, hP M q_fs.rf hmo⟩) e1
      refine ⟨0, _, by (first | assumption | (simp only [z_nat, z_lit, ← Int32.ofInt_add, ← Int32.ofInt_sub, ← Int32.ofInt_mul]; exact congrArg Int32.ofInt (by omega)) | (simp only [z_nat, z_lit, ← Int32.ofInt_add, ← Int32.ofInt_sub, ← Int32.ofInt_mul]; done) | exact congrArg Int32.ofInt (by omega) | rfl), by (dsimp only; omega), g.R.R0, ?_⟩
      exact k_isIn k0 0 (t 0 0) hk0 (by omega) (by omega) (fun z1 z2 => absurd ⟨⟨e, he, e1, hin⟩, z1, z2⟩ q) (fun z => bn_f (by decide) ⟨_, rfl, rfl, hP M q_fs.rf hmo⟩)
    refine w_in 90 [] ?_
    refine d_hasEntrant g.C g.R.b (fun e he e1 => br_f (by decide) ?_) (fun z => br_t (by decide) ⟨_, rfl, _, rfl, fin⟩)
    refine k2_isIn_43 g.Z e he (fun hin => br_f (by decide) ?_) (fun z => br_t (by decide) ⟨_, rfl, _, rfl, fin⟩) e1
    refine z_lt k0 0 (fun z => ⟨_, rfl, _, rfl, fin⟩) (fun z1 => ?_)
    refine ⟨_, g.ro, ?_⟩
    exact z_le k0 (t 0 0) (fun z2 => absurd ⟨⟨e, he, e1, hin⟩, z1, z2⟩ q) (fun z => ⟨_, rfl, _, rfl, fin⟩)
end OS
