/-! the call swing -/
def mW (n : sN) (e r j : Nat) (w : Int) : Nat → Int := fun i => if i = j then w else mk n e r i
abbrev cvW (t : q_T) (n : sN) (e r j : Nat) (w : Int) : Nat → Int := cvt t (mW n e r j w) (n (432 + (6 * e + r))) (n (468 + (6 * e + r))) (n (504 + (6 * e + r)))
def pvW (t : q_T) (n : sN) (e r j : Nat) (w : Int) : Int := ptS t (onE t e) (cvW t n e r j w) (t 1 0) (t 7 (n (6 * e + r)).toNat)
section SW
variable {L : Nat} {xs : Nat → Int32} {E : q_E} {d : Nat} {M : q_M} {t : q_T} {n : sN} {Q : Option Value → q_M → Prop} {P : q_M → Prop}
theorem mW_b (g : g_R M t n) {e r j : Nat} {w : Int} (he : e < t 8 0) (hr : r < t 0 0) (hw : 0 ≤ w ∧ w ≤ 20) : ∀ i, i < 11 → -1 ≤ mW n e r j w i ∧ mW n e r j w i ≤ 20 := by
  intro i hi
  have hs := (g.bs he hr).2.1 i hi
  unfold mW
  split
  · omega
  · exact ⟨hs.1, hs.2.1⟩
theorem mW_0 (g : g_R M t n) {e r j : Nat} {w : Int} (he : e < t 8 0) (hr : r < t 0 0) (hg : n (576 + (6 * e + r)) = 1) (h0 : n (540 + (6 * e + r)) = 0) (hw : 0 ≤ w ∧ w ≤ 20) : ∀ i, i < t 2 0 → onE t e i = true → 0 ≤ mW n e r j w i := by
  intro i hi q
  have := mk_0 g he hr hg h0 i hi q
  unfold mW
  split
  · omega
  · exact this
theorem pvW_le (g : g_R M t n) {e r j : Nat} {w w' : Int} (he : e < t 8 0) (hr : r < t 0 0) (hg : n (576 + (6 * e + r)) = 1) (h0 : n (540 + (6 * e + r)) = 0) (hw : 0 ≤ w) (h1 : w ≤ w') (h2 : w' ≤ 20) : pvW t n e r j w ≤ pvW t n e r j w' := by
  have h11 := g.j11
  have hs := g.bs he hr
  refine ptS_le (fun i hi => (g.bj hi).2) (fun i hi _ => ?_) (fun i hi z => ⟨?_, ?_⟩) (Int.natCast_nonneg _)
  · refine cvl_le ?_
    unfold mW
    split
    · exact h1
    · exact Int.le_refl _
  · exact cvl_0 (mW_0 g he hr hg h0 ⟨hw, by omega⟩ i hi z) hs.2.2.1.1
  · exact (cvl_b (mW_b g he hr ⟨by omega, h2⟩ i (by omega)) hs.2.2.1.1).2
theorem pvW_b (g : g_R M t n) {e r j : Nat} {w : Int} (he : e < t 8 0) (hr : r < t 0 0) (hg : n (576 + (6 * e + r)) = 1) (h0 : n (540 + (6 * e + r)) = 0) (hw : 0 ≤ w ∧ w ≤ 20) : 0 ≤ pvW t n e r j w ∧ pvW t n e r j w ≤ 18000 := by
  have h11 := g.j11
  have hs := g.bs he hr
  have hdg := g.bd (i := (n (6 * e + r)).toNat) (by have := hs.1; omega)
  refine ptS_b (fun i hi z => ⟨cvl_0 (mW_0 g he hr hg h0 hw i hi z) hs.2.2.1.1, (cvl_b (mW_b g he hr hw i (by omega)) hs.2.2.1.1).2⟩) ⟨by omega, by omega⟩
set_option maxRecDepth 100000 in
set_option maxHeartbeats 4000000 in
theorem o_swing {a b c : Int32} (g : g_A 43 M t n) (hP : ∀ M', q_fs lA fA M M' → P M') : zOp L xs E nX11_swing nX12_swing (d + 8) [.int a, .int b, .int c] M P := by
  by_cases q : ∃ e r j, aJud t n a b c e r j
  · obtain ⟨e, r, j, hh⟩ := q
    have hh2 := hh
    obtain ⟨he, hr, hj, rfl, rfl, rfl, hg, h0, hp⟩ := hh
    have h11 := g.R.j11
    have hpr := prt_on g.R he hr hg h0
    have hs := g.R.bs he hr
    have hb := fun (w : Int) (hw : 0 ≤ w ∧ w ≤ 20) => pvW_b g.R (j := j) he hr hg h0 hw
    have ref0 : ∀ M2, q_fs lA fA M M2 → q_C q_mt (L, xs, q_shp) E nX12_swing (d + 8) 0 0 (.ref 271 :: [.int (nI e), .int (nI (r + 1)), .int (nI j)]) M2 (fun v' M'' => v' = some (.int (Int32.ofInt (pvW t n e r j 20 - pvW t n e r j 0))) ∧ P M'') := by
      intro M2 hf2
      have g2 := g.R.fs hf2
      refine w_in 90 [27] ?_
      refine k_isJudged4 g2 e r j he hr hj (fun _ => bn_t (by decide) ?_) (fun z => absurd ((jdd_t.mpr ⟨hg, h0, hp⟩).symm.trans z) (by decide))
      refine k_laysDive g2 e r he hr (fun M3 hf3 l3 => ?_)
      have hf4 : q_fs lA fA M M3 := hf2.tr hf3.mono
      have W := lp_m (W := fun w M' => ∀ u v x y, u = Int32.ofInt (if w = 0 then -1 else pvW t n e r j ((w : Int) - 1)) → v = Int32.ofInt (if w = 0 then -1 else pvW t n e r j 0) → x = nI w → q_G q_mt (L, xs, q_shp) E nX12_swing (d + 8) 0 0 (q_Q (L, xs, q_shp) E (fun v' M'' => v' = some (.int (Int32.ofInt (pvW t n e r j 20 - pvW t n e r j 0))) ∧ P M'')) 27 [some (.ref 271), some (.int (nI e)), some (.int (nI (r + 1))), some (.int (nI j)), some (.int u), some (.int v), some (.int x), y] [] M') (J := fun w M' => q_fs [293] [] M3 M' ∧ ∀ i, i < 11 → ¬ i = j → M'.1 293 i = Int32.ofInt (mk n e r i)) 21 ?_ ?_ 0 M3 (by omega) ⟨q_fs.rf, fun i hi _ => (l3.1 i hi).1⟩
      · exact W _ _ _ _ rfl rfl rfl
      · rintro M' ⟨hf, hm⟩ u v x y rfl rfl rfl
        refine w_at 90 [27] ?_
        refine z_lt 20 (21 : Nat) (fun h => ⟨_, ?_, rfl, hP M' (hf4.tr hf.mono)⟩) (fun h => by omega)
        rw [if_neg (by decide), if_neg (by decide)]
        exact (Int32.ofInt_sub _ _).symm
      · rintro w M' hw ⟨hf, hm⟩ ih u v x y rfl rfl rfl
        have hwb : (0 : Int) ≤ (w : Int) ∧ (w : Int) ≤ 20 := ⟨by omega, by omega⟩
        have hf5 : q_fs lA fA M (q_si M' 293 j (nI w)) := (hf4.tr hf.mono).s1
        have g5 := g.R.fs hf5
        have l5 : g_L (q_si M' 293 j (nI w)) (mW n e r j w) (n (432 + (6 * e + r))) (n (468 + (6 * e + r))) (n (504 + (6 * e + r))) (t 7 (n (6 * e + r)).toNat) := by
          refine ⟨fun i hi => ⟨?_, mW_b g.R he hr hwb i hi⟩, ⟨(hf.p1 271 36).trans l3.2.1.1, l3.2.1.2⟩, ⟨(hf.p1 271 37).trans l3.2.2.1.1, l3.2.2.1.2⟩, ⟨(hf.p1 271 38).trans l3.2.2.2.1.1, l3.2.2.2.1.2⟩, ⟨(hf.p1 271 39).trans l3.2.2.2.2.1, l3.2.2.2.2.2⟩⟩
          unfold mW
          by_cases q : i = j
          · rw [q, q_si_s, if_pos rfl]
            rfl
          · rw [q_si_n q, if_neg q]
            exact hm i hi q
        have hpw : ∀ i, i < t 2 0 → prt (mW n e r j w) (-1) i = onE t e i := fun i hi => by
          by_cases q : i = j
          · subst q
            unfold prt mW
            rw [if_pos rfl, decide_eq_false (by omega), decide_eq_false (by omega)]
            exact hp.symm
          · rw [← hpr i hi]
            unfold prt mW
            rw [if_neg q]
        have bw := hb w hwb
        have b0 := hb 0 (by omega)
        have le0 := pvW_le g.R (j := j) he hr hg h0 (Int.le_refl 0) hwb.1 hwb.2
        have nx : ∀ u v y, u = Int32.ofInt (pvW t n e r j w) → v = Int32.ofInt (pvW t n e r j 0) → q_G q_mt (L, xs, q_shp) E nX12_swing (d + 8) 0 0 (q_Q (L, xs, q_shp) E (fun v' M'' => v' = some (.int (Int32.ofInt (pvW t n e r j 20 - pvW t n e r j 0))) ∧ P M'')) 27 [some (.ref 271), some (.int (nI e)), some (.int (nI (r + 1))), some (.int (nI j)), some (.int u), some (.int v), some (.int (nI w + Int32.ofInt 1)), y] [] (q_si M' 293 j (nI w)) := by
          rintro u v y rfl rfl
          refine ih _ ⟨hf.s1, fun i hi q => by rw [q_si_n q]; exact hm i hi q⟩ _ _ _ _ ?_ ?_ (by (first | assumption | (simp only [z_nat, z_lit, ← Int32.ofInt_add, ← Int32.ofInt_sub, ← Int32.ofInt_mul]; exact congrArg Int32.ofInt (by omega)) | (simp only [z_nat, z_lit, ← Int32.ofInt_add, ← Int32.ofInt_sub, ← Int32.ofInt_mul]; done) | exact congrArg Int32.ofInt (by omega) | rfl))
          · rw [if_neg (by omega)]
            exact congrArg (fun z => Int32.ofInt (pvW t n e r j z)) (by omega)
          · rw [if_neg (by omega)]
        refine w_at 90 [27] ?_
        refine z_lt 20 (w : Int) (fun h => by omega) (fun h => ?_)
        refine ⟨j, _, by (first | assumption | (simp only [z_nat, z_lit, ← Int32.ofInt_add, ← Int32.ofInt_sub, ← Int32.ofInt_mul]; exact congrArg Int32.ofInt (by omega)) | (simp only [z_nat, z_lit, ← Int32.ofInt_add, ← Int32.ofInt_sub, ← Int32.ofInt_mul]; done) | exact congrArg Int32.ofInt (by omega) | rfl), by (dsimp only; omega), rfl, ?_⟩
        refine ⟨1, _, by (first | assumption | (simp only [z_nat, z_lit, ← Int32.ofInt_add, ← Int32.ofInt_sub, ← Int32.ofInt_mul]; exact congrArg Int32.ofInt (by omega)) | (simp only [z_nat, z_lit, ← Int32.ofInt_add, ← Int32.ofInt_sub, ← Int32.ofInt_mul]; done) | exact congrArg Int32.ofInt (by omega) | rfl), by (dsimp only; omega), g5.R1, ?_⟩
        refine k_laidPoints g5 l5 (t 1 0) (-1) g.R.p3 (by omega) ?_
        have ep : ptS t (prt (mW n e r j w) (-1)) (cvW t n e r j w) (t 1 0) (t 7 (n (6 * e + r)).toNat) = pvW t n e r j w := ptS_cong hpw
        rw [ep]
        by_cases q0 : w = 0
        · subst q0
          rw [if_pos rfl, if_pos rfl]
          refine z_le (pvW t n e r j (0 : Nat)) (-1) (fun z => by omega) (fun _ => ?_)
          refine z_eq (-1) (-1) (fun _ => ?_) (fun z => absurd rfl z)
          exact nx _ _ _ rfl rfl
        · rw [if_neg q0, if_neg q0]
          have hm1 := pvW_le g.R (j := j) (w := (w : Int) - 1) he hr hg h0 (by omega) (show (w : Int) - 1 ≤ w by omega) hwb.2
          have bm := hb ((w : Int) - 1) (by omega)
          refine z_le (pvW t n e r j w) (pvW t n e r j ((w : Int) - 1)) (fun z => ?_) (fun z => ?_)
          · refine z_eq (pvW t n e r j 0) (-1) (fun z2 => by omega) (fun _ => ?_)
            refine z_le (pvW t n e r j 0) (pvW t n e r j w) (fun _ => ?_) (fun z2 => by omega)
            exact nx _ _ _ (congrArg Int32.ofInt (by omega)) rfl
          · refine z_eq (pvW t n e r j 0) (-1) (fun z2 => by omega) (fun _ => ?_)
            refine z_le (pvW t n e r j 0) (pvW t n e r j w) (fun _ => ?_) (fun z2 => by omega)
            exact nx _ _ _ rfl rfl
    have pS : ∀ (w : Int) (M1 : q_M) (m' : Nat → Int), 0 ≤ w ∧ w ≤ 20 → (∀ i, ¬ i = j → m' i = mk n e r i) → g_P M1 t (onE t e) m' (n (432 + (6 * e + r))) (n (468 + (6 * e + r))) (n (504 + (6 * e + r))) (t 7 (n (6 * e + r)).toNat) (t 1 0) → g_P (q_si M1 239 j (Int32.ofInt w)) t (onE t e) (mW n e r j w) (n (432 + (6 * e + r))) (n (468 + (6 * e + r))) (n (504 + (6 * e + r))) (t 7 (n (6 * e + r)).toNat) (t 1 0) := by
      intro w M1 m' hw hm' p1
      refine ⟨p1.1, fun i hi => ⟨?_, mW_b g.R he hr hw i (by omega)⟩, p1.2.2⟩
      unfold mW
      by_cases q : i = j
      · rw [q, q_si_s, if_pos rfl]
      · rw [q_si_n q, if_neg q, ← hm' i q]
        exact (p1.2.1 i hi).1
    refine w_in 90 [] ?_
    refine k2_isJudged g (fun _ _ _ _ => br_f (by decide) ?_) (fun z => absurd ⟨e, r, j, hh2⟩ z)
    have cls : q_C q_mt (L, xs, q_shp) E nX4_spreadOf (d + 7) 0 0 [.ref 256, .int (nI e), .int (nI (r + 1)), .int (nI j)] M (fun v M' => v = some (.int (Int32.ofInt (pvW t n e r j 20 - pvW t n e r j 0))) ∧ q_fs lA fA M M') := by
      refine w_in 90 [] ?_
      refine k2_seat_43 g.Z e r he hr (fun M1 hf1 p1 => ?_)
      have g1 := g.seat_43 hf1
      refine ⟨j, _, by (first | assumption | (simp only [z_nat, z_lit, ← Int32.ofInt_add, ← Int32.ofInt_sub, ← Int32.ofInt_mul]; exact congrArg Int32.ofInt (by omega)) | (simp only [z_nat, z_lit, ← Int32.ofInt_add, ← Int32.ofInt_sub, ← Int32.ofInt_mul]; done) | exact congrArg Int32.ofInt (by omega) | rfl), by (dsimp only; omega), rfl, ?_⟩
      have p2 := pS 20 M1 _ (by omega) (fun i _ => rfl) p1
      have k2 : g_K (q_si M1 239 j (Int32.ofInt 20)) t := g1.K
      refine p_score k2 p2 (mW_0 g.R he hr hg h0 (by omega)) (fun M2 hf2 _ => ?_)
      have k3 : g_K M2 t := k2.eq (hf2.c1 6) (hf2.c1 8)
      refine ⟨j, _, by (first | assumption | (simp only [z_nat, z_lit, ← Int32.ofInt_add, ← Int32.ofInt_sub, ← Int32.ofInt_mul]; exact congrArg Int32.ofInt (by omega)) | (simp only [z_nat, z_lit, ← Int32.ofInt_add, ← Int32.ofInt_sub, ← Int32.ofInt_mul]; done) | exact congrArg Int32.ofInt (by omega) | rfl), by (dsimp only; omega), rfl, ?_⟩
      have p3 := pS 0 M2 _ (by omega) (fun i q => by show mW n e r j 20 i = _; unfold mW; rw [if_neg q]) (p2.fs hf2)
      have k4 : g_K (q_si M2 239 j (Int32.ofInt 0)) t := k3
      refine p_score k4 p3 (mW_0 g.R he hr hg h0 (by omega)) (fun M4 hf4 _ => ?_)
      refine ⟨_, (Int32.ofInt_sub _ _).symm, rfl, ?_⟩
      exact ((hf1.mono.s1 (r := 239) (i := j)).tr hf2.mono).s1 (r := 239) (i := j) |>.tr hf4.mono
    refine q_C.mono cls (fun v M' h => ?_)
    obtain ⟨rfl, hf⟩ := h
    exact ⟨_, rfl, _, rfl, ref0 M' hf⟩
  · refine w_in 90 [] ?_
    refine k2_isJudged g (fun e r j h => absurd ⟨e, r, j, h⟩ q) (fun _ => br_t (by decide) ⟨_, rfl, _, rfl, ?_⟩)
    refine w_in 90 [27] ?_
    exact k_isJudged g.R (fun e r j h => absurd ⟨e, r, j, h⟩ q) (fun _ => bn_f (by decide) ⟨_, rfl, rfl, hP M q_fs.rf⟩)
end SW
