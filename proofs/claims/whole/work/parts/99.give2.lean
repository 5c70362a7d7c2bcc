/-! give and out walked -/
section GW
variable {L : Nat} {xs : Nat → Int32} {E : q_E} {d : Nat} {M : q_M} {t : q_T} {n : sN} {Q : Option Value → q_M → Prop} {P : q_M → Prop}
-- the reference
set_option maxRecDepth 100000 in
set_option maxHeartbeats 4000000 in
theorem k_giveBy {R : aRs} (g : g_R M t n) (hJ : b_J t n) (hR : isGv t n R) (hQ : rQ lG fD M t R Q) : q_C q_mt (L, xs, q_shp) E nX12_giveBy (d + 13) 0 0 [.ref 271] M Q := by
  have h6 := g.e6
  have h7 := g.r6
  have h11 := g.j11
  by_cases q : isB t n
  · have hB := hJ.B h6 q
    have he := hB.2.1
    have hr := hB.2.2.1
    have h31 := hB.2.2.2.1
    have s36 : (6 * bE n + bR n) < 36 := by omega
    have m1 := fb_ct_le (mkd n (bE n) (bR n)) (t 2 0)
    have p1 := fb_ct_le (fun j => onP t j (bE n)) (t 2 0)
    have go : (¬ (isO t n ∧ mkN t n (bE n) (bR n) < pnN t (bE n))) → q_G q_mt (L, xs, q_shp) E nX12_giveBy (d + 13) 0 0 (q_Q (L, xs, q_shp) E Q) 37 [some (.ref 271), some (.int (nI (bE n))), none] [] M := by
      intro hall
      rcases hR with ⟨z, -⟩ | ⟨-, -, n', hg, rfl⟩
      · exact absurd z (fun y => y.elim (fun w => w q) hall)
      have hW := gv_W hJ g.A q hall
      have bN1 : b_N t (up n (576 + (6 * bE n + bR n)) 1) := hW.1.1.of h6 h7 h11 (fun k hk => by show up n _ 1 k = up (up n _ 1) 632 _ k; exact (up_n (by omega)).symm) (fun e he' => by
        have := hW.1.1.2.1 e he'
        unfold nGv at this
        rw [up_n (by omega), up_n (i := 618 + e) (by omega)] at this
        exact this)
      have g1 : g_R (q_si M 284 (576 + (6 * bE n + bR n)) (Int32.ofInt 1)) t (up n (576 + (6 * bE n + bR n)) 1) := g.up bN1 rfl
      refine w_at 90 [37] ?_
      refine k_roundNow g ?_
      refine k_slot (bE n) (bR n) ?_ (hb := by rw [h31]; rfl)
      refine ⟨576 + (6 * bE n + bR n), _, by (first | assumption | (simp only [z_nat, z_lit, ← Int32.ofInt_add, ← Int32.ofInt_sub, ← Int32.ofInt_mul]; exact congrArg Int32.ofInt (by omega)) | (simp only [z_nat, z_lit, ← Int32.ofInt_add, ← Int32.ofInt_sub, ← Int32.ofInt_mul]; done) | exact congrArg Int32.ofInt (by omega) | rfl), by (dsimp only; omega), rfl, ?_⟩
      refine k_roundNow g1 ?_
      rw [show up n (576 + (6 * bE n + bR n)) 1 631 = n 631 from up_n (by omega)]
      refine k_pointsOf g1 (bE n) (bR n) he hr (fun M2 hf2 => ?_) (hb := by rw [h31]; rfl)
      have ep : ptE t (up n (576 + (6 * bE n + bR n)) 1) (bE n) (bR n) (t 1 0) (-1) = ptE t n (bE n) (bR n) (t 1 0) (-1) := ptE_lo (by omega) (by omega) h11 (fun k hk => up_n (by omega))
      rw [ep]
      have g2 := g1.fs hf2
      have e32 : M2.1 284 632 = Int32.ofInt (n 632) := by rw [g2.at (by omega), up_n (by omega)]
      have b32 := hB.2.2.2.2
      refine ⟨632, _, by (first | assumption | (simp only [z_nat, z_lit, ← Int32.ofInt_add, ← Int32.ofInt_sub, ← Int32.ofInt_mul]; exact congrArg Int32.ofInt (by omega)) | (simp only [z_nat, z_lit, ← Int32.ofInt_add, ← Int32.ofInt_sub, ← Int32.ofInt_mul]; done) | exact congrArg Int32.ofInt (by omega) | rfl), by (dsimp only; omega), e32, ?_⟩
      refine ⟨632, Int32.ofInt (n 632 + 1), by (first | assumption | (simp only [z_nat, z_lit, ← Int32.ofInt_add, ← Int32.ofInt_sub, ← Int32.ofInt_mul]; exact congrArg Int32.ofInt (by omega)) | (simp only [z_nat, z_lit, ← Int32.ofInt_add, ← Int32.ofInt_sub, ← Int32.ofInt_mul]; done) | exact congrArg Int32.ofInt (by omega) | rfl), by (dsimp only; omega), by (first | assumption | (simp only [z_nat, z_lit, ← Int32.ofInt_add, ← Int32.ofInt_sub, ← Int32.ofInt_mul]; exact congrArg Int32.ofInt (by omega)) | (simp only [z_nat, z_lit, ← Int32.ofInt_add, ← Int32.ofInt_sub, ← Int32.ofInt_mul]; done) | exact congrArg Int32.ofInt (by omega) | rfl), ?_⟩
      have g3 : g_R (q_si M2 284 632 (Int32.ofInt (n 632 + 1))) t (nGv n) := g2.up hW.1.1 rfl
      refine k_goesOn g3 hW hg (fun M3 hf3 g4 => ⟨_, rfl, ?_⟩)
      refine hQ.2 _ _ rfl M3 ?_ g4
      have f1 : q_fs lG fD M (q_si M 284 (576 + (6 * bE n + bR n)) (Int32.ofInt 1)) := q_fs.rf.s1
      exact ((f1.tr hf2.mono).s1).tr hf3
    refine w_in 90 [37] ?_
    refine k_board g hJ q ?_
    refine z_eq (bE n : Int) (-1) (fun z => by omega) (fun _ => ?_)
    refine k_isOpen g hJ (fun o => br_f (by decide) ?_) (fun o => br_t (by decide) ?_)
    · refine k_roundNow g ?_
      refine k_markedMany g (bE n) (bR n) he hr ?_ (hb := by rw [h31]; rfl)
      refine k_judgesMany g (bE n) he ?_
      refine z_le (pnN t (bE n)) (mkN t n (bE n) (bR n)) (fun z => ?_) (fun z => ?_) (ha := by unfold pnN; omega) (hb := by unfold mkN; omega)
      · exact go (fun y => by omega)
      · refine ⟨_, rfl, ?_⟩
        rcases hR with ⟨-, rfl⟩ | ⟨-, hall, -⟩
        · exact hQ.1 rfl
        · exact absurd ⟨o, by omega⟩ hall
    · exact go (fun y => o y.1)
  · refine w_in 90 [37] ?_
    refine k_noBoard g hJ q ?_
    refine z_eq (-1) (-1) (fun _ => ⟨_, rfl, ?_⟩) (fun z => absurd rfl z)
    rcases hR with ⟨-, rfl⟩ | ⟨z, -⟩
    · exact hQ.1 rfl
    · exact absurd z q
set_option maxRecDepth 100000 in
set_option maxHeartbeats 4000000 in
theorem k_outBy {R : aRs} (g : g_R M t n) (hJ : b_J t n) {a : Int32} (e : Nat) (he : e < t 8 0) (hR : isOt t n e R) (hQ : rQ lG fD M t R Q) (ha : a = nI e := by (first | assumption | (simp only [z_nat, z_lit, ← Int32.ofInt_add, ← Int32.ofInt_sub, ← Int32.ofInt_mul]; exact congrArg Int32.ofInt (by omega)) | (simp only [z_nat, z_lit, ← Int32.ofInt_add, ← Int32.ofInt_sub, ← Int32.ofInt_mul]; done) | exact congrArg Int32.ofInt (by omega) | rfl)) : q_C q_mt (L, xs, q_shp) E nX12_outBy (d + 12) 0 0 [.ref 271, .int (a)] M Q := by
  subst ha
  have h6 := g.e6
  have h7 := g.r6
  have h11 := g.j11
  have h0 : ¬ t 0 0 = 0 := fun z => by have := g.b2.2.2.2.1.mp (show 0 < t 8 0 by omega); omega
  have fin : ¬ (isB t n ∧ inE n e = true) → Q (some (.int (Int32.ofInt (-3)))) M := fun z => by
    rcases hR with ⟨-, rfl⟩ | ⟨y, -⟩
    · exact hQ.1 rfl
    · exact absurd y z
  have h33 := hJ.2.1.1
  refine w_in 90 [] ?_
  refine c_X12_isEntrant g.1 g.b (fun _ _ _ => bn_t (by decide) ?_) (fun z => absurd ⟨e, he, rfl⟩ z)
  refine k_isInStill g e he (fun hi => br_f (by decide) ?_) (fun hi => br_t (by decide) ⟨_, rfl, fin (fun z => by rw [hi] at z; cases z.2)⟩)
  refine ⟨633, _, by (first | assumption | (simp only [z_nat, z_lit, ← Int32.ofInt_add, ← Int32.ofInt_sub, ← Int32.ofInt_mul]; exact congrArg Int32.ofInt (by omega)) | (simp only [z_nat, z_lit, ← Int32.ofInt_add, ← Int32.ofInt_sub, ← Int32.ofInt_mul]; done) | exact congrArg Int32.ofInt (by omega) | rfl), by (dsimp only; omega), g.at (by omega), ?_⟩
  refine z_ne (n 633) 1 (fun q33 => ?_) (fun q33 => ⟨_, rfl, fin (fun z => z.1.2 q33)⟩)
  have q : isB t n := ⟨h0, q33⟩
  rcases hR with ⟨z, -⟩ | ⟨-, n', hg, rfl⟩
  · exact absurd ⟨q, hi⟩ z
  have hW := ot_W hJ g.A q he
  refine ⟨612 + e, _, by (first | assumption | (simp only [z_nat, z_lit, ← Int32.ofInt_add, ← Int32.ofInt_sub, ← Int32.ofInt_mul]; exact congrArg Int32.ofInt (by omega)) | (simp only [z_nat, z_lit, ← Int32.ofInt_add, ← Int32.ofInt_sub, ← Int32.ofInt_mul]; done) | exact congrArg Int32.ofInt (by omega) | rfl), by (dsimp only; omega), rfl, ?_⟩
  have g1 : g_R (q_si M 284 (612 + e) (Int32.ofInt 7)) t (nOt n e) := g.up hW.1.1 rfl
  refine k_goesOn g1 hW hg (fun M2 hf2 g2 => ?_)
  refine k_inMany g2 ⟨_, rfl, ?_⟩
  exact hQ.2 _ _ rfl M2 ((q_fs.rf.s1 (r := 284) (i := 612 + e) (x := Int32.ofInt 7)).tr hf2) g2
abbrev fC : List (Nat × Nat) := [(238, 4), (238, 5), (238, 6), (238, 7), (238, 8), (238, 9), (238, 10), (238, 11), (238, 12)]
abbrev lC_43 : List Nat := [43, 45, 46, 47, 48, 49, 50, 243, 239, 240, 241]
/-- the State between a given dive and the next one -/
theorem gv_S0_43 {M' : q_M} (g : g_Z 43 M t n) (hJ : b_J t n) (q : isB t n) (e0 : M'.1 43 = M.1 43) (e1 : M'.1 44 = M.1 44) (e3 : M'.1 46 = M.1 46) (e4 : M'.1 47 = M.1 47) (h2 : ∀ i, ¬ i = 16 * (6 * bE n + bR n) → M'.1 45 i = M.1 45 i) (h2' : M'.1 45 (16 * (6 * bE n + bR n)) = Int32.ofInt (ptE t n (bE n) (bR n) (t 1 0) (-1))) (h6 : ∀ i, ¬ i = bE n → M'.1 49 i = M.1 49 i) (h6' : M'.1 49 (bE n) = nI (gvN t n (bE n) + 1)) (h7 : ∀ i, ¬ i = bE n → M'.1 50 i = M.1 50 i) (h7' : M'.1 50 (bE n) = Int32.ofInt (toE t n (bE n) (t 1 0) (-1) + ptE t n (bE n) (bR n) (t 1 0) (-1))) : g_S0 43 M' t (nGv n) := by
  have k6 := g.R.e6
  have k7 := g.R.r6
  have h11 := g.R.j11
  have hB := hJ.B k6 q
  have he := hB.2.1
  have hr := hB.2.2.1
  have a := hJ.at k6 hB
  have s36 : (6 * bE n + bR n) < 36 := by omega
  have gN := gv_N hJ g.R q
  have lo : ∀ k, k < 576 → nGv n k = n k := fun k hk => gv_lo (by omega) (by omega)
  obtain ⟨z1, z2, z3, z4, -⟩ := g.S
  refine ⟨fun s hs => ?_, fun s hs => ?_, fun e he' => ?_, ?_⟩
  · show M'.1 44 s = _
    rw [e1]
    refine (z1 s hs).trans ?_
    unfold lS
    rw [lo s (by omega)]
  · show (M'.1 45 _ = _ ∧ M'.1 45 _ = _ ∧ M'.1 45 _ = _ ∧ M'.1 45 _ = _ ∧ M'.1 45 _ = _) ∧ ∀ j, j < 11 → M'.1 45 _ = _
    obtain ⟨⟨y1, y2, y3, y4, y5⟩, y6⟩ := z2 s hs
    rw [lo (540 + s) (by omega), lo (432 + s) (by omega), lo (468 + s) (by omega), lo (504 + s) (by omega), h2 (16 * s + 1) (by omega), h2 (16 * s + 2) (by omega), h2 (16 * s + 3) (by omega), h2 (16 * s + 4) (by omega)]
    refine ⟨⟨?_, y2, y3, y4, y5⟩, fun j hj => ?_⟩
    · unfold pS
      rw [ptE_lo (n := n) (by omega) (by omega) h11 lo]
      by_cases w : s = (6 * bE n + bR n)
      · subst w
        rw [h2', gv_gv s36, if_pos rfl, show (6 * bE n + bR n) / 6 = bE n by omega, show (6 * bE n + bR n) % 6 = bR n by omega]
      · rw [h2 _ (by omega), gv_lo (by omega) (by omega)]
        exact y1
    · rw [h2 _ (by omega), lo (36 + 11 * s + j) (by omega)]
      exact y6 j hj
  · show M'.1 46 e = _ ∧ M'.1 47 e = _ ∧ M'.1 49 e = _ ∧ M'.1 50 e = _
    obtain ⟨y1, y2, y3, y4⟩ := z3 e he'
    rw [e3, e4, gv_lo (i := 612 + e) (by omega) (by omega)]
    refine ⟨y1, ?_, ?_, ?_⟩
    · refine y2.trans ?_
      unfold bS
      rw [gv_lo (i := 618 + e) (by omega) (by omega)]
    · by_cases w : e = bE n
      · subst w
        rw [h6']
        unfold gS
        rw [if_pos he, gN.1]
      · rw [h6 e w]
        refine y3.trans ?_
        unfold gS
        by_cases w2 : e < t 8 0
        · rw [if_pos w2, if_pos w2, gN.2 e w2 w]
        · rw [if_neg w2, if_neg w2]
    · by_cases w : e = bE n
      · subst w
        rw [h7']
        unfold tS
        rw [if_pos he]
        congr 1
        unfold toE
        rw [si_upd (f := tof t n (bE n) (t 1 0) (-1)) (f' := tof t (nGv n) (bE n) (t 1 0) (-1)) hr (fun i hi hne => ?_)]
        · have t0 : tof t n (bE n) (t 1 0) (-1) (bR n) = 0 := by
            unfold tof
            rw [if_neg (by omega)]
          have t1 : tof t (nGv n) (bE n) (t 1 0) (-1) (bR n) = ptE t n (bE n) (bR n) (t 1 0) (-1) := by
            unfold tof
            rw [gv_gv s36, gv_lo (i := 618 + bE n) (by omega) (by omega), if_pos ⟨a.2.2.2, rfl⟩]
            exact ptE_lo (by omega) (by omega) h11 lo
          rw [t0, t1]
          omega
        · unfold tof
          rw [gv_lo (i := 618 + bE n) (by omega) (by omega), gv_lo (i := 576 + (6 * bE n + i)) (by omega) (by omega), ptE_lo (n := n) (by omega) (by omega) h11 lo]
      · rw [h7 e w]
        refine y4.trans ?_
        unfold tS
        by_cases w2 : e < t 8 0
        · rw [if_pos w2, if_pos w2]
          congr 1
          unfold toE
          refine fb_si_cong (fun i hi => ?_)
          unfold tof
          rw [gv_lo (i := 618 + e) (by omega) (by omega), gv_lo (i := 576 + (6 * e + i)) (by omega) (by omega), ptE_lo (n := n) (by omega) (by omega) h11 lo]
        · rw [if_neg w2, if_neg w2]
  · show M'.1 43 7 = _
    rw [e0, gv_lo (by omega) (by omega)]
    exact z4
set_option maxRecDepth 100000 in
set_option maxHeartbeats 4000000 in
theorem k2_doGive_43 {R : aRs} (g : g_Z 43 M t n) (hJ : b_J t n) (hR : isGv t n R) (hQ : cQ 43 lC_43 fC M t R Q) : q_C q_mt (L, xs, q_shp) E nX6_doGive (d + 4) 0 0 [.ref 242] M Q := by
  have h6 := g.R.e6
  have h7 := g.R.r6
  have h11 := g.R.j11
  have e1 := g.dv
  by_cases q : isB t n
  · have hB := hJ.B h6 q
    have he := hB.2.1
    have hr := hB.2.2.1
    have h31 := hB.2.2.2.1
    have b32 := hB.2.2.2.2
    have s36 : (6 * bE n + bR n) < 36 := by omega
    have hp := ptE_c g.R (dr := t 1 0) (bar := -1) he hr
    have ht := toE_c g.R (dr := t 1 0) (bar := -1) he
    have m1 := fb_ct_le (mkd n (bE n) (bR n)) (t 2 0)
    have p1 := fb_ct_le (fun j => onP t j (bE n)) (t 2 0)
    rw [brd_at hB] at e1
    have e7 : M.1 43 7 = nI (bR n + 1) := by
      have := g.rn
      rw [h31] at this
      exact this
    have gvb : gvN t n (bE n) ≤ 6 := Nat.le_trans (fb_ct_le _ _) h7
    have go : (¬ (isO t n ∧ mkN t n (bE n) (bR n) < pnN t (bE n))) → ∀ M1, q_fs [239, 240, 241] fC M M1 → q_G q_mt (L, xs, q_shp) E nX6_doGive (d + 4) 0 0 (q_Q (L, xs, q_shp) E Q) 92 [some (.ref 242), some (.int (nI (16 * (6 * bE n + bR n)))), some (.int (Int32.ofInt (ptE t n (bE n) (bR n) (t 1 0) (-1))))] [] M1 := by
      intro hall M1 hf1
      rcases hR with ⟨z, -⟩ | ⟨-, -, n', hg, rfl⟩
      · exact absurd z (fun y => y.elim (fun w => w q) hall)
      have hW := gv_W hJ g.R q hall
      have g1 : g_Z 43 M1 t n := g.f2 hf1
      have d1 := g1.dv
      rw [brd_at hB] at d1
      have gi := g1.gi he
      have gt := g1.to he
      have d1' : (q_si M1 45 (16 * (6 * bE n + bR n)) (Int32.ofInt (ptE t n (bE n) (bR n) (t 1 0) (-1)))).1 43 9 = nI (bE n) := d1
      refine w_at 90 [92] ?_
      refine ⟨16 * (6 * bE n + bR n), _, by (first | assumption | (simp only [z_nat, z_lit, ← Int32.ofInt_add, ← Int32.ofInt_sub, ← Int32.ofInt_mul]; exact congrArg Int32.ofInt (by omega)) | (simp only [z_nat, z_lit, ← Int32.ofInt_add, ← Int32.ofInt_sub, ← Int32.ofInt_mul]; done) | exact congrArg Int32.ofInt (by omega) | rfl), by (dsimp only; omega), rfl, ?_⟩
      refine ⟨_, d1', ?_⟩
      refine ⟨bE n, _, by (first | assumption | (simp only [z_nat, z_lit, ← Int32.ofInt_add, ← Int32.ofInt_sub, ← Int32.ofInt_mul]; exact congrArg Int32.ofInt (by omega)) | (simp only [z_nat, z_lit, ← Int32.ofInt_add, ← Int32.ofInt_sub, ← Int32.ofInt_mul]; done) | exact congrArg Int32.ofInt (by omega) | rfl), by (dsimp only; omega), gi, ?_⟩
      refine ⟨bE n, nI (gvN t n (bE n) + 1), by (first | assumption | (simp only [z_nat, z_lit, ← Int32.ofInt_add, ← Int32.ofInt_sub, ← Int32.ofInt_mul]; exact congrArg Int32.ofInt (by omega)) | (simp only [z_nat, z_lit, ← Int32.ofInt_add, ← Int32.ofInt_sub, ← Int32.ofInt_mul]; done) | exact congrArg Int32.ofInt (by omega) | rfl), by (dsimp only; omega), by (first | assumption | (simp only [z_nat, z_lit, ← Int32.ofInt_add, ← Int32.ofInt_sub, ← Int32.ofInt_mul]; exact congrArg Int32.ofInt (by omega)) | (simp only [z_nat, z_lit, ← Int32.ofInt_add, ← Int32.ofInt_sub, ← Int32.ofInt_mul]; done) | exact congrArg Int32.ofInt (by omega) | rfl), ?_⟩
      refine ⟨_, d1', ?_⟩
      refine ⟨bE n, _, by (first | assumption | (simp only [z_nat, z_lit, ← Int32.ofInt_add, ← Int32.ofInt_sub, ← Int32.ofInt_mul]; exact congrArg Int32.ofInt (by omega)) | (simp only [z_nat, z_lit, ← Int32.ofInt_add, ← Int32.ofInt_sub, ← Int32.ofInt_mul]; done) | exact congrArg Int32.ofInt (by omega) | rfl), by (dsimp only; omega), gt, ?_⟩
      refine ⟨bE n, Int32.ofInt (toE t n (bE n) (t 1 0) (-1) + ptE t n (bE n) (bR n) (t 1 0) (-1)), by (first | assumption | (simp only [z_nat, z_lit, ← Int32.ofInt_add, ← Int32.ofInt_sub, ← Int32.ofInt_mul]; exact congrArg Int32.ofInt (by omega)) | (simp only [z_nat, z_lit, ← Int32.ofInt_add, ← Int32.ofInt_sub, ← Int32.ofInt_mul]; done) | exact congrArg Int32.ofInt (by omega) | rfl), by (dsimp only; omega), by (first | assumption | (simp only [z_nat, z_lit, ← Int32.ofInt_add, ← Int32.ofInt_sub, ← Int32.ofInt_mul]; exact congrArg Int32.ofInt (by omega)) | (simp only [z_nat, z_lit, ← Int32.ofInt_add, ← Int32.ofInt_sub, ← Int32.ofInt_mul]; done) | exact congrArg Int32.ofInt (by omega) | rfl), ?_⟩
      have hf2 : q_fs [45, 49, 50] [] M1 (q_si (q_si (q_si M1 45 (16 * (6 * bE n + bR n)) (Int32.ofInt (ptE t n (bE n) (bR n) (t 1 0) (-1)))) 49 (bE n) (nI (gvN t n (bE n) + 1))) 50 (bE n) (Int32.ofInt (toE t n (bE n) (t 1 0) (-1) + ptE t n (bE n) (bR n) (t 1 0) (-1)))) := q_fs.rf.s1.s1.s1
      have s0 := gv_S0_43 g1 hJ q (hf2.c1 43) (hf2.c1 44) (hf2.c1 46) (hf2.c1 47) (fun i hi => q_si_n hi) q_si_s (fun i hi => q_si_n hi) q_si_s (fun i hi => q_si_n hi) q_si_s
      have C2 := g1.C.fs hf2
      obtain ⟨T, qu, hT, h8, hqu, eqT, hq⟩ := g1.qu q
      have ein : ∀ e, e < t 8 0 → inE (nGv n) e = inE n e := fun e he => inE_eq (gv_lo (by omega) (by omega))
      have qm : qMid 43 (q_si (q_si (q_si M1 45 (16 * (6 * bE n + bR n)) (Int32.ofInt (ptE t n (bE n) (bR n) (t 1 0) (-1)))) 49 (bE n) (nI (gvN t n (bE n) + 1))) 50 (bE n) (Int32.ofInt (toE t n (bE n) (t 1 0) (-1) + ptE t n (bE n) (bR n) (t 1 0) (-1)))) t (nGv n) := by
        have b7 := (hJ.2.2 q).2.1
        have b8 := (hJ.2.2 q).2.2
        have b2 := (hJ.2.2 q).1.2.1
        rw [eqT] at b8
        have b8 : inE n (qu T) = true := b8
        refine ⟨T, qu, inE n, (n 632).toNat, hT, h8, hqu, hq.of h6 (by omega) (fun i z1 z2 => gv_lo (by omega) (by omega)) (fun x hx z => z) (fun i hi => (hqu i (by omega) hi).2), fun e he z => by rw [ein e he] at z; exact z, b8, ?_, ?_, Or.inr ?_⟩
        · rw [gv_lo (by omega) (by omega)]
          omega
        · rw [gv_lo (by omega) (by omega)]
          exact eqT
        · rw [gv_32]
          omega
      refine k2_callNext_43 s0 C2 ⟨g.R.1, hW.1.1⟩ hW qm hg (fun M3 hf3 g3 => ⟨_, rfl, ?_⟩)
      exact hQ.2 _ _ rfl M3 ((hf1.mono.tr hf2.mono).tr hf3.mono) g3
    refine w_in 90 [92] ?_
    refine ⟨_, e1, ?_⟩
    refine z_ne (bE n : Int) (-1) (fun _ => ?_) (fun z => by omega)
    refine k2_boardSlot g hB ?_
    refine k2_isReady_43 g (hJ.D h6) (fun o => br_f (by decide) ?_) (fun o => br_t (by decide) ?_)
    · refine k2_countMarks g (bE n) (bR n) he hr ?_
      refine ⟨_, e1, ?_⟩
      refine k2_countPanel g (bE n) he ?_
      refine z_le (pnN t (bE n)) (mkN t n (bE n) (bR n)) (fun z => ?_) (fun z => ?_) (ha := by unfold pnN; omega) (hb := by unfold mkN; omega)
      · refine ⟨_, e1, ?_⟩
        refine ⟨_, e7, ?_⟩
        refine k2_seat_43 g (bE n) (bR n) he hr (fun M1 hf1 p => ?_)
        have hs := g.R.bs he hr
        have am := all_mk h11 hs (show ¬ mkN t n (bE n) (bR n) < pnN t (bE n) by omega)
        have hmk : ∀ j, j < t 2 0 → onE t (bE n) j = true → 0 ≤ mk n (bE n) (bR n) j := fun j hj ho => by
          have x := (hs.2.1 j (by omega)).1
          have y := am j hj ho
          omega
        refine p_score (g.f2 hf1).K p hmk (fun M2 hf2 _ => ?_)
        have ep : ptS t (onE t (bE n)) (cvt t (fun j => mk n (bE n) (bR n) j) (n (432 + (6 * bE n + bR n))) (n (468 + (6 * bE n + bR n))) (n (504 + (6 * bE n + bR n)))) (t 1 0) (t 7 (n (6 * bE n + bR n)).toNat) = ptE t n (bE n) (bR n) (t 1 0) (-1) := by
          unfold ptE
          rw [if_neg (by rw [o.2]; decide)]
          refine (ptS_cong (fun j hj => ?_)).symm
          unfold prt
          rw [decide_eq_false (p := (j : Int) = -1) (by omega)]
          cases w : onE t (bE n) j with
          | true =>
            rw [decide_eq_false (am j hj w)]
            rfl
          | false =>
            rw [decide_eq_true]
            · rfl
            · exact Classical.byContradiction (fun y => absurd (w.symm.trans ((hs.2.1 j (by omega)).2.2 y).2) (by decide))
        rw [ep]
        exact go (fun y => by omega) M2 (hf1.mono.tr hf2.mono)
      · refine ⟨_, rfl, ?_⟩
        rcases hR with ⟨-, rfl⟩ | ⟨-, hall, -⟩
        · exact hQ.1 rfl
        · exact absurd ⟨o, by omega⟩ hall
    · have hf := (g.R.bs he hr).2.2.2.2.2.1
      have : n (540 + (6 * bE n + bR n)) = 1 := hf.elim (fun z => absurd ⟨q, z⟩ o) id
      have ep : ptE t n (bE n) (bR n) (t 1 0) (-1) = 0 := if_pos this
      have G := go (fun y => o y.1) M q_fs.rf
      rw [ep] at G
      exact G
  · rw [brd_no q] at e1
    refine w_in 90 [92] ?_
    refine ⟨_, e1, ?_⟩
    refine z_ne (-1) (-1) (fun z => absurd rfl z) (fun _ => ⟨_, rfl, ?_⟩)
    rcases hR with ⟨-, rfl⟩ | ⟨z, -⟩
    · exact hQ.1 rfl
    · exact absurd z q
set_option maxRecDepth 100000 in
set_option maxHeartbeats 4000000 in
theorem k2_doOut_43 {R : aRs} (g : g_Z 43 M t n) (hJ : b_J t n) {a : Int32} (e : Nat) (he : e < t 8 0) (hR : isOt t n e R) (hQ : cQ 43 lC_43 fC M t R Q) (ha : a = nI e := by (first | assumption | (simp only [z_nat, z_lit, ← Int32.ofInt_add, ← Int32.ofInt_sub, ← Int32.ofInt_mul]; exact congrArg Int32.ofInt (by omega)) | (simp only [z_nat, z_lit, ← Int32.ofInt_add, ← Int32.ofInt_sub, ← Int32.ofInt_mul]; done) | exact congrArg Int32.ofInt (by omega) | rfl)) : q_C q_mt (L, xs, q_shp) E nX6_doOut (d + 3) 0 0 [.ref 242, .int (a)] M Q := by
  subst ha
  have h6 := g.R.e6
  have h7 := g.R.r6
  have h11 := g.R.j11
  have e1 := g.dv
  have fin : ¬ (isB t n ∧ inE n e = true) → Q (some (.int (Int32.ofInt (-3)))) M := fun z => by
    rcases hR with ⟨-, rfl⟩ | ⟨y, -⟩
    · exact hQ.1 rfl
    · exact absurd y z
  by_cases q : isB t n
  · have hB := hJ.B h6 q
    have heB := hB.2.1
    have b32 := hB.2.2.2.2
    rw [brd_at hB] at e1
    refine w_in 90 [48] ?_
    refine ⟨_, e1, ?_⟩
    refine z_eq (bE n : Int) (-1) (fun z => by omega) (fun _ => ?_)
    refine k2_isIn_43 g e he (fun hi => bn_t (by decide) ?_) (fun hi => bn_f (by decide) ⟨_, rfl, fin (fun z => by rw [hi] at z; cases z.2)⟩)
    rcases hR with ⟨z, -⟩ | ⟨-, n', hg, rfl⟩
    · exact absurd ⟨q, hi⟩ z
    have hW := ot_W hJ g.R q he
    have eo : ∀ i, ¬ i = 612 + e → nOt n e i = n i := fun i hi => up_n hi
    have hf1 : q_fs [46] [] M (q_si M 46 e (Int32.ofInt 7)) := q_fs.rf.s1
    have s0 : g_S0 43 (q_si M 46 e (Int32.ofInt 7)) t (nOt n e) := by
      obtain ⟨z1, z2, z3, z4, -⟩ := g.S
      refine ⟨fun s hs => ?_, fun s hs => ?_, fun x hx => ?_, ?_⟩
      · refine (z1 s hs).trans ?_
        unfold lS
        rw [eo s (by omega)]
      · have ep : pS t (nOt n e) s = pS t n s := by
          unfold pS
          rw [eo (576 + s) (by omega), ptE_lo (n := n) (by omega) (by omega) h11 (fun k hk => eo k (by omega))]
        rw [ep, eo (540 + s) (by omega), eo (432 + s) (by omega), eo (468 + s) (by omega), eo (504 + s) (by omega)]
        refine ⟨(z2 s hs).1, fun j hj => ?_⟩
        rw [eo (36 + 11 * s + j) (by omega)]
        exact (z2 s hs).2 j hj
      · obtain ⟨d1, d2, d3, d4⟩ := z3 x hx
        refine ⟨?_, ?_, ?_, ?_⟩
        · show (q_si M 46 e (Int32.ofInt 7)).1 46 x = _
          by_cases w : x = e
          · subst w
            rw [q_si_s, show nOt n x (612 + x) = 7 from up_s]
          · rw [q_si_n w, eo _ (by omega)]
            exact d1
        · refine Eq.trans d2 ?_
          unfold bS
          rw [eo (618 + x) (by omega)]
        · refine Eq.trans d3 ?_
          unfold gS
          rw [gvN_eq (n' := nOt n e) (n := n) (fun r hr => by
            by_cases w : 576 + (6 * x + r) = 612 + e
            · omega
            · exact eo _ w)]
        · refine Eq.trans d4 ?_
          unfold tS
          rw [toE_cg (n' := nOt n e) (n := n) hx h7 h11 (fun k hk => eo k (by omega)) (eo _ (by omega))]
      · show M.1 43 7 = _
        rw [eo 631 (by omega)]
        exact z4
    have C1 := g.C.fs hf1
    have ba1 : b_A t (nOt n e) := ⟨g.R.1, hW.1.1⟩
    have hne : inE (nOt n e) e = false := by
      unfold inE
      rw [show nOt n e (612 + e) = 7 from up_s]
      decide
    obtain ⟨T, qu, hT, h8, hqu, eqT, hq⟩ := g.qu q
    have b7 := (hJ.2.2 q).2.1
    have b8 := (hJ.2.2 q).2.2
    have b2 := (hJ.2.2 q).1.2.1
    have b8' : inE n (qu T) = true := by
      rw [eqT] at b8
      exact b8
    have ebT : bE n = qu T := by
      have := b32.2.2
      omega
    have ein : ∀ x, x < t 8 0 → inE (nOt n e) x = true → inE n x = true := fun x hx z => by
      by_cases y : x = e
      · subst y
        rw [hne] at z
        cases z
      · rw [inE_eq (eo _ (by omega))] at z
        exact z
    have hn' : inN t n' ≤ t 8 0 := fb_ct_le _ _
    refine ⟨e, _, by (first | assumption | (simp only [z_nat, z_lit, ← Int32.ofInt_add, ← Int32.ofInt_sub, ← Int32.ofInt_mul]; exact congrArg Int32.ofInt (by omega)) | (simp only [z_nat, z_lit, ← Int32.ofInt_add, ← Int32.ofInt_sub, ← Int32.ofInt_mul]; done) | exact congrArg Int32.ofInt (by omega) | rfl), by (dsimp only; omega), rfl, ?_⟩
    have e1' : (q_si M 46 e (Int32.ofInt 7)).1 43 9 = nI (bE n) := e1
    refine ⟨_, e1', ?_⟩
    refine z_ne (bE n : Int) (e : Int) (fun hd => ?_) (fun hd => ?_)
    · -- somebody else is at the board: he stays there
      have hd' : ¬ bE n = e := fun z => hd (by omega)
      have hin2 : inE (nOt n e) (qu T) = true := by rw [inE_eq (eo _ (by omega))]; exact b8'
      have hpos : ¬ inN t (nOt n e) = 0 := fun z => by
        have := inN_no z (qu T) (by omega)
        rw [hin2] at this
        cases this
      have en : n' = nOt n e := by
        rcases hg with ⟨z, -⟩ | ⟨-, k, ⟨k1, k2, k3, k4⟩, rfl⟩ | ⟨-, z, -⟩
        · exact absurd z hpos
        · rw [eo 632 (by omega)] at k1 k4
          obtain rfl : k = (n 632).toNat := Classical.byContradiction (fun y => by
            have := k4 (n 632).toNat (Nat.le_refl _) (by omega)
            rw [show ((nOt n e) (624 + (n 632).toNat)).toNat = qu T by show (nOt n e (624 + (n 632).toNat)).toNat = qu T; rw [eo _ (by omega), eqT]; rfl, hin2] at this
            cases this)
          funext i
          by_cases y : i = 632
          · rw [y, up_s, eo 632 (by omega)]
            omega
          · rw [up_n y]
        · have := z (n 632).toNat (by rw [eo 632 (by omega)]; exact Nat.le_refl _) (by rw [eo 630 (by omega)]; omega)
          rw [show ((nOt n e) (624 + (n 632).toNat)).toNat = qu T by show (nOt n e (624 + (n 632).toNat)).toNat = qu T; rw [eo _ (by omega), eqT]; rfl, hin2] at this
          cases this
      subst en
      have g2 : g_Z 43 (q_si M 46 e (Int32.ofInt 7)) t (nOt n e) := ⟨ba1, C1, s0.S (by
        refine e1'.trans ?_
        unfold brd
        rw [eo 633 (by omega), if_neg (fun z => z.elim q.1 q.2), eo 632 (by omega), eo (624 + (n 632).toNat) (by omega), b32.2.2]
        rfl) (fun _ => ⟨T, qu, hT, h8, hqu, by rw [eo 632 (by omega), eo _ (by omega)]; exact eqT, hq.of h6 (by omega) (fun i z1 z2 => eo i (by omega)) ein (fun i hi => (hqu i (by omega) hi).2)⟩)⟩
      refine w_at 90 [48] ?_
      refine k2_countIn_43 g2 ⟨_, rfl, ?_⟩
      exact hQ.2 _ _ rfl _ hf1.mono g2
    · obtain rfl : e = bE n := by omega
      have qm : qMid 43 (q_si M 46 (bE n) (Int32.ofInt 7)) t (nOt n (bE n)) := by
        refine ⟨T, qu, inE n, (n 632).toNat, hT, h8, hqu, hq.of h6 (by omega) (fun i z1 z2 => eo i (by omega)) (fun x hx z => z) (fun i hi => (hqu i (by omega) hi).2), ein, b8', ?_, ?_, Or.inl ⟨?_, by rw [← ebT]; exact hne⟩⟩
        · rw [eo _ (by omega)]
          omega
        · rw [eo _ (by omega)]
          exact eqT
        · rw [eo _ (by omega)]
          omega
      refine k2_callNext_43 s0 C1 ba1 hW qm hg (fun M3 hf3 g3 => ?_)
      refine w_at 90 [48] ?_
      refine k2_countIn_43 g3 ⟨_, rfl, ?_⟩
      exact hQ.2 _ _ rfl M3 (hf1.mono.tr hf3.mono) g3
  · rw [brd_no q] at e1
    refine w_in 90 [48] ?_
    refine ⟨_, e1, ?_⟩
    exact z_eq (-1) (-1) (fun _ => ⟨_, rfl, fin (fun z => q z.1)⟩) (fun z => absurd rfl z)
abbrev lC_257 : List Nat := [257, 259, 260, 261, 262, 263, 264, 266, 239, 240, 241]
/-- the State between a given dive and the next one -/
theorem gv_S0_257 {M' : q_M} (g : g_Z 257 M t n) (hJ : b_J t n) (q : isB t n) (e0 : M'.1 257 = M.1 257) (e1 : M'.1 258 = M.1 258) (e3 : M'.1 260 = M.1 260) (e4 : M'.1 261 = M.1 261) (h2 : ∀ i, ¬ i = 16 * (6 * bE n + bR n) → M'.1 259 i = M.1 259 i) (h2' : M'.1 259 (16 * (6 * bE n + bR n)) = Int32.ofInt (ptE t n (bE n) (bR n) (t 1 0) (-1))) (h6 : ∀ i, ¬ i = bE n → M'.1 263 i = M.1 263 i) (h6' : M'.1 263 (bE n) = nI (gvN t n (bE n) + 1)) (h7 : ∀ i, ¬ i = bE n → M'.1 264 i = M.1 264 i) (h7' : M'.1 264 (bE n) = Int32.ofInt (toE t n (bE n) (t 1 0) (-1) + ptE t n (bE n) (bR n) (t 1 0) (-1))) : g_S0 257 M' t (nGv n) := by
  have k6 := g.R.e6
  have k7 := g.R.r6
  have h11 := g.R.j11
  have hB := hJ.B k6 q
  have he := hB.2.1
  have hr := hB.2.2.1
  have a := hJ.at k6 hB
  have s36 : (6 * bE n + bR n) < 36 := by omega
  have gN := gv_N hJ g.R q
  have lo : ∀ k, k < 576 → nGv n k = n k := fun k hk => gv_lo (by omega) (by omega)
  obtain ⟨z1, z2, z3, z4, -⟩ := g.S
  refine ⟨fun s hs => ?_, fun s hs => ?_, fun e he' => ?_, ?_⟩
  · show M'.1 258 s = _
    rw [e1]
    refine (z1 s hs).trans ?_
    unfold lS
    rw [lo s (by omega)]
  · show (M'.1 259 _ = _ ∧ M'.1 259 _ = _ ∧ M'.1 259 _ = _ ∧ M'.1 259 _ = _ ∧ M'.1 259 _ = _) ∧ ∀ j, j < 11 → M'.1 259 _ = _
    obtain ⟨⟨y1, y2, y3, y4, y5⟩, y6⟩ := z2 s hs
    rw [lo (540 + s) (by omega), lo (432 + s) (by omega), lo (468 + s) (by omega), lo (504 + s) (by omega), h2 (16 * s + 1) (by omega), h2 (16 * s + 2) (by omega), h2 (16 * s + 3) (by omega), h2 (16 * s + 4) (by omega)]
    refine ⟨⟨?_, y2, y3, y4, y5⟩, fun j hj => ?_⟩
    · unfold pS
      rw [ptE_lo (n := n) (by omega) (by omega) h11 lo]
      by_cases w : s = (6 * bE n + bR n)
      · subst w
        rw [h2', gv_gv s36, if_pos rfl, show (6 * bE n + bR n) / 6 = bE n by omega, show (6 * bE n + bR n) % 6 = bR n by omega]
      · rw [h2 _ (by omega), gv_lo (by omega) (by omega)]
        exact y1
    · rw [h2 _ (by omega), lo (36 + 11 * s + j) (by omega)]
      exact y6 j hj
  · show M'.1 260 e = _ ∧ M'.1 261 e = _ ∧ M'.1 263 e = _ ∧ M'.1 264 e = _
    obtain ⟨y1, y2, y3, y4⟩ := z3 e he'
    rw [e3, e4, gv_lo (i := 612 + e) (by omega) (by omega)]
    refine ⟨y1, ?_, ?_, ?_⟩
    · refine y2.trans ?_
      unfold bS
      rw [gv_lo (i := 618 + e) (by omega) (by omega)]
    · by_cases w : e = bE n
      · subst w
        rw [h6']
        unfold gS
        rw [if_pos he, gN.1]
      · rw [h6 e w]
        refine y3.trans ?_
        unfold gS
        by_cases w2 : e < t 8 0
        · rw [if_pos w2, if_pos w2, gN.2 e w2 w]
        · rw [if_neg w2, if_neg w2]
    · by_cases w : e = bE n
      · subst w
        rw [h7']
        unfold tS
        rw [if_pos he]
        congr 1
        unfold toE
        rw [si_upd (f := tof t n (bE n) (t 1 0) (-1)) (f' := tof t (nGv n) (bE n) (t 1 0) (-1)) hr (fun i hi hne => ?_)]
        · have t0 : tof t n (bE n) (t 1 0) (-1) (bR n) = 0 := by
            unfold tof
            rw [if_neg (by omega)]
          have t1 : tof t (nGv n) (bE n) (t 1 0) (-1) (bR n) = ptE t n (bE n) (bR n) (t 1 0) (-1) := by
            unfold tof
            rw [gv_gv s36, gv_lo (i := 618 + bE n) (by omega) (by omega), if_pos ⟨a.2.2.2, rfl⟩]
            exact ptE_lo (by omega) (by omega) h11 lo
          rw [t0, t1]
          omega
        · unfold tof
          rw [gv_lo (i := 618 + bE n) (by omega) (by omega), gv_lo (i := 576 + (6 * bE n + i)) (by omega) (by omega), ptE_lo (n := n) (by omega) (by omega) h11 lo]
      · rw [h7 e w]
        refine y4.trans ?_
        unfold tS
        by_cases w2 : e < t 8 0
        · rw [if_pos w2, if_pos w2]
          congr 1
          unfold toE
          refine fb_si_cong (fun i hi => ?_)
          unfold tof
          rw [gv_lo (i := 618 + e) (by omega) (by omega), gv_lo (i := 576 + (6 * e + i)) (by omega) (by omega), ptE_lo (n := n) (by omega) (by omega) h11 lo]
        · rw [if_neg w2, if_neg w2]
  · show M'.1 257 7 = _
    rw [e0, gv_lo (by omega) (by omega)]
    exact z4
set_option maxRecDepth 100000 in
set_option maxHeartbeats 4000000 in
theorem k2_doGive_257 {R : aRs} (g : g_Z 257 M t n) (hJ : b_J t n) (hR : isGv t n R) (hQ : cQ 257 lC_257 fC M t R Q) : q_C q_mt (L, xs, q_shp) E nX6_doGive (d + 4) 0 0 [.ref 265] M Q := by
  have h6 := g.R.e6
  have h7 := g.R.r6
  have h11 := g.R.j11
  have e1 := g.dv
  by_cases q : isB t n
  · have hB := hJ.B h6 q
    have he := hB.2.1
    have hr := hB.2.2.1
    have h31 := hB.2.2.2.1
    have b32 := hB.2.2.2.2
    have s36 : (6 * bE n + bR n) < 36 := by omega
    have hp := ptE_c g.R (dr := t 1 0) (bar := -1) he hr
    have ht := toE_c g.R (dr := t 1 0) (bar := -1) he
    have m1 := fb_ct_le (mkd n (bE n) (bR n)) (t 2 0)
    have p1 := fb_ct_le (fun j => onP t j (bE n)) (t 2 0)
    rw [brd_at hB] at e1
    have e7 : M.1 257 7 = nI (bR n + 1) := by
      have := g.rn
      rw [h31] at this
      exact this
    have gvb : gvN t n (bE n) ≤ 6 := Nat.le_trans (fb_ct_le _ _) h7
    have go : (¬ (isO t n ∧ mkN t n (bE n) (bR n) < pnN t (bE n))) → ∀ M1, q_fs [239, 240, 241] fC M M1 → q_G q_mt (L, xs, q_shp) E nX6_doGive (d + 4) 0 0 (q_Q (L, xs, q_shp) E Q) 92 [some (.ref 265), some (.int (nI (16 * (6 * bE n + bR n)))), some (.int (Int32.ofInt (ptE t n (bE n) (bR n) (t 1 0) (-1))))] [] M1 := by
      intro hall M1 hf1
      rcases hR with ⟨z, -⟩ | ⟨-, -, n', hg, rfl⟩
      · exact absurd z (fun y => y.elim (fun w => w q) hall)
      have hW := gv_W hJ g.R q hall
      have g1 : g_Z 257 M1 t n := g.f2 hf1
      have d1 := g1.dv
      rw [brd_at hB] at d1
      have gi := g1.gi he
      have gt := g1.to he
      have d1' : (q_si M1 259 (16 * (6 * bE n + bR n)) (Int32.ofInt (ptE t n (bE n) (bR n) (t 1 0) (-1)))).1 257 9 = nI (bE n) := d1
      refine w_at 90 [92] ?_
      refine ⟨16 * (6 * bE n + bR n), _, by (first | assumption | (simp only [z_nat, z_lit, ← Int32.ofInt_add, ← Int32.ofInt_sub, ← Int32.ofInt_mul]; exact congrArg Int32.ofInt (by omega)) | (simp only [z_nat, z_lit, ← Int32.ofInt_add, ← Int32.ofInt_sub, ← Int32.ofInt_mul]; done) | exact congrArg Int32.ofInt (by omega) | rfl), by (dsimp only; omega), rfl, ?_⟩
      refine ⟨_, d1', ?_⟩
      refine ⟨bE n, _, by (first | assumption | (simp only [z_nat, z_lit, ← Int32.ofInt_add, ← Int32.ofInt_sub, ← Int32.ofInt_mul]; exact congrArg Int32.ofInt (by omega)) | (simp only [z_nat, z_lit, ← Int32.ofInt_add, ← Int32.ofInt_sub, ← Int32.ofInt_mul]; done) | exact congrArg Int32.ofInt (by omega) | rfl), by (dsimp only; omega), gi, ?_⟩
      refine ⟨bE n, nI (gvN t n (bE n) + 1), by (first | assumption | (simp only [z_nat, z_lit, ← Int32.ofInt_add, ← Int32.ofInt_sub, ← Int32.ofInt_mul]; exact congrArg Int32.ofInt (by omega)) | (simp only [z_nat, z_lit, ← Int32.ofInt_add, ← Int32.ofInt_sub, ← Int32.ofInt_mul]; done) | exact congrArg Int32.ofInt (by omega) | rfl), by (dsimp only; omega), by (first | assumption | (simp only [z_nat, z_lit, ← Int32.ofInt_add, ← Int32.ofInt_sub, ← Int32.ofInt_mul]; exact congrArg Int32.ofInt (by omega)) | (simp only [z_nat, z_lit, ← Int32.ofInt_add, ← Int32.ofInt_sub, ← Int32.ofInt_mul]; done) | exact congrArg Int32.ofInt (by omega) | rfl), ?_⟩
      refine ⟨_, d1', ?_⟩
      refine ⟨bE n, _, by (first | assumption | (simp only [z_nat, z_lit, ← Int32.ofInt_add, ← Int32.ofInt_sub, ← Int32.ofInt_mul]; exact congrArg Int32.ofInt (by omega)) | (simp only [z_nat, z_lit, ← Int32.ofInt_add, ← Int32.ofInt_sub, ← Int32.ofInt_mul]; done) | exact congrArg Int32.ofInt (by omega) | rfl), by (dsimp only; omega), gt, ?_⟩
      refine ⟨bE n, Int32.ofInt (toE t n (bE n) (t 1 0) (-1) + ptE t n (bE n) (bR n) (t 1 0) (-1)), by (first | assumption | (simp only [z_nat, z_lit, ← Int32.ofInt_add, ← Int32.ofInt_sub, ← Int32.ofInt_mul]; exact congrArg Int32.ofInt (by omega)) | (simp only [z_nat, z_lit, ← Int32.ofInt_add, ← Int32.ofInt_sub, ← Int32.ofInt_mul]; done) | exact congrArg Int32.ofInt (by omega) | rfl), by (dsimp only; omega), by (first | assumption | (simp only [z_nat, z_lit, ← Int32.ofInt_add, ← Int32.ofInt_sub, ← Int32.ofInt_mul]; exact congrArg Int32.ofInt (by omega)) | (simp only [z_nat, z_lit, ← Int32.ofInt_add, ← Int32.ofInt_sub, ← Int32.ofInt_mul]; done) | exact congrArg Int32.ofInt (by omega) | rfl), ?_⟩
      have hf2 : q_fs [259, 263, 264] [] M1 (q_si (q_si (q_si M1 259 (16 * (6 * bE n + bR n)) (Int32.ofInt (ptE t n (bE n) (bR n) (t 1 0) (-1)))) 263 (bE n) (nI (gvN t n (bE n) + 1))) 264 (bE n) (Int32.ofInt (toE t n (bE n) (t 1 0) (-1) + ptE t n (bE n) (bR n) (t 1 0) (-1)))) := q_fs.rf.s1.s1.s1
      have s0 := gv_S0_257 g1 hJ q (hf2.c1 257) (hf2.c1 258) (hf2.c1 260) (hf2.c1 261) (fun i hi => q_si_n hi) q_si_s (fun i hi => q_si_n hi) q_si_s (fun i hi => q_si_n hi) q_si_s
      have C2 := g1.C.fs hf2
      obtain ⟨T, qu, hT, h8, hqu, eqT, hq⟩ := g1.qu q
      have ein : ∀ e, e < t 8 0 → inE (nGv n) e = inE n e := fun e he => inE_eq (gv_lo (by omega) (by omega))
      have qm : qMid 257 (q_si (q_si (q_si M1 259 (16 * (6 * bE n + bR n)) (Int32.ofInt (ptE t n (bE n) (bR n) (t 1 0) (-1)))) 263 (bE n) (nI (gvN t n (bE n) + 1))) 264 (bE n) (Int32.ofInt (toE t n (bE n) (t 1 0) (-1) + ptE t n (bE n) (bR n) (t 1 0) (-1)))) t (nGv n) := by
        have b7 := (hJ.2.2 q).2.1
        have b8 := (hJ.2.2 q).2.2
        have b2 := (hJ.2.2 q).1.2.1
        rw [eqT] at b8
        have b8 : inE n (qu T) = true := b8
        refine ⟨T, qu, inE n, (n 632).toNat, hT, h8, hqu, hq.of h6 (by omega) (fun i z1 z2 => gv_lo (by omega) (by omega)) (fun x hx z => z) (fun i hi => (hqu i (by omega) hi).2), fun e he z => by rw [ein e he] at z; exact z, b8, ?_, ?_, Or.inr ?_⟩
        · rw [gv_lo (by omega) (by omega)]
          omega
        · rw [gv_lo (by omega) (by omega)]
          exact eqT
        · rw [gv_32]
          omega
      refine k2_callNext_257 s0 C2 ⟨g.R.1, hW.1.1⟩ hW qm hg (fun M3 hf3 g3 => ⟨_, rfl, ?_⟩)
      exact hQ.2 _ _ rfl M3 ((hf1.mono.tr hf2.mono).tr hf3.mono) g3
    refine w_in 90 [92] ?_
    refine ⟨_, e1, ?_⟩
    refine z_ne (bE n : Int) (-1) (fun _ => ?_) (fun z => by omega)
    refine k2_boardSlot_257 g hB ?_
    refine k2_isReady_257 g (hJ.D h6) (fun o => br_f (by decide) ?_) (fun o => br_t (by decide) ?_)
    · refine k2_countMarks_257 g (bE n) (bR n) he hr ?_
      refine ⟨_, e1, ?_⟩
      refine k2_countPanel g (bE n) he ?_
      refine z_le (pnN t (bE n)) (mkN t n (bE n) (bR n)) (fun z => ?_) (fun z => ?_) (ha := by unfold pnN; omega) (hb := by unfold mkN; omega)
      · refine ⟨_, e1, ?_⟩
        refine ⟨_, e7, ?_⟩
        refine k2_seat_257 g (bE n) (bR n) he hr (fun M1 hf1 p => ?_)
        have hs := g.R.bs he hr
        have am := all_mk h11 hs (show ¬ mkN t n (bE n) (bR n) < pnN t (bE n) by omega)
        have hmk : ∀ j, j < t 2 0 → onE t (bE n) j = true → 0 ≤ mk n (bE n) (bR n) j := fun j hj ho => by
          have x := (hs.2.1 j (by omega)).1
          have y := am j hj ho
          omega
        refine p_score (g.f2 hf1).K p hmk (fun M2 hf2 _ => ?_)
        have ep : ptS t (onE t (bE n)) (cvt t (fun j => mk n (bE n) (bR n) j) (n (432 + (6 * bE n + bR n))) (n (468 + (6 * bE n + bR n))) (n (504 + (6 * bE n + bR n)))) (t 1 0) (t 7 (n (6 * bE n + bR n)).toNat) = ptE t n (bE n) (bR n) (t 1 0) (-1) := by
          unfold ptE
          rw [if_neg (by rw [o.2]; decide)]
          refine (ptS_cong (fun j hj => ?_)).symm
          unfold prt
          rw [decide_eq_false (p := (j : Int) = -1) (by omega)]
          cases w : onE t (bE n) j with
          | true =>
            rw [decide_eq_false (am j hj w)]
            rfl
          | false =>
            rw [decide_eq_true]
            · rfl
            · exact Classical.byContradiction (fun y => absurd (w.symm.trans ((hs.2.1 j (by omega)).2.2 y).2) (by decide))
        rw [ep]
        exact go (fun y => by omega) M2 (hf1.mono.tr hf2.mono)
      · refine ⟨_, rfl, ?_⟩
        rcases hR with ⟨-, rfl⟩ | ⟨-, hall, -⟩
        · exact hQ.1 rfl
        · exact absurd ⟨o, by omega⟩ hall
    · have hf := (g.R.bs he hr).2.2.2.2.2.1
      have : n (540 + (6 * bE n + bR n)) = 1 := hf.elim (fun z => absurd ⟨q, z⟩ o) id
      have ep : ptE t n (bE n) (bR n) (t 1 0) (-1) = 0 := if_pos this
      have G := go (fun y => o y.1) M q_fs.rf
      rw [ep] at G
      exact G
  · rw [brd_no q] at e1
    refine w_in 90 [92] ?_
    refine ⟨_, e1, ?_⟩
    refine z_ne (-1) (-1) (fun z => absurd rfl z) (fun _ => ⟨_, rfl, ?_⟩)
    rcases hR with ⟨-, rfl⟩ | ⟨z, -⟩
    · exact hQ.1 rfl
    · exact absurd z q
set_option maxRecDepth 100000 in
set_option maxHeartbeats 4000000 in
theorem k2_doOut_257 {R : aRs} (g : g_Z 257 M t n) (hJ : b_J t n) {a : Int32} (e : Nat) (he : e < t 8 0) (hR : isOt t n e R) (hQ : cQ 257 lC_257 fC M t R Q) (ha : a = nI e := by (first | assumption | (simp only [z_nat, z_lit, ← Int32.ofInt_add, ← Int32.ofInt_sub, ← Int32.ofInt_mul]; exact congrArg Int32.ofInt (by omega)) | (simp only [z_nat, z_lit, ← Int32.ofInt_add, ← Int32.ofInt_sub, ← Int32.ofInt_mul]; done) | exact congrArg Int32.ofInt (by omega) | rfl)) : q_C q_mt (L, xs, q_shp) E nX6_doOut (d + 3) 0 0 [.ref 265, .int (a)] M Q := by
  subst ha
  have h6 := g.R.e6
  have h7 := g.R.r6
  have h11 := g.R.j11
  have e1 := g.dv
  have fin : ¬ (isB t n ∧ inE n e = true) → Q (some (.int (Int32.ofInt (-3)))) M := fun z => by
    rcases hR with ⟨-, rfl⟩ | ⟨y, -⟩
    · exact hQ.1 rfl
    · exact absurd y z
  by_cases q : isB t n
  · have hB := hJ.B h6 q
    have heB := hB.2.1
    have b32 := hB.2.2.2.2
    rw [brd_at hB] at e1
    refine w_in 90 [48] ?_
    refine ⟨_, e1, ?_⟩
    refine z_eq (bE n : Int) (-1) (fun z => by omega) (fun _ => ?_)
    refine k2_isIn_257 g e he (fun hi => bn_t (by decide) ?_) (fun hi => bn_f (by decide) ⟨_, rfl, fin (fun z => by rw [hi] at z; cases z.2)⟩)
    rcases hR with ⟨z, -⟩ | ⟨-, n', hg, rfl⟩
    · exact absurd ⟨q, hi⟩ z
    have hW := ot_W hJ g.R q he
    have eo : ∀ i, ¬ i = 612 + e → nOt n e i = n i := fun i hi => up_n hi
    have hf1 : q_fs [260] [] M (q_si M 260 e (Int32.ofInt 7)) := q_fs.rf.s1
    have s0 : g_S0 257 (q_si M 260 e (Int32.ofInt 7)) t (nOt n e) := by
      obtain ⟨z1, z2, z3, z4, -⟩ := g.S
      refine ⟨fun s hs => ?_, fun s hs => ?_, fun x hx => ?_, ?_⟩
      · refine (z1 s hs).trans ?_
        unfold lS
        rw [eo s (by omega)]
      · have ep : pS t (nOt n e) s = pS t n s := by
          unfold pS
          rw [eo (576 + s) (by omega), ptE_lo (n := n) (by omega) (by omega) h11 (fun k hk => eo k (by omega))]
        rw [ep, eo (540 + s) (by omega), eo (432 + s) (by omega), eo (468 + s) (by omega), eo (504 + s) (by omega)]
        refine ⟨(z2 s hs).1, fun j hj => ?_⟩
        rw [eo (36 + 11 * s + j) (by omega)]
        exact (z2 s hs).2 j hj
      · obtain ⟨d1, d2, d3, d4⟩ := z3 x hx
        refine ⟨?_, ?_, ?_, ?_⟩
        · show (q_si M 260 e (Int32.ofInt 7)).1 260 x = _
          by_cases w : x = e
          · subst w
            rw [q_si_s, show nOt n x (612 + x) = 7 from up_s]
          · rw [q_si_n w, eo _ (by omega)]
            exact d1
        · refine Eq.trans d2 ?_
          unfold bS
          rw [eo (618 + x) (by omega)]
        · refine Eq.trans d3 ?_
          unfold gS
          rw [gvN_eq (n' := nOt n e) (n := n) (fun r hr => by
            by_cases w : 576 + (6 * x + r) = 612 + e
            · omega
            · exact eo _ w)]
        · refine Eq.trans d4 ?_
          unfold tS
          rw [toE_cg (n' := nOt n e) (n := n) hx h7 h11 (fun k hk => eo k (by omega)) (eo _ (by omega))]
      · show M.1 257 7 = _
        rw [eo 631 (by omega)]
        exact z4
    have C1 := g.C.fs hf1
    have ba1 : b_A t (nOt n e) := ⟨g.R.1, hW.1.1⟩
    have hne : inE (nOt n e) e = false := by
      unfold inE
      rw [show nOt n e (612 + e) = 7 from up_s]
      decide
    obtain ⟨T, qu, hT, h8, hqu, eqT, hq⟩ := g.qu q
    have b7 := (hJ.2.2 q).2.1
    have b8 := (hJ.2.2 q).2.2
    have b2 := (hJ.2.2 q).1.2.1
    have b8' : inE n (qu T) = true := by
      rw [eqT] at b8
      exact b8
    have ebT : bE n = qu T := by
      have := b32.2.2
      omega
    have ein : ∀ x, x < t 8 0 → inE (nOt n e) x = true → inE n x = true := fun x hx z => by
      by_cases y : x = e
      · subst y
        rw [hne] at z
        cases z
      · rw [inE_eq (eo _ (by omega))] at z
        exact z
    have hn' : inN t n' ≤ t 8 0 := fb_ct_le _ _
    refine ⟨e, _, by (first | assumption | (simp only [z_nat, z_lit, ← Int32.ofInt_add, ← Int32.ofInt_sub, ← Int32.ofInt_mul]; exact congrArg Int32.ofInt (by omega)) | (simp only [z_nat, z_lit, ← Int32.ofInt_add, ← Int32.ofInt_sub, ← Int32.ofInt_mul]; done) | exact congrArg Int32.ofInt (by omega) | rfl), by (dsimp only; omega), rfl, ?_⟩
    have e1' : (q_si M 260 e (Int32.ofInt 7)).1 257 9 = nI (bE n) := e1
    refine ⟨_, e1', ?_⟩
    refine z_ne (bE n : Int) (e : Int) (fun hd => ?_) (fun hd => ?_)
    · -- somebody else is at the board: he stays there
      have hd' : ¬ bE n = e := fun z => hd (by omega)
      have hin2 : inE (nOt n e) (qu T) = true := by rw [inE_eq (eo _ (by omega))]; exact b8'
      have hpos : ¬ inN t (nOt n e) = 0 := fun z => by
        have := inN_no z (qu T) (by omega)
        rw [hin2] at this
        cases this
      have en : n' = nOt n e := by
        rcases hg with ⟨z, -⟩ | ⟨-, k, ⟨k1, k2, k3, k4⟩, rfl⟩ | ⟨-, z, -⟩
        · exact absurd z hpos
        · rw [eo 632 (by omega)] at k1 k4
          obtain rfl : k = (n 632).toNat := Classical.byContradiction (fun y => by
            have := k4 (n 632).toNat (Nat.le_refl _) (by omega)
            rw [show ((nOt n e) (624 + (n 632).toNat)).toNat = qu T by show (nOt n e (624 + (n 632).toNat)).toNat = qu T; rw [eo _ (by omega), eqT]; rfl, hin2] at this
            cases this)
          funext i
          by_cases y : i = 632
          · rw [y, up_s, eo 632 (by omega)]
            omega
          · rw [up_n y]
        · have := z (n 632).toNat (by rw [eo 632 (by omega)]; exact Nat.le_refl _) (by rw [eo 630 (by omega)]; omega)
          rw [show ((nOt n e) (624 + (n 632).toNat)).toNat = qu T by show (nOt n e (624 + (n 632).toNat)).toNat = qu T; rw [eo _ (by omega), eqT]; rfl, hin2] at this
          cases this
      subst en
      have g2 : g_Z 257 (q_si M 260 e (Int32.ofInt 7)) t (nOt n e) := ⟨ba1, C1, s0.S (by
        refine e1'.trans ?_
        unfold brd
        rw [eo 633 (by omega), if_neg (fun z => z.elim q.1 q.2), eo 632 (by omega), eo (624 + (n 632).toNat) (by omega), b32.2.2]
        rfl) (fun _ => ⟨T, qu, hT, h8, hqu, by rw [eo 632 (by omega), eo _ (by omega)]; exact eqT, hq.of h6 (by omega) (fun i z1 z2 => eo i (by omega)) ein (fun i hi => (hqu i (by omega) hi).2)⟩)⟩
      refine w_at 90 [48] ?_
      refine k2_countIn_257 g2 ⟨_, rfl, ?_⟩
      exact hQ.2 _ _ rfl _ hf1.mono g2
    · obtain rfl : e = bE n := by omega
      have qm : qMid 257 (q_si M 260 (bE n) (Int32.ofInt 7)) t (nOt n (bE n)) := by
        refine ⟨T, qu, inE n, (n 632).toNat, hT, h8, hqu, hq.of h6 (by omega) (fun i z1 z2 => eo i (by omega)) (fun x hx z => z) (fun i hi => (hqu i (by omega) hi).2), ein, b8', ?_, ?_, Or.inl ⟨?_, by rw [← ebT]; exact hne⟩⟩
        · rw [eo _ (by omega)]
          omega
        · rw [eo _ (by omega)]
          exact eqT
        · rw [eo _ (by omega)]
          omega
      refine k2_callNext_257 s0 C1 ba1 hW qm hg (fun M3 hf3 g3 => ?_)
      refine w_at 90 [48] ?_
      refine k2_countIn_257 g3 ⟨_, rfl, ?_⟩
      exact hQ.2 _ _ rfl M3 (hf1.mono.tr hf3.mono) g3
  · rw [brd_no q] at e1
    refine w_in 90 [48] ?_
    refine ⟨_, e1, ?_⟩
    exact z_eq (-1) (-1) (fun _ => ⟨_, rfl, fin (fun z => q z.1)⟩) (fun z => absurd rfl z)
end GW
