/-! drawn dives of the reference; the call wins -/
section WR
variable {L : Nat} {xs : Nat → Int32} {E : q_E} {d : Nat} {M : q_M} {t : q_T} {n : sN} {Q : Option Value → q_M → Prop} {P : q_M → Prop}
set_option maxRecDepth 100000 in
set_option maxHeartbeats 4000000 in
theorem k_draw (x : Nat) (hx : x ≤ 1000002) (h9 : M.1 271 48 = nI x) (hQ : Q (some (.int (nI (dN x % 5)))) (q_si M 271 48 (nI (dN x)))) : q_C q_mt (L, xs, q_shp) E nX12_draw (d) 0 0 [.ref 271, .int (Int32.ofInt 5)] M Q := by
  refine w_in 90 [] ?_
  refine ⟨_, h9, ?_⟩
  refine And.intro (by decide) ?_
  refine ⟨_, dr_l hx, ?_⟩
  refine ⟨_, q_si_s, ?_⟩
  refine And.intro (by decide) ?_
  exact ⟨_, dr_5 dN_b, hQ⟩
/-- the row while marks are drawn: the old marks stand from judge k on -/
def nRk (t : q_T) (n : sN) (x k : Nat) : sN := fun i => if 36 + 11 * (6 * bE n + bR n) + k ≤ i ∧ i < 47 + 11 * (6 * bE n + bR n) then n i else nDk t n x k i
theorem nR_sch {x k : Nat} : sch ((6 * bE n + bR n)) n (nRk t n x k) := fun i h1 h2 h3 h4 h5 => by
  unfold nRk
  rw [if_neg (by omega)]
  exact nD_sch i h1 h2 h3 h4 h5
theorem nR_N {x k : Nat} (hJ : b_J t n) (ba : b_A t n) (q : isB t n) (hk : k ≤ t 2 0) (hO : n (540 + (6 * bE n + bR n)) = 0 ∨ n (540 + (6 * bE n + bR n)) = 1) : b_N t (nRk t n x k) := by
  have h6 := ba.e6
  have h7 := ba.r6
  have h11 := ba.j11
  have hB := hJ.B h6 q
  have he := hB.2.1
  have hr := hB.2.2.1
  have s36 : (6 * bE n + bR n) < 36 := by omega
  have c := nD_c (t := t) (n := n) (x := x) (k := k) s36
  have eo : ∀ i, 432 ≤ i → nRk t n x k i = nDk t n x k i := fun i hi => if_neg (by omega)
  have hs := ba.bs he hr
  refine ba.bn.sch h6 h7 h11 he hr nR_sch (slot_of (by omega) (by omega) hs nR_sch (hJ.at h6 hB).2.1 (fun j hj => ?_) ?_ ?_ ?_ ?_ (fun z => ?_))
  · unfold nRk
    by_cases z : k ≤ j
    · rw [if_pos (by omega)]
      exact hs.2.1 j hj
    · rw [if_neg (by omega), nD_m s36 hj]
      have := mkD_b (t := t) (n := n) (x := x) (j := j)
      split
      · next z => exact ⟨by omega, by omega, fun _ => ⟨by omega, z.2⟩⟩
      · exact ⟨by omega, by omega, fun z => absurd rfl z⟩
  · rw [eo _ (by omega), c.1]; omega
  · rw [eo _ (by omega), c.2.1]; omega
  · rw [eo _ (by omega), c.2.2.1]; omega
  · rw [eo _ (by omega), c.2.2.2]; exact Or.inl rfl
  · rw [eo _ (by omega), c.2.2.2] at z
    omega
abbrev fX : List (Nat × Nat) := [(271, 48), (271, 36), (271, 37), (271, 38), (271, 39)]
set_option maxRecDepth 100000 in
set_option maxHeartbeats 4000000 in
theorem k_drawsDive {m : sN} (g : g_R M t n) (hJ : b_J t n) (q : isB t n) (x : Nat) (hx : x ≤ 1000002) (h9 : M.1 271 48 = nI x) (hg : isGo t (nGv (nDk t n x (t 2 0))) m) (hQ : ∀ M', q_fs lG fX M M' → g_R M' t m → M'.1 271 48 = nI (dK x (pnN t (bE n))) → Q none M') : q_C q_mt (L, xs, q_shp) E nX12_drawsDive (d + 14) 0 0 [.ref 271] M Q := by
  have h6 := g.e6
  have h7 := g.r6
  have h11 := g.j11
  have hB := hJ.B h6 q
  have he := hB.2.1
  have hr := hB.2.2.1
  have h31 := hB.2.2.2.1
  have s36 : (6 * bE n + bR n) < 36 := by omega
  have hs := g.bs he hr
  have fb := faw_b (t := t) (e := bE n) (i := bDv n)
  have dvi : Int32.ofInt (n ((6 * bE n + bR n))) = nI (bDv n) ∧ bDv n < t 5 0 := by
    have := hs.1
    refine ⟨?_, by unfold bDv; omega⟩
    rw [z_nat]
    unfold bDv
    exact congrArg Int32.ofInt (by omega)
  have off : ∀ j, j < 11 → onP t j (bE n) = false → n (36 + 11 * (6 * bE n + bR n) + j) = -1 := fun j hj ho => Classical.byContradiction (fun z => by
    have := ((hs.2.1 j hj).2.2 z).2
    rw [ho] at this
    cases this)
  have W := lp_m (W := fun k M' => ∀ v y, v = nI k → q_G q_mt (L, xs, q_shp) E nX12_drawsDive (d + 14) 0 0 (q_Q (L, xs, q_shp) E Q) 77 [some (.ref 271), some (.int (nI (bE n))), some (.int (nI ((6 * bE n + bR n)))), some (.int (Int32.ofInt (faw t (bE n) (bDv n)))), some (.int (v)), y] [] M') (J := fun k M' => q_fs [284] [(271, 48)] M M' ∧ r_N 284 0 M' (nRk t n x k) ∧ M'.1 271 48 = nI (dK x (fb_ct (fun i => onP t i (bE n)) k))) (t 2 0) ?_ ?_ 0
  · refine w_in 90 [77] ?_
    refine k_board g hJ q ?_
    refine k_roundNow g ?_
    refine k_slot (bE n) (bR n) ?_ (hb := by rw [h31]; rfl)
    refine ⟨432 + (6 * bE n + bR n), _, by (first | assumption | (simp only [z_nat, z_lit, ← Int32.ofInt_add, ← Int32.ofInt_sub, ← Int32.ofInt_mul]; exact congrArg Int32.ofInt (by omega)) | (simp only [z_nat, z_lit, ← Int32.ofInt_add, ← Int32.ofInt_sub, ← Int32.ofInt_mul]; done) | exact congrArg Int32.ofInt (by omega) | rfl), by (dsimp only; omega), rfl, ?_⟩
    refine ⟨468 + (6 * bE n + bR n), _, by (first | assumption | (simp only [z_nat, z_lit, ← Int32.ofInt_add, ← Int32.ofInt_sub, ← Int32.ofInt_mul]; exact congrArg Int32.ofInt (by omega)) | (simp only [z_nat, z_lit, ← Int32.ofInt_add, ← Int32.ofInt_sub, ← Int32.ofInt_mul]; done) | exact congrArg Int32.ofInt (by omega) | rfl), by (dsimp only; omega), rfl, ?_⟩
    refine ⟨504 + (6 * bE n + bR n), _, by (first | assumption | (simp only [z_nat, z_lit, ← Int32.ofInt_add, ← Int32.ofInt_sub, ← Int32.ofInt_mul]; exact congrArg Int32.ofInt (by omega)) | (simp only [z_nat, z_lit, ← Int32.ofInt_add, ← Int32.ofInt_sub, ← Int32.ofInt_mul]; done) | exact congrArg Int32.ofInt (by omega) | rfl), by (dsimp only; omega), rfl, ?_⟩
    refine ⟨540 + (6 * bE n + bR n), _, by (first | assumption | (simp only [z_nat, z_lit, ← Int32.ofInt_add, ← Int32.ofInt_sub, ← Int32.ofInt_mul]; exact congrArg Int32.ofInt (by omega)) | (simp only [z_nat, z_lit, ← Int32.ofInt_add, ← Int32.ofInt_sub, ← Int32.ofInt_mul]; done) | exact congrArg Int32.ofInt (by omega) | rfl), by (dsimp only; omega), rfl, ?_⟩
    have hn : r_N 284 0 (q_si (q_si (q_si (q_si M 284 (432 + (6 * bE n + bR n)) (Int32.ofInt 20)) 284 (468 + (6 * bE n + bR n)) (Int32.ofInt 0)) 284 (504 + (6 * bE n + bR n)) (Int32.ofInt 0)) 284 (540 + (6 * bE n + bR n)) (Int32.ofInt 0)) (nRk t n x 0) := by
      refine ((((g.2.2.1.up (v := 20) rfl).up (v := 0) rfl).up (v := 0) rfl).up (v := 0) rfl).of (fun i hi => ?_)
      unfold nRk
      by_cases q0 : 36 + 11 * (6 * bE n + bR n) + 0 ≤ i ∧ i < 47 + 11 * (6 * bE n + bR n)
      · rw [if_pos q0, up_n (by omega), up_n (by omega), up_n (by omega), up_n (by omega)]
      · rw [if_neg q0]
        unfold nDk
        by_cases q1 : i = 432 + (6 * bE n + bR n)
        · subst q1
          rw [if_pos rfl, up_n (by omega), up_n (by omega), up_n (by omega), up_s]
        · rw [if_neg q1]
          by_cases q2 : i = 468 + (6 * bE n + bR n) ∨ i = 504 + (6 * bE n + bR n) ∨ i = 540 + (6 * bE n + bR n)
          · rw [if_pos q2]
            rcases q2 with q2 | q2 | q2
            · subst q2
              rw [up_n (by omega), up_n (by omega), up_s]
            · subst q2
              rw [up_n (by omega), up_s]
            · subst q2
              rw [up_s]
          · rw [if_neg q2, if_neg (by omega), up_n (by omega), up_n (by omega), up_n (by omega), up_n (by omega)]
    have g1 := g.to (M' := q_si (q_si (q_si (q_si M 284 (432 + (6 * bE n + bR n)) (Int32.ofInt 20)) 284 (468 + (6 * bE n + bR n)) (Int32.ofInt 0)) 284 (504 + (6 * bE n + bR n)) (Int32.ofInt 0)) 284 (540 + (6 * bE n + bR n)) (Int32.ofInt 0)) rfl hn (nR_N hJ g.A q (Nat.zero_le _) hs.2.2.2.2.2.1)
    have lo : ∀ i, i < 36 → nRk t n x 0 i = n i := fun i hi => nR_sch i (by omega) (by omega) (by omega) (by omega) (by omega)
    have hi : ∀ i, 576 ≤ i → nRk t n x 0 i = n i := fun i hi => nR_sch i (by omega) (by omega) (by omega) (by omega) (by omega)
    refine k_roundNow g1 ?_
    rw [hi 631 (by omega)]
    refine k_diveOf g1 (bE n) (bR n) he hr ?_ (hb := by rw [h31]; rfl)
    rw [lo _ (by omega)]
    refine k_formAward g1 (bE n) (bDv n) he dvi.2 ?_ (hb := dvi.1)
    exact W _ (Nat.zero_le _) ⟨q_fs.rf.s1.s1.s1.s1, hn, h9⟩ _ _ rfl
  · rintro M' ⟨hf, hn, h9'⟩ v y rfl
    have d := nD_b (x := x) hJ g.A q (Nat.le_refl _)
    have a := gv_all (x := x) g.A hJ q
    have hn2 : r_N 284 0 M' (nDk t n x (t 2 0)) := hn.of (fun i hi => by
      unfold nRk
      by_cases z : 36 + 11 * (6 * bE n + bR n) + t 2 0 ≤ i ∧ i < 47 + 11 * (6 * bE n + bR n)
      · rw [if_pos z]
        obtain ⟨j, rfl⟩ : ∃ j, i = 36 + 11 * (6 * bE n + bR n) + j := ⟨i - (36 + 11 * (6 * bE n + bR n)), by omega⟩
        rw [nD_m s36 (by omega), if_neg (by omega)]
        refine Eq.symm (Classical.byContradiction (fun y => ?_))
        have := ((hs.2.1 j (by omega)).2.2 y).1
        omega
      · rw [if_neg z])
    have g2 := g.to (hf.c1 280) hn2 d.1.1.1
    refine w_at 90 [77] ?_
    refine ⟨2, _, by (first | assumption | (simp only [z_nat, z_lit, ← Int32.ofInt_add, ← Int32.ofInt_sub, ← Int32.ofInt_mul]; exact congrArg Int32.ofInt (by omega)) | (simp only [z_nat, z_lit, ← Int32.ofInt_add, ← Int32.ofInt_sub, ← Int32.ofInt_mul]; done) | exact congrArg Int32.ofInt (by omega) | rfl), by (dsimp only; omega), g2.R2, ?_⟩
    refine z_le (t 2 0) (t 2 0) (fun _ => ?_) (fun h => by omega)
    refine k_giveBy g2 d.1 (Or.inr ⟨a.1, a.2, m, hg, rfl⟩) ⟨fun z => (by cases z), fun v m' e M2 hf2 g3 => ?_⟩
    cases e
    exact hQ M2 (hf.mono.tr hf2.mono) g3 (by rw [hf2.p1 271 48]; exact h9')
  · rintro k M' hk ⟨hf, hn, h9'⟩ ih v y rfl
    have db := dK_b hx (fb_ct (fun i => onP t i (bE n)) k)
    have g2 := g.to (hf.c1 280) hn (nR_N hJ g.A q (Nat.le_of_lt hk) hs.2.2.2.2.2.1)
    refine w_at 90 [77] ?_
    refine ⟨2, _, by (first | assumption | (simp only [z_nat, z_lit, ← Int32.ofInt_add, ← Int32.ofInt_sub, ← Int32.ofInt_mul]; exact congrArg Int32.ofInt (by omega)) | (simp only [z_nat, z_lit, ← Int32.ofInt_add, ← Int32.ofInt_sub, ← Int32.ofInt_mul]; done) | exact congrArg Int32.ofInt (by omega) | rfl), by (dsimp only; omega), g2.R2, ?_⟩
    refine z_le (t 2 0) k (fun h => by omega) (fun _ => ?_)
    refine k_judges g2 k (bE n) hk he (fun ho => br_f (by decide) ?_) (fun ho => br_t (by decide) ?_)
    · refine k_draw _ db h9' ?_
      have ek : dK x (fb_ct (fun i => onP t i (bE n)) (k + 1)) = dN (dK x (fb_ct (fun i => onP t i (bE n)) k)) := by rw [ct_t (p := fun i => onP t i (bE n)) ho]; rfl
      have em : mkD t n x k = clp (faw t (bE n) (bDv n) + ((dN (dK x (fb_ct (fun i => onP t i (bE n)) k)) % 5 : Nat) : Int) - 2) := by unfold mkD; rw [ek]
      refine k_clipped (faw t (bE n) (bDv n) + ((dN (dK x (fb_ct (fun i => onP t i (bE n)) k)) % 5 : Nat) : Int) - 2) (by omega) ?_
      rw [← em]
      refine ⟨36 + 11 * (6 * bE n + bR n) + k, _, by (first | assumption | (simp only [z_nat, z_lit, ← Int32.ofInt_add, ← Int32.ofInt_sub, ← Int32.ofInt_mul]; exact congrArg Int32.ofInt (by omega)) | (simp only [z_nat, z_lit, ← Int32.ofInt_add, ← Int32.ofInt_sub, ← Int32.ofInt_mul]; done) | exact congrArg Int32.ofInt (by omega) | rfl), by (dsimp only; omega), rfl, ?_⟩
      refine ih _ ⟨hf.s1.s1, ?_, by rw [ek]; exact (q_si_nn (by omega)).trans q_si_s⟩ _ _ (by (first | assumption | (simp only [z_nat, z_lit, ← Int32.ofInt_add, ← Int32.ofInt_sub, ← Int32.ofInt_mul]; exact congrArg Int32.ofInt (by omega)) | (simp only [z_nat, z_lit, ← Int32.ofInt_add, ← Int32.ofInt_sub, ← Int32.ofInt_mul]; done) | exact congrArg Int32.ofInt (by omega) | rfl))
      have hn1 : r_N 284 0 (q_si M' 271 48 (nI (dN (dK x (fb_ct (fun i => onP t i (bE n)) k))))) (nRk t n x k) := hn
      refine (hn1.up (k := 36 + 11 * (6 * bE n + bR n) + k) (v := mkD t n x k) rfl).of (fun i hi => ?_)
      by_cases z : i = 36 + 11 * (6 * bE n + bR n) + k
      · subst z
        rw [up_s]
        unfold nRk
        rw [if_neg (by omega), nD_m s36 (by omega), if_pos ⟨by omega, ho⟩]
      · rw [up_n z]
        unfold nRk
        rw [← nD_mk s36 (by omega) ho]
        by_cases z2 : 36 + 11 * (6 * bE n + bR n) + k ≤ i ∧ i < 47 + 11 * (6 * bE n + bR n)
        · rw [if_pos z2, if_pos (by omega)]
        · rw [if_neg z2, if_neg (by omega), up_n z]
    · refine ih M' ⟨hf, hn.of (fun i hi => ?_), by rw [ct_f (p := fun i => onP t i (bE n)) ho]; exact h9'⟩ _ _ (by (first | assumption | (simp only [z_nat, z_lit, ← Int32.ofInt_add, ← Int32.ofInt_sub, ← Int32.ofInt_mul]; exact congrArg Int32.ofInt (by omega)) | (simp only [z_nat, z_lit, ← Int32.ofInt_add, ← Int32.ofInt_sub, ← Int32.ofInt_mul]; done) | exact congrArg Int32.ofInt (by omega) | rfl))
      unfold nRk
      rw [← nD_no s36 (by omega) ho]
      by_cases z2 : 36 + 11 * (6 * bE n + bR n) + k ≤ i ∧ i < 47 + 11 * (6 * bE n + bR n)
      · rw [if_pos z2]
        by_cases z3 : i = 36 + 11 * (6 * bE n + bR n) + k
        · subst z3
          rw [if_neg (by omega), off k (by omega) ho, nD_m s36 (by omega), if_neg (by omega)]
        · rw [if_pos (by omega)]
      · rw [if_neg z2, if_neg (by omega)]
set_option maxRecDepth 100000 in
set_option maxHeartbeats 4000000 in
theorem k_laysBack (hn : ∀ k, k < 634 → M.1 285 k = Int32.ofInt (n k)) (hQ : ∀ M', q_fs [284] [] M M' → r_N 284 0 M' n → Q none M') : q_C q_mt (L, xs, q_shp) E nX12_laysBack (d) 0 0 [.ref 271] M Q := by
  have W := lp_m (W := fun i M' => ∀ v, v = nI i → q_G q_mt (L, xs, q_shp) E nX12_laysBack (d) 0 0 (q_Q (L, xs, q_shp) E Q) 2 [some (.ref 271), some (.int (v))] [] M') (J := fun i M' => q_fs [284] [] M M' ∧ ∀ k, k < i → M'.1 284 k = Int32.ofInt (n k)) 634 ?_ ?_ 0 M (Nat.zero_le _) ⟨q_fs.rf, fun k hk => absurd hk (Nat.not_lt_zero _)⟩
  · refine w_in 90 [2] ?_
    exact W _ rfl
  · rintro M' ⟨hf, hm⟩ v rfl
    refine w_at 90 [2] ?_
    exact z_le 634 (634 : Nat) (fun _ => hQ M' hf (fun k hk => by rw [Nat.zero_add]; exact hm k hk)) (fun h => by omega)
  · rintro i M' hi ⟨hf, hm⟩ ih v rfl
    have e : M'.1 285 i = Int32.ofInt (n i) := by rw [hf.c1 285]; exact hn i hi
    refine w_at 90 [2] ?_
    refine z_le 634 (i : Int) (fun h => by omega) (fun _ => ?_)
    refine ⟨i, _, by (first | assumption | (simp only [z_nat, z_lit, ← Int32.ofInt_add, ← Int32.ofInt_sub, ← Int32.ofInt_mul]; exact congrArg Int32.ofInt (by omega)) | (simp only [z_nat, z_lit, ← Int32.ofInt_add, ← Int32.ofInt_sub, ← Int32.ofInt_mul]; done) | exact congrArg Int32.ofInt (by omega) | rfl), by (dsimp only; omega), e, ?_⟩
    refine ⟨i, _, by (first | assumption | (simp only [z_nat, z_lit, ← Int32.ofInt_add, ← Int32.ofInt_sub, ← Int32.ofInt_mul]; exact congrArg Int32.ofInt (by omega)) | (simp only [z_nat, z_lit, ← Int32.ofInt_add, ← Int32.ofInt_sub, ← Int32.ofInt_mul]; done) | exact congrArg Int32.ofInt (by omega) | rfl), by (dsimp only; omega), rfl, ?_⟩
    refine ih _ ⟨hf.s1, fun k hk => ?_⟩ _ (by (first | assumption | (simp only [z_nat, z_lit, ← Int32.ofInt_add, ← Int32.ofInt_sub, ← Int32.ofInt_mul]; exact congrArg Int32.ofInt (by omega)) | (simp only [z_nat, z_lit, ← Int32.ofInt_add, ← Int32.ofInt_sub, ← Int32.ofInt_mul]; done) | exact congrArg Int32.ofInt (by omega) | rfl))
    by_cases q : k = i
    · rw [q, q_si_s]
    · rw [q_si_n q]
      exact hm k (by omega)
set_option maxRecDepth 100000 in
set_option maxHeartbeats 4000000 in
theorem k_winIn {n0 : sN} {x' : Nat} {n' : sN} {e : Nat} {y1 y2 : Value} {acc run : Int32} (he : e < t 8 0) (g0 : g_R M t n0) (h285 : ∀ k, k < 634 → M.1 285 k = Int32.ofInt (n0 k)) (hn : ∀ M', q_fs lG fX M M' → g_R M' t n0 → M'.1 271 48 = nI x' → ∀ u v, u = acc + Int32.ofInt (if rkN t n' (toF t n') e = 1 then 1 else 0) → v = run + Int32.ofInt 1 → q_G q_mt (L, xs, q_shp) E nX12_wins (d + 15) 0 0 (q_Q (L, xs, q_shp) E Q) 46 [some (.ref 271), some y1, some y2, some (.int (nI e)), some (.int (u)), some (.int (v))] [] M') : ∀ (k : Nat) {x : Nat} {n : sN} {M' : q_M}, x ≤ 1000002 → isRun t k x n x' n' → b_J t n → g_R M' t n → M'.1 271 48 = nI x → q_fs lG fX M M' → q_G q_mt (L, xs, q_shp) E nX12_wins (d + 15) 0 0 (q_Q (L, xs, q_shp) E Q) 52 [some (.ref 271), some y1, some y2, some (.int (nI e)), some (.int (acc)), some (.int (run))] [] M'
  | 0, x, n, M', hx, hr, hJ, g, h9, hf => by
    obtain ⟨q, rfl, rfl⟩ := hr
    have hrb : rkN t n' (toF t n') e ≤ 7 := by
      have := fb_ct_le (fun o => ahd n' (toF t n') o e) (t 8 0)
      have := g.e6
      unfold rkN
      omega
    have back : ∀ M2, q_fs [293, 294] fD M' M2 → ∀ Q' : Option Value → q_M → Prop, (∀ M3, q_fs lG fX M M3 → g_R M3 t n0 → M3.1 271 48 = nI x' → Q' none M3) → q_C q_mt (L, xs, q_shp) E nX12_laysBack (d + 14) 0 0 [.ref 271] M2 Q' := by
      intro M2 hf2 Q' hq
      have hf3 : q_fs lG fX M M2 := hf.tr hf2.mono
      refine k_laysBack (n := n0) (fun k hk => by rw [hf3.c1 285]; exact h285 k hk) (fun M3 hf4 hr3 => hq M3 (hf3.tr hf4.mono) (g0.to (by rw [hf4.c1 280, hf3.c1 280]) hr3 g0.bn) ?_)
      rw [hf4.c1 271, hf2.p1 271 48]
      exact h9
    refine w_at 90 [46, 52] ?_
    refine k_noBoard g hJ q ?_
    refine z_eq (-1) (-1) (fun _ => ?_) (fun z => absurd rfl z)
    refine k_laysTotals g (fun M2 hf2 hs2 => ?_)
    refine k_rankOfLaid (g.fs hf2) hs2 e he ?_
    refine z_ne (rkN t n' (toF t n') e) 1 (fun z => ?_) (fun z => ?_)
    · exact back M2 hf2 _ (fun M3 hf3 g3 h3 => hn M3 hf3 g3 h3 _ _ (by rw [if_neg (by omega)]) rfl)
    · exact back M2 hf2 _ (fun M3 hf3 g3 h3 => hn M3 hf3 g3 h3 _ _ (by rw [if_pos (by omega)]) rfl)
  | k + 1, x, n, M', hx, hr, hJ, g, h9, hf => by
    obtain ⟨q, m, hg, hr2⟩ := hr
    have hB := hJ.B g.e6 q
    have hbe := hB.2.1
    have h6 := g.e6
    obtain ⟨j1, j2, j3⟩ := run_1 g.A hJ q hg
    refine w_at 90 [46, 52] ?_
    refine k_board g hJ q ?_
    refine z_eq (bE n : Int) (-1) (fun z => by omega) (fun _ => ?_)
    refine k_drawsDive g hJ q x hx h9 hg (fun M2 hf2 g2 h92 => ?_)
    exact k_winIn he g0 h285 hn k (dK_b hx _) hr2 j1 g2 h92 (hf.tr hf2)
set_option maxRecDepth 100000 in
set_option maxHeartbeats 4000000 in
theorem k_winOut {e : Nat} {y1 : Value} {R : Nat} (he : e < t 8 0) (hR : R ≤ 40) (h285 : ∀ k, k < 634 → M.1 285 k = Int32.ofInt (n k)) (g0 : g_R M t n) (hJ : b_J t n) {w : Nat} (hQ : ∀ M', q_fs lG fX M M' → g_R M' t n → Q (some (.int (nI w))) M') : ∀ (r : Nat) {x acc w' : Nat} {M' : q_M}, x ≤ 1000002 → isWins t n e r x w' → acc + w' = w → acc + r ≤ R → M'.1 271 48 = nI x → g_R M' t n → q_fs lG fX M M' → ∀ u v, u = nI acc → v = nI (R - r) → q_G q_mt (L, xs, q_shp) E nX12_wins (d + 15) 0 0 (q_Q (L, xs, q_shp) E Q) 46 [some (.ref 271), some y1, some (.int (nI R)), some (.int (nI e)), some (.int (u)), some (.int (v))] [] M'
  | 0, x, acc, w', M', hx, hw, ha, hr, h9, g, hf, u, v, hu, hv => by
    subst hu hv
    have hw : w' = 0 := hw
    refine w_at 90 [46, 52] ?_
    refine z_le (R : Int) ((R - 0 : Nat) : Int) (fun _ => ⟨_, rfl, ?_⟩) (fun z => by omega)
    have := hQ M' hf g
    rw [show acc = w by omega]
    exact this
  | r + 1, x, acc, w', M', hx, hw, ha, hr, h9, g, hf, u, v, hu, hv => by
    subst hu hv
    obtain ⟨k, x', n', w2, hk, hrun, hw2, rfl⟩ := hw
    have wb := isWins_b hw2
    have hxb := isRun_b hx hrun
    refine w_at 90 [46, 52] ?_
    refine z_le (R : Int) ((R - (r + 1) : Nat) : Int) (fun z => by omega) (fun _ => ?_)
    refine k_winIn (d := d) (M := M) (t := t) he (x' := x') (n' := n') (n0 := n) g0 h285 (fun M3 hf3 g3 h93 u v hu hv => ?_) k hx hrun hJ g h9 hf
    refine k_winOut he hR h285 g0 hJ hQ r (acc := acc + (if rkN t n' (toF t n') e = 1 then 1 else 0)) hxb hw2 (by omega) ?_ h93 g3 hf3 _ _ ?_ ?_
    · split <;> omega
    · rw [hu]
      split <;> (first | assumption | (simp only [z_nat, z_lit, ← Int32.ofInt_add, ← Int32.ofInt_sub, ← Int32.ofInt_mul]; exact congrArg Int32.ofInt (by omega)) | (simp only [z_nat, z_lit, ← Int32.ofInt_add, ← Int32.ofInt_sub, ← Int32.ofInt_mul]; done) | exact congrArg Int32.ofInt (by omega) | rfl)
    · rw [hv, z_nat, z_nat, ← Int32.ofInt_add]
      exact congrArg Int32.ofInt (by omega)
abbrev lV : List Nat := [257, 258, 259, 260, 261, 262, 263, 264, 266, 239, 240, 241, 284, 285, 293, 294]
abbrev fV : List (Nat × Nat) := [(256, 9), (238, 4), (238, 5), (238, 6), (238, 7), (238, 8), (238, 9), (238, 10), (238, 11), (238, 12), (271, 48), (271, 36), (271, 37), (271, 38), (271, 39)]
set_option maxRecDepth 100000 in
set_option maxHeartbeats 4000000 in
theorem o_wins {a b c : Int32} (g : g_A 43 M t n) (hJ : b_J t n) (hP : ∀ M', q_fs lV fV M M' → g_A 43 M' t n → P M') : zOp L xs E nX11_wins nX12_wins (d + 20) [.int a, .int b, .int c] M P := by
  obtain ⟨x0, hx0, rfl⟩ := z_of a
  obtain ⟨r0, hr0, rfl⟩ := z_of b
  by_cases q : (0 ≤ x0 ∧ x0 ≤ 999999) ∧ (1 ≤ r0 ∧ r0 ≤ 40) ∧ ∃ e, e < t 8 0 ∧ c = nI e
  · obtain ⟨q1, q2, e, he, rfl⟩ := q
    obtain ⟨x, rfl⟩ : ∃ x : Nat, x0 = x := ⟨x0.toNat, by omega⟩
    obtain ⟨r, rfl⟩ : ∃ r : Nat, r0 = r := ⟨r0.toNat, by omega⟩
    obtain ⟨w, hw⟩ := isWins_ex g.R.A hJ e r x
    have wb := isWins_b hw
    refine w_in 90 [] ?_
    refine z_lt (x : Int) 0 (fun z => by omega) (fun _ => ?_)
    refine z_lt 999999 (x : Int) (fun z => by omega) (fun _ => ?_)
    refine z_lt (r : Int) 1 (fun z => by omega) (fun _ => ?_)
    refine z_lt 40 (r : Int) (fun z => by omega) (fun _ => ?_)
    refine d_hasEntrant g.C g.R.b (fun _ _ _ => bn_t (by decide) ?_) (fun z => absurd ⟨e, he, rfl⟩ z)
    have cw : ∀ Q' : Option Value → q_M → Prop, (∀ M', q_fs lY fY M M' → Q' (some (.int (nI w))) M') → q_C q_mt (L, xs, q_shp) E nX4_countWins (d + 19) 0 0 [.ref 256, .int (Int32.ofInt x), .int (Int32.ofInt r), .int (nI e)] M Q' := by
      intro Q' hq
      refine w_in 90 [11, 31] ?_
      refine ⟨_, rfl, ?_⟩
      have g1 : g_A 43 (q_si M 256 9 (Int32.ofInt x)) t n := g.fs (l := []) (f := [(256, 9)]) q_fs.rf.s1 g_o.of
      exact k2_winOut (d := d + 13) (M := M) he (by omega) g hJ hq r (x := x) (acc := 0) (by omega) hw (by omega) (by omega) q_si_s q_fs.rf.s1 _ _ _ rfl (by rw [Nat.sub_self]; rfl)
    refine cw _ (fun M1 hf1 => ⟨_, rfl, _, rfl, ?_⟩)
    have g1 : g_A 43 M1 t n := g.fs hf1 g_o.of
    refine w_in 90 [46, 52] ?_
    refine k_isIn (x : Int) 0 999999 (by omega) (by omega) (by omega) (fun _ _ => br_f (by decide) ?_) (fun z => absurd q1 z)
    refine k_isIn (r : Int) 1 40 (by omega) (by omega) (by omega) (fun _ _ => br_f (by decide) ?_) (fun z => absurd q2 z)
    refine c_X12_isEntrant g1.R.1 g1.R.b (fun _ _ _ => bn_t (by decide) ?_) (fun z => absurd ⟨e, he, rfl⟩ z)
    refine ⟨_, rfl, ?_⟩
    have hf2 : q_fs [] [(271, 48)] M1 (q_si M1 271 48 (Int32.ofInt x)) := q_fs.rf.s1
    have g2 : g_A 43 (q_si M1 271 48 (Int32.ofInt x)) t n := g1.fs hf2 g_o.of
    refine k_laysAside (fun M3 hf3 hm3 => ?_)
    have g3 : g_A 43 M3 t n := g2.fs hf3 g_o.of
    refine k_winOut (M := M3) he (by omega) (fun k hk => (hm3 k hk).trans (g2.R.at hk)) g3.R hJ (fun M4 hf4 g4 => ⟨rfl, ?_⟩) r (x := x) (acc := 0) (by omega) hw (by omega) (by omega) (by rw [hf3.c1 271]; exact q_si_s) g3.R q_fs.rf _ _ rfl (by rw [Nat.sub_self]; rfl)
    have zz := (g3.Z.f2 hf4)
    exact hP M4 (((hf1.mono.tr hf2.mono).tr hf3.mono).tr hf4.mono) ⟨g4, zz.C, zz.S⟩
  · have fin : q_C q_mt (L, xs, q_shp) E nX12_wins (d + 20) 0 0 (.ref 271 :: [.int (Int32.ofInt x0), .int (Int32.ofInt r0), .int c]) M (fun v' M'' => v' = some (.int (Int32.ofInt (-1))) ∧ P M'') := by
      refine w_in 90 [46, 52] ?_
      refine k_isIn x0 0 999999 hx0 (by omega) (by omega) (fun a1 a2 => br_f (by decide) ?_) (fun z => br_t (by decide) ⟨_, rfl, rfl, hP M q_fs.rf g⟩)
      refine k_isIn r0 1 40 hr0 (by omega) (by omega) (fun b1 b2 => br_f (by decide) ?_) (fun z => br_t (by decide) ⟨_, rfl, rfl, hP M q_fs.rf g⟩)
      exact c_X12_isEntrant g.R.1 g.R.b (fun e he z => absurd ⟨⟨a1, a2⟩, ⟨b1, b2⟩, e, he, z⟩ q) (fun z => bn_f (by decide) ⟨_, rfl, rfl, hP M q_fs.rf g⟩)
    refine w_in 90 [] ?_
    refine z_lt x0 0 (fun z => ⟨_, rfl, _, rfl, fin⟩) (fun a1 => ?_)
    refine z_lt 999999 x0 (fun z => ⟨_, rfl, _, rfl, fin⟩) (fun a2 => ?_)
    refine z_lt r0 1 (fun z => ⟨_, rfl, _, rfl, fin⟩) (fun b1 => ?_)
    refine z_lt 40 r0 (fun z => ⟨_, rfl, _, rfl, fin⟩) (fun b2 => ?_)
    exact d_hasEntrant g.C g.R.b (fun e he z => absurd ⟨⟨a1, by omega⟩, ⟨b1, by omega⟩, e, he, z⟩ q) (fun z => bn_f (by decide) ⟨_, rfl, _, rfl, fin⟩)
end WR
