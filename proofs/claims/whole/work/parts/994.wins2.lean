/-! drawn dives walked -/
theorem clp_c {a : Int} {X : Int32} (hX : X = Int32.ofInt a) (ha : -2147483648 ≤ a ∧ a < 2147483648) : (if Int32.ofInt 0 < (if X < Int32.ofInt 20 then X else Int32.ofInt 20) then (if X < Int32.ofInt 20 then X else Int32.ofInt 20) else Int32.ofInt 0) = Int32.ofInt (clp a) := by
  subst hX
  have zt : ∀ x y : Int, (-2147483648 ≤ x ∧ x < 2147483648) → (-2147483648 ≤ y ∧ y < 2147483648) → (Int32.ofInt x < Int32.ofInt y ↔ x < y) := fun x y hx hy => by rw [Int32.lt_iff_toInt_lt, z_toInt hx, z_toInt hy]
  unfold clp
  by_cases q : a < 20
  · rw [if_pos ((zt a 20 ha (by omega)).mpr q)]
    by_cases q2 : 0 < a
    · rw [if_pos ((zt 0 a (by omega) ha).mpr q2), if_neg (by omega), if_neg (by omega)]
    · rw [if_neg (fun z => q2 ((zt 0 a (by omega) ha).mp z))]
      by_cases q3 : a < 0
      · rw [if_pos q3]
      · rw [if_neg q3, if_neg (by omega), show a = 0 by omega]
  · rw [if_neg (fun z => q ((zt a 20 ha (by omega)).mp z)), if_pos (show Int32.ofInt 0 < Int32.ofInt 20 by decide), if_neg (by omega)]
    by_cases q4 : 20 < a
    · rw [if_pos q4]
    · rw [if_neg q4, show a = 20 by omega]
section WW
variable {L : Nat} {xs : Nat → Int32} {E : q_E} {d : Nat} {M : q_M} {t : q_T} {n : sN} {Q : Option Value → q_M → Prop} {P : q_M → Prop}
set_option maxRecDepth 100000 in
set_option maxHeartbeats 4000000 in
theorem k2_draw (x : Nat) (hx : x ≤ 1000002) (h9 : M.1 256 9 = nI x) (hQ : Q (some (.int (nI (dN x % 5)))) (q_si M 256 9 (nI (dN x)))) : q_C q_mt (L, xs, q_shp) E nX4_draw (d) 0 0 [.ref 256, .int (Int32.ofInt 5)] M Q := by
  refine w_in 90 [] ?_
  refine ⟨_, h9, ?_⟩
  refine And.intro (by decide) ?_
  refine ⟨_, dr_c hx, ?_⟩
  refine ⟨_, q_si_s, ?_⟩
  refine And.intro (by decide) ?_
  exact ⟨_, dr_5 dN_b, hQ⟩
set_option maxRecDepth 100000 in
set_option maxHeartbeats 4000000 in
theorem k2_clearSlot_257 (g : g_Z 257 M t n) (hJ : b_J t n) (q : isB t n) (x : Nat) {a : Int32} (hQ : ∀ M', q_fs [259] [] M M' → g_Z 257 M' t (nDk t n x 0) → Q none M') (ha : a = nI (16 * (6 * bE n + bR n)) := by (first | assumption | (simp only [z_nat, z_lit, ← Int32.ofInt_add, ← Int32.ofInt_sub, ← Int32.ofInt_mul]; exact congrArg Int32.ofInt (by omega)) | (simp only [z_nat, z_lit, ← Int32.ofInt_add, ← Int32.ofInt_sub, ← Int32.ofInt_mul]; done) | exact congrArg Int32.ofInt (by omega) | rfl)) : q_C q_mt (L, xs, q_shp) E nX8_clearSlot (d + 1) 0 0 [.ref 257, .int (a)] M Q := by
  subst ha
  have h6 := g.R.e6
  have h7 := g.R.r6
  have hB := hJ.B h6 q
  have he := hB.2.1
  have hr := hB.2.2.1
  have s36 : (6 * bE n + bR n) < 36 := by omega
  have c := nD_c (t := t) (n := n) (x := x) (k := 0) s36
  have d := nD_b (x := x) (k := 0) hJ g.R q (Nat.zero_le _)
  have hng := (hJ.at h6 hB).2.1
  have hp : M.1 259 (16 * (6 * bE n + bR n)) = Int32.ofInt (-1) := by
    have := g.ps he hr
    rw [if_neg (by omega)] at this
    exact this
  refine w_in 90 [] ?_
  refine ⟨16 * (6 * bE n + bR n), _, by (first | assumption | (simp only [z_nat, z_lit, ← Int32.ofInt_add, ← Int32.ofInt_sub, ← Int32.ofInt_mul]; exact congrArg Int32.ofInt (by omega)) | (simp only [z_nat, z_lit, ← Int32.ofInt_add, ← Int32.ofInt_sub, ← Int32.ofInt_mul]; done) | exact congrArg Int32.ofInt (by omega) | rfl), by (dsimp only; omega), rfl, ?_⟩
  refine ⟨16 * (6 * bE n + bR n) + 1, _, by (first | assumption | (simp only [z_nat, z_lit, ← Int32.ofInt_add, ← Int32.ofInt_sub, ← Int32.ofInt_mul]; exact congrArg Int32.ofInt (by omega)) | (simp only [z_nat, z_lit, ← Int32.ofInt_add, ← Int32.ofInt_sub, ← Int32.ofInt_mul]; done) | exact congrArg Int32.ofInt (by omega) | rfl), by (dsimp only; omega), rfl, ?_⟩
  refine ⟨16 * (6 * bE n + bR n) + 2, _, by (first | assumption | (simp only [z_nat, z_lit, ← Int32.ofInt_add, ← Int32.ofInt_sub, ← Int32.ofInt_mul]; exact congrArg Int32.ofInt (by omega)) | (simp only [z_nat, z_lit, ← Int32.ofInt_add, ← Int32.ofInt_sub, ← Int32.ofInt_mul]; done) | exact congrArg Int32.ofInt (by omega) | rfl), by (dsimp only; omega), rfl, ?_⟩
  refine ⟨16 * (6 * bE n + bR n) + 3, _, by (first | assumption | (simp only [z_nat, z_lit, ← Int32.ofInt_add, ← Int32.ofInt_sub, ← Int32.ofInt_mul]; exact congrArg Int32.ofInt (by omega)) | (simp only [z_nat, z_lit, ← Int32.ofInt_add, ← Int32.ofInt_sub, ← Int32.ofInt_mul]; done) | exact congrArg Int32.ofInt (by omega) | rfl), by (dsimp only; omega), rfl, ?_⟩
  refine ⟨16 * (6 * bE n + bR n) + 4, _, by (first | assumption | (simp only [z_nat, z_lit, ← Int32.ofInt_add, ← Int32.ofInt_sub, ← Int32.ofInt_mul]; exact congrArg Int32.ofInt (by omega)) | (simp only [z_nat, z_lit, ← Int32.ofInt_add, ← Int32.ofInt_sub, ← Int32.ofInt_mul]; done) | exact congrArg Int32.ofInt (by omega) | rfl), by (dsimp only; omega), rfl, ?_⟩
  refine k2_clearMarks_257 ((6 * bE n + bR n)) s36 (fun M' hf hm => ?_)
  have hf2 : q_fs [259] [] M M' := (q_fs.tr (q_fs.rf.s1.s1.s1.s1.s1) hf)
  refine hQ M' hf2 (g.sch_257 hJ hB nD_sch d.1.1.1 hf2 (fun i hi => ?_) ⟨?_, ?_, ?_, ?_⟩ (fun j hj => ?_))
  · rw [hm i, if_neg (by omega), q_si_n (by omega), q_si_n (by omega), q_si_n (by omega), q_si_n (by omega)]
    by_cases z : i = 16 * (6 * bE n + bR n)
    · rw [z, q_si_s, hp]
    · rw [q_si_n z]
  · rw [hm _, if_neg (by omega), q_si_n (by omega), q_si_n (by omega), q_si_n (by omega), q_si_s, c.2.2.2]
  · rw [hm _, if_neg (by omega), q_si_n (by omega), q_si_n (by omega), q_si_s, c.1]
  · rw [hm _, if_neg (by omega), q_si_n (by omega), q_si_s, c.2.1]
  · rw [hm _, if_neg (by omega), q_si_s, c.2.2.1]
  · rw [hm _, if_pos (by omega), nD_m s36 hj, if_neg (by omega)]
abbrev fY : List (Nat × Nat) := [(256, 9), (238, 4), (238, 5), (238, 6), (238, 7), (238, 8), (238, 9), (238, 10), (238, 11), (238, 12)]
set_option maxRecDepth 100000 in
set_option maxHeartbeats 4000000 in
theorem k2_playDive {m : sN} (g : g_Z 257 M t n) (hJ : b_J t n) (q : isB t n) (x : Nat) (hx : x ≤ 1000002) (h9 : M.1 256 9 = nI x) (hg : isGo t (nGv (nDk t n x (t 2 0))) m) (hQ : ∀ M', q_fs lC_257 fY M M' → g_Z 257 M' t m → M'.1 256 9 = nI (dK x (pnN t (bE n))) → Q none M') : q_C q_mt (L, xs, q_shp) E nX4_playDive (d + 5) 0 0 [.ref 256] M Q := by
  have h6 := g.R.e6
  have h7 := g.R.r6
  have h11 := g.R.j11
  have hB := hJ.B h6 q
  have he := hB.2.1
  have hr := hB.2.2.1
  have h31 := hB.2.2.2.1
  have s36 : (6 * bE n + bR n) < 36 := by omega
  have e1 := g.dv
  rw [brd_at hB] at e1
  have dv := dv_i g.Z he hr
  have fb := faw_b (t := t) (e := bE n) (i := bDv n)
  have W := lp_m (W := fun k M' => ∀ v y, v = nI k → q_G q_mt (L, xs, q_shp) E nX4_playDive (d + 5) 0 0 (q_Q (L, xs, q_shp) E Q) 52 [some (.ref 256), some (.int (nI (bE n))), some (.int (Int32.ofInt (faw t (bE n) (bDv n)))), some (.int (v)), y] [] M') (J := fun k M' => q_fs [259] [(256, 9)] M M' ∧ g_Z 257 M' t (nDk t n x k) ∧ M'.1 256 9 = nI (dK x (fb_ct (fun i => onP t i (bE n)) k))) (t 2 0) ?_ ?_ 0
  · refine w_in 90 [52] ?_
    refine ⟨_, e1, ?_⟩
    refine k2_boardSlot_257 g hB ?_
    refine k2_clearSlot_257 g hJ q x (fun M1 hf1 g1 => ?_)
    have e7 : M1.1 257 7 = nI (bR n + 1) := by
      rw [hf1.c1 257]
      have := g.rn
      rw [h31] at this
      exact this
    refine ⟨_, e7, ?_⟩
    refine k2_cellOf (bE n) (bR n) ?_
    have el : M1.1 258 ((6 * bE n + bR n)) = nI (bDv n) := by
      rw [hf1.c1 258]
      exact (g.li he hr).trans dv.1
    refine ⟨(6 * bE n + bR n), _, by (first | assumption | (simp only [z_nat, z_lit, ← Int32.ofInt_add, ← Int32.ofInt_sub, ← Int32.ofInt_mul]; exact congrArg Int32.ofInt (by omega)) | (simp only [z_nat, z_lit, ← Int32.ofInt_add, ← Int32.ofInt_sub, ← Int32.ofInt_mul]; done) | exact congrArg Int32.ofInt (by omega) | rfl), by (dsimp only; omega), el, ?_⟩
    refine k2_awardByForm g1 (bE n) (bDv n) he dv.2 ?_
    exact W M1 (Nat.zero_le _) ⟨hf1.mono, g1, by rw [hf1.c1 256]; exact h9⟩ _ _ rfl
  · rintro M' ⟨hf, g', h9'⟩ v y rfl
    have d := nD_b (x := x) hJ g.R q (Nat.le_refl _)
    have a := gv_all (x := x) g.R hJ q
    refine w_at 90 [52] ?_
    refine ⟨_, g'.jN, ?_⟩
    refine z_le (t 2 0) (t 2 0) (fun _ => ?_) (fun h => by omega)
    refine k2_doGive_257 g' d.1 (Or.inr ⟨a.1, a.2, m, hg, rfl⟩) ⟨fun z => (by cases z), fun v m' e M2 hf2 g2 => ?_⟩
    cases e
    exact hQ M2 (hf.mono.tr hf2.mono) g2 (by rw [hf2.c1 256]; exact h9')
  · rintro k M' hk ⟨hf, g', h9'⟩ ih v y rfl
    have d := nD_b (x := x) hJ g.R q (Nat.le_of_lt hk)
    have db := dK_b hx (fb_ct (fun i => onP t i (bE n)) k)
    refine w_at 90 [52] ?_
    refine ⟨_, g'.jN, ?_⟩
    refine z_le (t 2 0) k (fun h => by omega) (fun _ => ?_)
    refine k2_isOnPanel g' k (bE n) hk he (fun ho => br_f (by decide) ?_) (fun ho => br_t (by decide) ?_)
    · refine k2_draw _ db h9' ?_
      have g1 : g_Z 257 (q_si M' 256 9 (nI (dN (dK x (fb_ct (fun i => onP t i (bE n)) k))))) t (nDk t n x k) := g'.f2 (l := []) (f := [(256, 9)]) q_fs.rf.s1
      have ek : dK x (fb_ct (fun i => onP t i (bE n)) (k + 1)) = dN (dK x (fb_ct (fun i => onP t i (bE n)) k)) := by rw [ct_t (p := fun i => onP t i (bE n)) ho]; rfl
      have em : mkD t n x k = clp (faw t (bE n) (bDv n) + ((dN (dK x (fb_ct (fun i => onP t i (bE n)) k)) % 5 : Nat) : Int) - 2) := by unfold mkD; rw [ek]
      have mb := mkD_b (t := t) (n := n) (x := x) (j := k)
      have hy : aMark t (nDk t n x k) k (mkD t n x k) = some (((mkN t (nMk (nDk t n x k) k (mkD t n x k)) (bE (nDk t n x k)) (bR (nDk t n x k)) : Nat) : Int), nMk (nDk t n x k) k (mkD t n x k)) := if_pos (by rw [Bool.and_eq_true, isOb_t, d.2.2.1]; exact ⟨d.2.1, ho⟩)
      refine k2_doMark_257 g1 d.1 k (mkD t n x k) hk mb ⟨fun z => (by rw [hy] at z; cases z), fun v m' e M2 hf2 g2 => ?_⟩ (hb := by rw [em]; exact clp_c (by (first | assumption | (simp only [z_nat, z_lit, ← Int32.ofInt_add, ← Int32.ofInt_sub, ← Int32.ofInt_mul]; exact congrArg Int32.ofInt (by omega)) | (simp only [z_nat, z_lit, ← Int32.ofInt_add, ← Int32.ofInt_sub, ← Int32.ofInt_mul]; done) | exact congrArg Int32.ofInt (by omega) | rfl)) (by omega))
      rw [hy] at e
      cases e
      refine ih M2 ⟨hf.s1.tr hf2.mono, ?_, ?_⟩ _ _ (by (first | assumption | (simp only [z_nat, z_lit, ← Int32.ofInt_add, ← Int32.ofInt_sub, ← Int32.ofInt_mul]; exact congrArg Int32.ofInt (by omega)) | (simp only [z_nat, z_lit, ← Int32.ofInt_add, ← Int32.ofInt_sub, ← Int32.ofInt_mul]; done) | exact congrArg Int32.ofInt (by omega) | rfl))
      · have e3 : nMk (nDk t n x k) k (mkD t n x k) = nDk t n x (k + 1) := by
          unfold nMk
          rw [d.2.2.1, d.2.2.2]
          exact nD_mk s36 (by omega) ho
        rw [← e3]
        exact g2
      · rw [hf2.c1 256, q_si_s, ek]
    · refine ih M' ⟨hf, ?_, ?_⟩ _ _ (by (first | assumption | (simp only [z_nat, z_lit, ← Int32.ofInt_add, ← Int32.ofInt_sub, ← Int32.ofInt_mul]; exact congrArg Int32.ofInt (by omega)) | (simp only [z_nat, z_lit, ← Int32.ofInt_add, ← Int32.ofInt_sub, ← Int32.ofInt_mul]; done) | exact congrArg Int32.ofInt (by omega) | rfl))
      · rw [← nD_no s36 (by omega) ho]
        exact g'
      · rw [ct_f (p := fun i => onP t i (bE n)) ho]
        exact h9'
theorem isRun_b {x' : Nat} {n' : sN} : ∀ {k x : Nat} {n : sN}, x ≤ 1000002 → isRun t k x n x' n' → x' ≤ 1000002
  | 0, x, n, hx, h => by
    have h : ¬ isB t n ∧ x' = x ∧ n' = n := h
    rw [h.2.1]
    exact hx
  | k + 1, x, n, hx, h => by
    obtain ⟨-, m, -, h2⟩ := h
    exact isRun_b (dK_b hx _) h2
abbrev lY : List Nat := [257, 258, 259, 260, 261, 262, 263, 264, 266, 239, 240, 241]
set_option maxRecDepth 100000 in
set_option maxHeartbeats 4000000 in
theorem k2_winIn {x' : Nat} {n' : sN} {e : Nat} {y1 y2 : Value} {acc run : Int32} (he : e < t 8 0) (hn : ∀ M', q_fs lY fY M M' → M'.1 256 9 = nI x' → ∀ u v z, u = acc + Int32.ofInt (if rkN t n' (toF t n') e = 1 then 1 else 0) → v = run + Int32.ofInt 1 → q_G q_mt (L, xs, q_shp) E nX4_countWins (d + 6) 0 0 (q_Q (L, xs, q_shp) E Q) 11 [some (.ref 256), some y1, some y2, some (.int (nI e)), some (.int (u)), some (.int (v)), z] [] M') : ∀ (k : Nat) {x dv : Nat} {n : sN} {M' : q_M}, x ≤ 1000002 → isRun t k x n x' n' → dv + k ≤ 36 → b_J t n → g_Z 257 M' t n → M'.1 256 9 = nI x → q_fs lY fY M M' → ∀ w, w = nI dv → q_G q_mt (L, xs, q_shp) E nX4_countWins (d + 6) 0 0 (q_Q (L, xs, q_shp) E Q) 31 [some (.ref 256), some y1, some y2, some (.int (nI e)), some (.int (acc)), some (.int (run)), some (.int (w))] [] M'
  | 0, x, dv, n, M', hx, hr, hk, hJ, g, h9, hf, w, hw => by
    obtain ⟨q, rfl, rfl⟩ := hr
    subst hw
    have e9 := g.dv
    rw [brd_no q] at e9
    have hrb : rkN t n' (toF t n') e ≤ 7 := by
      have := fb_ct_le (fun o => ahd n' (toF t n') o e) (t 8 0)
      have := g.R.e6
      unfold rkN
      omega
    have fin : q_G q_mt (L, xs, q_shp) E nX4_countWins (d + 6) 0 0 (q_Q (L, xs, q_shp) E Q) 59 [some (.ref 256), some y1, some y2, some (.int (nI e)), some (.int (acc)), some (.int (run)), some (.int (nI dv))] [] M' := by
      refine w_at 90 [11, 31] ?_
      refine k2_rankOf_257 g e he ?_
      refine z_ne (rkN t n' (toF t n') e) 1 (fun z => ?_) (fun z => ?_)
      · exact hn M' hf h9 _ _ _ (by rw [if_neg (by omega)]) rfl
      · exact hn M' hf h9 _ _ _ (by rw [if_pos (by omega)]) rfl
    refine w_at 90 [11, 31, 59] ?_
    refine z_le 36 (dv : Int) (fun _ => fin) (fun _ => ?_)
    refine ⟨_, e9, ?_⟩
    exact z_eq (-1) (-1) (fun _ => fin) (fun z => absurd rfl z)
  | k + 1, x, dv, n, M', hx, hr, hk, hJ, g, h9, hf, w, hw => by
    obtain ⟨q, m, hg, hr2⟩ := hr
    subst hw
    have e9 := g.dv
    have hB := hJ.B g.R.e6 q
    have hbe := hB.2.1
    have h6 := g.R.e6
    rw [brd_at hB] at e9
    obtain ⟨j1, j2, j3⟩ := run_1 g.R hJ q hg
    refine w_at 90 [11, 31, 59] ?_
    refine z_le 36 (dv : Int) (fun z => by omega) (fun _ => ?_)
    refine ⟨_, e9, ?_⟩
    refine z_eq (bE n : Int) (-1) (fun z => by omega) (fun _ => ?_)
    refine k2_playDive g hJ q x hx h9 hg (fun M2 hf2 g2 h92 => ?_)
    exact k2_winIn he hn k (dK_b hx _) hr2 (show dv + 1 + k ≤ 36 by omega) j1 g2 h92 (hf.tr hf2.mono) _ (by (first | assumption | (simp only [z_nat, z_lit, ← Int32.ofInt_add, ← Int32.ofInt_sub, ← Int32.ofInt_mul]; exact congrArg Int32.ofInt (by omega)) | (simp only [z_nat, z_lit, ← Int32.ofInt_add, ← Int32.ofInt_sub, ← Int32.ofInt_mul]; done) | exact congrArg Int32.ofInt (by omega) | rfl))
set_option maxRecDepth 100000 in
set_option maxHeartbeats 4000000 in
theorem k2_winOut {e : Nat} {y1 : Value} {R : Nat} (he : e < t 8 0) (hR : R ≤ 40) (g : g_A 43 M t n) (hJ : b_J t n) {w : Nat} (hQ : ∀ M', q_fs lY fY M M' → Q (some (.int (nI w))) M') : ∀ (r : Nat) {x acc w' : Nat} {M' : q_M}, x ≤ 1000002 → isWins t n e r x w' → acc + w' = w → acc + r ≤ R → M'.1 256 9 = nI x → q_fs lY fY M M' → ∀ u v z, u = nI acc → v = nI (R - r) → q_G q_mt (L, xs, q_shp) E nX4_countWins (d + 6) 0 0 (q_Q (L, xs, q_shp) E Q) 11 [some (.ref 256), some y1, some (.int (nI R)), some (.int (nI e)), some (.int (u)), some (.int (v)), z] [] M'
  | 0, x, acc, w', M', hx, hw, ha, hr, h9, hf, u, v, z, hu, hv => by
    subst hu hv
    have hw : w' = 0 := hw
    refine w_at 90 [11, 31] ?_
    refine z_le (R : Int) ((R - 0 : Nat) : Int) (fun _ => ⟨_, rfl, ?_⟩) (fun z => by omega)
    have := hQ M' hf
    rw [show acc = w by omega]
    exact this
  | r + 1, x, acc, w', M', hx, hw, ha, hr, h9, hf, u, v, z, hu, hv => by
    subst hu hv
    obtain ⟨k, x', n', w2, hk, hrun, hw2, rfl⟩ := hw
    have wb := isWins_b hw2
    refine w_at 90 [11, 31] ?_
    refine z_le (R : Int) ((R - (r + 1) : Nat) : Int) (fun z => by omega) (fun _ => ?_)
    refine k2_copy_43_257 (fun M2 hf2 he2 => ?_)
    have g' : g_A 43 M' t n := g.fs hf g_o.of
    have g2 : g_Z 257 M2 t n := ⟨g.R.A, g'.C.fs hf2, g'.S.cp he2⟩
    have hxb := isRun_b hx hrun
    refine k2_winIn (d := d) (M := M) (t := t) he (x' := x') (n' := n') (fun M3 hf3 h93 u v z hu hv => ?_) k hx hrun (show 0 + k ≤ 36 by omega) hJ g2 (by rw [hf2.c1 256]; exact h9) (hf.tr hf2.mono) _ rfl
    refine k2_winOut he hR g hJ hQ r (acc := acc + (if rkN t n' (toF t n') e = 1 then 1 else 0)) hxb hw2 (by omega) ?_ h93 hf3 _ _ _ ?_ ?_
    · split <;> omega
    · rw [hu]
      split <;> (first | assumption | (simp only [z_nat, z_lit, ← Int32.ofInt_add, ← Int32.ofInt_sub, ← Int32.ofInt_mul]; exact congrArg Int32.ofInt (by omega)) | (simp only [z_nat, z_lit, ← Int32.ofInt_add, ← Int32.ofInt_sub, ← Int32.ofInt_mul]; done) | exact congrArg Int32.ofInt (by omega) | rfl)
    · rw [hv, z_nat, z_nat, ← Int32.ofInt_add]
      exact congrArg Int32.ofInt (by omega)
end WW
