/-! POINTS and TOTALS of the reference -/
abbrev fD : List (Nat × Nat) := [(271, 36), (271, 37), (271, 38), (271, 39)]
/-- POINTS of a dive, by a drop, without a judge -/
def ptE (t : q_T) (n : sN) (e r dr : Nat) (bar : Int) : Int := if n (540 + (6 * e + r)) = 1 then 0 else ptS t (prt (fun j => mk n e r j) bar) (cvt t (fun j => mk n e r j) (n (432 + (6 * e + r))) (n (468 + (6 * e + r))) (n (504 + (6 * e + r)))) dr (t 7 (n (6 * e + r)).toNat)
def tof (t : q_T) (n : sN) (e dr : Nat) (bar : Int) (r : Nat) : Int := if n (618 + e) ≤ (r : Int) + 1 ∧ n (576 + (6 * e + r)) = 1 then ptE t n e r dr bar else 0
def toE (t : q_T) (n : sN) (e dr : Nat) (bar : Int) : Int := fb_si (tof t n e dr bar) (t 0 0)
theorem ptS_b {t : q_T} {S : Nat → Bool} {c : Nat → Int} {dr : Nat} {deg : Int} (h : ∀ j, j < t 2 0 → S j = true → 0 ≤ c j ∧ c j ≤ 20) (hd : 0 ≤ deg ∧ deg ≤ 60) : 0 ≤ ptS t S c dr deg ∧ ptS t S c dr deg ≤ 18000 := by
  have hs := smS_b (t := t) (dr := dr) h
  unfold ptS
  split
  · omega
  · next hc =>
    generalize smS t S c dr (t 2 0) = s at *
    generalize fb_ct (kpt t S c dr) (t 2 0) = k at *
    have hp0 : 0 ≤ s * 15 * deg := Int.mul_nonneg (Int.mul_nonneg hs.1 (by omega)) hd.1
    have hp1 : s * 15 * deg ≤ (20 * k * 15) * 60 := Int.mul_le_mul (by omega) hd.2 hd.1 (by omega)
    refine ⟨Int.tdiv_nonneg hp0 (by omega), ?_⟩
    rw [Int.tdiv_eq_ediv_of_nonneg hp0]
    exact Int.ediv_le_of_le_mul (by omega) (by omega)
section RT
variable {L : Nat} {xs : Nat → Int32} {E : q_E} {d : Nat} {M : q_M} {t : q_T} {n : sN} {Q : Option Value → q_M → Prop} {P : q_M → Prop}
theorem ptE_c (g : b_A t n) {e r dr : Nat} {bar : Int} (he : e < t 8 0) (hr : r < t 0 0) : 0 ≤ ptE t n e r dr bar ∧ ptE t n e r dr bar ≤ 18000 := by
  have hs := g.bs he hr
  have h11 := g.j11
  have hdg := g.bd (i := (n (6 * e + r)).toNat) (by have := hs.1; omega)
  unfold ptE
  split
  · omega
  · refine ptS_b (fun j hj h => ?_) ⟨by omega, by omega⟩
    have h1 := hs.2.1 j (by omega)
    have h2 : ¬ mk n e r j = -1 := by
      unfold prt at h
      rw [Bool.and_eq_true, Bool.not_eq_true', decide_eq_false_iff_not] at h
      exact h.1
    exact ⟨cvl_0 (m := mk n e r j) (by omega) hs.2.2.1.1, (cvl_b (m := mk n e r j) ⟨h1.1, h1.2.1⟩ hs.2.2.1.1).2⟩
theorem tof_c (g : b_A t n) {e r dr : Nat} {bar : Int} (he : e < t 8 0) (hr : r < t 0 0) : 0 ≤ tof t n e dr bar r ∧ tof t n e dr bar r ≤ 18000 := by
  unfold tof
  split
  · exact ptE_c g he hr
  · omega
theorem si_b {f : Nat → Int} {c : Int} : ∀ {k : Nat}, (∀ r, r < k → 0 ≤ f r ∧ f r ≤ c) → 0 ≤ fb_si f k ∧ fb_si f k ≤ k * c
  | 0, _ => by rw [fb_si]; omega
  | k + 1, h => by
    have h1 := si_b (k := k) (fun r hr => h r (by omega))
    have h2 := h k (by omega)
    rw [fb_si_succ]
    push_cast
    rw [Int.add_mul]
    omega
theorem toE_c (g : b_A t n) {e dr : Nat} {bar : Int} (he : e < t 8 0) : 0 ≤ toE t n e dr bar ∧ toE t n e dr bar ≤ 108000 := by
  have h6 := g.r6
  have h := si_b (f := tof t n e dr bar) (c := 18000) (k := t 0 0) (fun r hr => tof_c g he hr)
  unfold toE
  omega
theorem ptE_b (g : g_R M t n) {e r dr : Nat} {bar : Int} (he : e < t 8 0) (hr : r < t 0 0) : 0 ≤ ptE t n e r dr bar ∧ ptE t n e r dr bar ≤ 18000 := ptE_c g.A he hr
theorem tof_b (g : g_R M t n) {e r dr : Nat} {bar : Int} (he : e < t 8 0) (hr : r < t 0 0) : 0 ≤ tof t n e dr bar r ∧ tof t n e dr bar r ≤ 18000 := tof_c g.A he hr
theorem toE_b (g : g_R M t n) {e dr : Nat} {bar : Int} (he : e < t 8 0) : 0 ≤ toE t n e dr bar ∧ toE t n e dr bar ≤ 108000 := toE_c g.A he
set_option maxRecDepth 100000 in
set_option maxHeartbeats 4000000 in
theorem k_laysDive (g : g_R M t n) {a b : Int32} (e r : Nat) (he : e < t 8 0) (hr : r < t 0 0) (hQ : ∀ M', q_fs [293] fD M M' → g_L M' (fun j => mk n e r j) (n (432 + (6 * e + r))) (n (468 + (6 * e + r))) (n (504 + (6 * e + r))) (t 7 (n (6 * e + r)).toNat) → Q none M') (ha : a = nI e := by (first | assumption | (simp only [z_nat, z_lit, ← Int32.ofInt_add, ← Int32.ofInt_sub, ← Int32.ofInt_mul]; exact congrArg Int32.ofInt (by omega)) | (simp only [z_nat, z_lit, ← Int32.ofInt_add, ← Int32.ofInt_sub, ← Int32.ofInt_mul]; done) | exact congrArg Int32.ofInt (by omega) | rfl)) (hb : b = nI (r + 1) := by (first | assumption | (simp only [z_nat, z_lit, ← Int32.ofInt_add, ← Int32.ofInt_sub, ← Int32.ofInt_mul]; exact congrArg Int32.ofInt (by omega)) | (simp only [z_nat, z_lit, ← Int32.ofInt_add, ← Int32.ofInt_sub, ← Int32.ofInt_mul]; done) | exact congrArg Int32.ofInt (by omega) | rfl)) : q_C q_mt (L, xs, q_shp) E nX12_laysDive (d + 2) 0 0 [.ref 271, .int (a), .int (b)] M Q := by
  subst ha hb
  have h6 := g.e6
  have h7 := g.r6
  have hs := g.bs he hr
  have hdg := g.bd (i := (n (6 * e + r)).toNat) (by have := hs.1; omega)
  have W := lp_m (W := fun k M' => ∀ v, v = nI k → q_G q_mt (L, xs, q_shp) E nX12_laysDive (d + 2) 0 0 (q_Q (L, xs, q_shp) E Q) 9 [some (.ref 271), some (.int (nI e)), some (.int (nI (r + 1))), some (.int (nI (6 * e + r))), some (.int (v))] [] M') (J := fun k M' => q_fs [293] fD M M' ∧ ∀ j, j < k → M'.1 293 j = Int32.ofInt (mk n e r j)) 11 ?_ ?_ 0 M (by omega) ⟨q_fs.rf, fun j hj => by omega⟩
  · refine w_in 90 [9] ?_
    refine k_slot e r ?_
    exact W _ rfl
  · rintro M' ⟨hf, hm⟩ v rfl
    have g' := g.fs hf
    refine w_at 90 [9] ?_
    refine z_le 11 11 (fun _ => ?_) (fun h => by omega)
    refine ⟨432 + (6 * e + r), Int32.ofInt (n (432 + (6 * e + r))), by (first | assumption | (simp only [z_nat, z_lit, ← Int32.ofInt_add, ← Int32.ofInt_sub, ← Int32.ofInt_mul]; exact congrArg Int32.ofInt (by omega)) | (simp only [z_nat, z_lit, ← Int32.ofInt_add, ← Int32.ofInt_sub, ← Int32.ofInt_mul]; done) | exact congrArg Int32.ofInt (by omega) | rfl), by (dsimp only; omega), g'.at (by omega), ?_⟩
    refine ⟨_, rfl, ?_⟩
    refine ⟨468 + (6 * e + r), Int32.ofInt (n (468 + (6 * e + r))), by (first | assumption | (simp only [z_nat, z_lit, ← Int32.ofInt_add, ← Int32.ofInt_sub, ← Int32.ofInt_mul]; exact congrArg Int32.ofInt (by omega)) | (simp only [z_nat, z_lit, ← Int32.ofInt_add, ← Int32.ofInt_sub, ← Int32.ofInt_mul]; done) | exact congrArg Int32.ofInt (by omega) | rfl), by (dsimp only; omega), g'.at (by omega), ?_⟩
    refine ⟨_, rfl, ?_⟩
    refine ⟨504 + (6 * e + r), Int32.ofInt (n (504 + (6 * e + r))), by (first | assumption | (simp only [z_nat, z_lit, ← Int32.ofInt_add, ← Int32.ofInt_sub, ← Int32.ofInt_mul]; exact congrArg Int32.ofInt (by omega)) | (simp only [z_nat, z_lit, ← Int32.ofInt_add, ← Int32.ofInt_sub, ← Int32.ofInt_mul]; done) | exact congrArg Int32.ofInt (by omega) | rfl), by (dsimp only; omega), g'.at (by omega), ?_⟩
    refine ⟨_, rfl, ?_⟩
    have g2 := fun (x y z : Int32) => g'.fs (M' := q_si (q_si (q_si M' 271 36 x) 271 37 y) 271 38 z) (l := [293]) (f := fD) q_fs.rf.s1.s1.s1
    refine k_diveOf (g2 _ _ _) e r he hr ?_
    refine k_degreeOf (g2 _ _ _) (n (6 * e + r)).toNat (by have := hs.1; omega) ?_ (ha := by rw [z_nat]; exact congrArg Int32.ofInt (by have := hs.1; omega))
    refine ⟨_, rfl, ?_⟩
    refine hQ _ hf.s1.s1.s1.s1 ⟨fun j hj => ⟨hm j hj, (hs.2.1 j hj).1, (hs.2.1 j hj).2.1⟩, ⟨rfl, hs.2.2.1⟩, ⟨rfl, hs.2.2.2.1⟩, ⟨rfl, hs.2.2.2.2.1⟩, ⟨rfl, by omega, by omega⟩⟩
  · rintro k M' hk ⟨hf, hm⟩ ih v rfl
    have g' := g.fs hf
    refine w_at 90 [9] ?_
    refine z_le 11 k (fun h => by omega) (fun h => ?_)
    refine ⟨36 + 11 * (6 * e + r) + k, Int32.ofInt (mk n e r k), by (first | assumption | (simp only [z_nat, z_lit, ← Int32.ofInt_add, ← Int32.ofInt_sub, ← Int32.ofInt_mul]; exact congrArg Int32.ofInt (by omega)) | (simp only [z_nat, z_lit, ← Int32.ofInt_add, ← Int32.ofInt_sub, ← Int32.ofInt_mul]; done) | exact congrArg Int32.ofInt (by omega) | rfl), by (dsimp only; omega), g'.at (by omega), ?_⟩
    refine ⟨k, _, by (first | assumption | (simp only [z_nat, z_lit, ← Int32.ofInt_add, ← Int32.ofInt_sub, ← Int32.ofInt_mul]; exact congrArg Int32.ofInt (by omega)) | (simp only [z_nat, z_lit, ← Int32.ofInt_add, ← Int32.ofInt_sub, ← Int32.ofInt_mul]; done) | exact congrArg Int32.ofInt (by omega) | rfl), by (dsimp only; omega), rfl, ?_⟩
    refine ih _ ⟨hf.s1, fun j hj => ?_⟩ _ (by (first | assumption | (simp only [z_nat, z_lit, ← Int32.ofInt_add, ← Int32.ofInt_sub, ← Int32.ofInt_mul]; exact congrArg Int32.ofInt (by omega)) | (simp only [z_nat, z_lit, ← Int32.ofInt_add, ← Int32.ofInt_sub, ← Int32.ofInt_mul]; done) | exact congrArg Int32.ofInt (by omega) | rfl))
    by_cases q : j = k
    · rw [q, q_si_s]
    · rw [q_si_n q]
      exact hm j (by omega)
set_option maxRecDepth 100000 in
set_option maxHeartbeats 4000000 in
theorem k_pointsBy (g : g_R M t n) {a b c f : Int32} (e r dr : Nat) (bar : Int) (he : e < t 8 0) (hr : r < t 0 0) (hdr : dr ≤ 3) (hbar : -1 ≤ bar ∧ bar ≤ 10) (hQ : ∀ M', q_fs [293] fD M M' → Q (some (.int (Int32.ofInt (ptE t n e r dr bar)))) M') (ha : a = nI e := by (first | assumption | (simp only [z_nat, z_lit, ← Int32.ofInt_add, ← Int32.ofInt_sub, ← Int32.ofInt_mul]; exact congrArg Int32.ofInt (by omega)) | (simp only [z_nat, z_lit, ← Int32.ofInt_add, ← Int32.ofInt_sub, ← Int32.ofInt_mul]; done) | exact congrArg Int32.ofInt (by omega) | rfl)) (hb : b = nI (r + 1) := by (first | assumption | (simp only [z_nat, z_lit, ← Int32.ofInt_add, ← Int32.ofInt_sub, ← Int32.ofInt_mul]; exact congrArg Int32.ofInt (by omega)) | (simp only [z_nat, z_lit, ← Int32.ofInt_add, ← Int32.ofInt_sub, ← Int32.ofInt_mul]; done) | exact congrArg Int32.ofInt (by omega) | rfl)) (hc : c = nI dr := by (first | assumption | (simp only [z_nat, z_lit, ← Int32.ofInt_add, ← Int32.ofInt_sub, ← Int32.ofInt_mul]; exact congrArg Int32.ofInt (by omega)) | (simp only [z_nat, z_lit, ← Int32.ofInt_add, ← Int32.ofInt_sub, ← Int32.ofInt_mul]; done) | exact congrArg Int32.ofInt (by omega) | rfl)) (hf : f = Int32.ofInt bar := by (first | assumption | (simp only [z_nat, z_lit, ← Int32.ofInt_add, ← Int32.ofInt_sub, ← Int32.ofInt_mul]; exact congrArg Int32.ofInt (by omega)) | (simp only [z_nat, z_lit, ← Int32.ofInt_add, ← Int32.ofInt_sub, ← Int32.ofInt_mul]; done) | exact congrArg Int32.ofInt (by omega) | rfl)) : q_C q_mt (L, xs, q_shp) E nX12_pointsBy (d + 5) 0 0 [.ref 271, .int (a), .int (b), .int (c), .int (f)] M Q := by
  subst ha hb hc hf
  unfold ptE at hQ
  refine w_in 90 [] ?_
  refine k_hasFailed g e r he hr (fun h => br_f (by decide) ?_) (fun h => br_t (by decide) ?_)
  · rw [if_pos h] at hQ
    exact ⟨_, rfl, hQ M q_fs.rf⟩
  · rw [if_neg (by omega)] at hQ
    refine k_laysDive g e r he hr (fun M' hf l => ?_)
    refine k_laidPoints (g.fs hf) l dr bar hdr hbar ?_
    exact ⟨_, rfl, hQ M' hf⟩
set_option maxRecDepth 100000 in
set_option maxHeartbeats 4000000 in
theorem k_pointsOf (g : g_R M t n) {a b : Int32} (e r : Nat) (he : e < t 8 0) (hr : r < t 0 0) (hQ : ∀ M', q_fs [293] fD M M' → Q (some (.int (Int32.ofInt (ptE t n e r (t 1 0) (-1))))) M') (ha : a = nI e := by (first | assumption | (simp only [z_nat, z_lit, ← Int32.ofInt_add, ← Int32.ofInt_sub, ← Int32.ofInt_mul]; exact congrArg Int32.ofInt (by omega)) | (simp only [z_nat, z_lit, ← Int32.ofInt_add, ← Int32.ofInt_sub, ← Int32.ofInt_mul]; done) | exact congrArg Int32.ofInt (by omega) | rfl)) (hb : b = nI (r + 1) := by (first | assumption | (simp only [z_nat, z_lit, ← Int32.ofInt_add, ← Int32.ofInt_sub, ← Int32.ofInt_mul]; exact congrArg Int32.ofInt (by omega)) | (simp only [z_nat, z_lit, ← Int32.ofInt_add, ← Int32.ofInt_sub, ← Int32.ofInt_mul]; done) | exact congrArg Int32.ofInt (by omega) | rfl)) : q_C q_mt (L, xs, q_shp) E nX12_pointsOf (d + 6) 0 0 [.ref 271, .int (a), .int (b)] M Q := by
  subst ha hb
  refine w_in 90 [] ?_
  refine ⟨1, nI (t 1 0), by (first | assumption | (simp only [z_nat, z_lit, ← Int32.ofInt_add, ← Int32.ofInt_sub, ← Int32.ofInt_mul]; exact congrArg Int32.ofInt (by omega)) | (simp only [z_nat, z_lit, ← Int32.ofInt_add, ← Int32.ofInt_sub, ← Int32.ofInt_mul]; done) | exact congrArg Int32.ofInt (by omega) | rfl), by (dsimp only; omega), g.R1, ?_⟩
  refine k_pointsBy g e r (t 1 0) (-1) he hr g.p3 (by omega) (fun M' hf => ?_)
  exact ⟨_, rfl, hQ M' hf⟩
set_option maxRecDepth 100000 in
set_option maxHeartbeats 4000000 in
theorem k_totalBy (g : g_R M t n) {a b c : Int32} (e dr : Nat) (bar : Int) (he : e < t 8 0) (hdr : dr ≤ 3) (hbar : -1 ≤ bar ∧ bar ≤ 10) (hQ : ∀ M', q_fs [293] fD M M' → Q (some (.int (Int32.ofInt (toE t n e dr bar)))) M') (ha : a = nI e := by (first | assumption | (simp only [z_nat, z_lit, ← Int32.ofInt_add, ← Int32.ofInt_sub, ← Int32.ofInt_mul]; exact congrArg Int32.ofInt (by omega)) | (simp only [z_nat, z_lit, ← Int32.ofInt_add, ← Int32.ofInt_sub, ← Int32.ofInt_mul]; done) | exact congrArg Int32.ofInt (by omega) | rfl)) (hb : b = nI dr := by (first | assumption | (simp only [z_nat, z_lit, ← Int32.ofInt_add, ← Int32.ofInt_sub, ← Int32.ofInt_mul]; exact congrArg Int32.ofInt (by omega)) | (simp only [z_nat, z_lit, ← Int32.ofInt_add, ← Int32.ofInt_sub, ← Int32.ofInt_mul]; done) | exact congrArg Int32.ofInt (by omega) | rfl)) (hc : c = Int32.ofInt bar := by (first | assumption | (simp only [z_nat, z_lit, ← Int32.ofInt_add, ← Int32.ofInt_sub, ← Int32.ofInt_mul]; exact congrArg Int32.ofInt (by omega)) | (simp only [z_nat, z_lit, ← Int32.ofInt_add, ← Int32.ofInt_sub, ← Int32.ofInt_mul]; done) | exact congrArg Int32.ofInt (by omega) | rfl)) : q_C q_mt (L, xs, q_shp) E nX12_totalBy (d + 6) 0 0 [.ref 271, .int (a), .int (b), .int (c)] M Q := by
  subst ha hb hc
  have h6 := g.e6
  have h7 := g.r6
  have hfr := (g.bn.2.1 e he).2
  have W := lp_m (W := fun k M' => ∀ u v, n (618 + e) ≤ (k : Int) + 1 → u = Int32.ofInt (fb_si (tof t n e dr bar) k) → v = nI (k + 1) → q_G q_mt (L, xs, q_shp) E nX12_totalBy (d + 6) 0 0 (q_Q (L, xs, q_shp) E Q) 15 [some (.ref 271), some (.int (nI e)), some (.int (nI dr)), some (.int (Int32.ofInt bar)), some (.int (u)), some (.int (v))] [] M') (J := fun k M' => q_fs [293] fD M M') (t 0 0) ?_ ?_ (n (618 + e) - 1).toNat M (by omega) q_fs.rf
  · refine w_in 90 [15] ?_
    refine ⟨618 + e, Int32.ofInt (n (618 + e)), by (first | assumption | (simp only [z_nat, z_lit, ← Int32.ofInt_add, ← Int32.ofInt_sub, ← Int32.ofInt_mul]; exact congrArg Int32.ofInt (by omega)) | (simp only [z_nat, z_lit, ← Int32.ofInt_add, ← Int32.ofInt_sub, ← Int32.ofInt_mul]; done) | exact congrArg Int32.ofInt (by omega) | rfl), by (dsimp only; omega), g.at (by omega), ?_⟩
    refine W _ _ (by omega) ?_ (by rw [z_nat]; exact congrArg Int32.ofInt (by omega))
    have hz : ∀ k : Nat, (k : Int) < n (618 + e) → fb_si (tof t n e dr bar) k = 0 := by
      intro k
      induction k with
      | zero => intro _; rfl
      | succ k ih =>
        intro hk
        rw [fb_si_succ, ih (by omega)]
        unfold tof
        rw [if_neg (by omega)]
        rfl
    rw [hz _ (by omega)]
  · rintro M' hf u v - rfl rfl
    have g' := g.fs hf
    refine w_at 90 [15] ?_
    refine ⟨0, nI (t 0 0), by (first | assumption | (simp only [z_nat, z_lit, ← Int32.ofInt_add, ← Int32.ofInt_sub, ← Int32.ofInt_mul]; exact congrArg Int32.ofInt (by omega)) | (simp only [z_nat, z_lit, ← Int32.ofInt_add, ← Int32.ofInt_sub, ← Int32.ofInt_mul]; done) | exact congrArg Int32.ofInt (by omega) | rfl), by (dsimp only; omega), g'.R0, ?_⟩
    exact z_lt (t 0 0) ((t 0 0 + 1 : Nat) : Int) (fun h => ⟨_, rfl, hQ M' hf⟩) (fun h => by omega)
  · rintro k M' hk hf ih u v hk2 rfl rfl
    have g' := g.fs hf
    refine w_at 90 [15] ?_
    refine ⟨0, nI (t 0 0), by (first | assumption | (simp only [z_nat, z_lit, ← Int32.ofInt_add, ← Int32.ofInt_sub, ← Int32.ofInt_mul]; exact congrArg Int32.ofInt (by omega)) | (simp only [z_nat, z_lit, ← Int32.ofInt_add, ← Int32.ofInt_sub, ← Int32.ofInt_mul]; done) | exact congrArg Int32.ofInt (by omega) | rfl), by (dsimp only; omega), g'.R0, ?_⟩
    refine z_lt (t 0 0) ((k + 1 : Nat) : Int) (fun h => by omega) (fun h => ?_)
    refine k_isGiven g' e k he hk (fun h1 => br_f (by decide) ?_) (fun h1 => br_t (by decide) ?_)
    · refine k_pointsBy g' e k dr bar he hk hdr hbar (fun M2 hf2 => ?_)
      refine ih M2 (hf.tr hf2) _ _ (by omega) ?_ (by (first | assumption | (simp only [z_nat, z_lit, ← Int32.ofInt_add, ← Int32.ofInt_sub, ← Int32.ofInt_mul]; exact congrArg Int32.ofInt (by omega)) | (simp only [z_nat, z_lit, ← Int32.ofInt_add, ← Int32.ofInt_sub, ← Int32.ofInt_mul]; done) | exact congrArg Int32.ofInt (by omega) | rfl))
      rw [fb_si_succ, show tof t n e dr bar k = ptE t n e k dr bar from if_pos ⟨hk2, h1⟩]
      (first | assumption | (simp only [z_nat, z_lit, ← Int32.ofInt_add, ← Int32.ofInt_sub, ← Int32.ofInt_mul]; exact congrArg Int32.ofInt (by omega)) | (simp only [z_nat, z_lit, ← Int32.ofInt_add, ← Int32.ofInt_sub, ← Int32.ofInt_mul]; done) | exact congrArg Int32.ofInt (by omega) | rfl)
    · refine ih M' hf _ _ (by omega) ?_ (by (first | assumption | (simp only [z_nat, z_lit, ← Int32.ofInt_add, ← Int32.ofInt_sub, ← Int32.ofInt_mul]; exact congrArg Int32.ofInt (by omega)) | (simp only [z_nat, z_lit, ← Int32.ofInt_add, ← Int32.ofInt_sub, ← Int32.ofInt_mul]; done) | exact congrArg Int32.ofInt (by omega) | rfl))
      rw [fb_si_succ, show tof t n e dr bar k = 0 from if_neg (by omega)]
      (first | assumption | (simp only [z_nat, z_lit, ← Int32.ofInt_add, ← Int32.ofInt_sub, ← Int32.ofInt_mul]; exact congrArg Int32.ofInt (by omega)) | (simp only [z_nat, z_lit, ← Int32.ofInt_add, ← Int32.ofInt_sub, ← Int32.ofInt_mul]; done) | exact congrArg Int32.ofInt (by omega) | rfl)
set_option maxRecDepth 100000 in
set_option maxHeartbeats 4000000 in
theorem k_totalOf (g : g_R M t n) {a : Int32} (e : Nat) (he : e < t 8 0) (hQ : ∀ M', q_fs [293] fD M M' → Q (some (.int (Int32.ofInt (toE t n e (t 1 0) (-1))))) M') (ha : a = nI e := by (first | assumption | (simp only [z_nat, z_lit, ← Int32.ofInt_add, ← Int32.ofInt_sub, ← Int32.ofInt_mul]; exact congrArg Int32.ofInt (by omega)) | (simp only [z_nat, z_lit, ← Int32.ofInt_add, ← Int32.ofInt_sub, ← Int32.ofInt_mul]; done) | exact congrArg Int32.ofInt (by omega) | rfl)) : q_C q_mt (L, xs, q_shp) E nX12_totalOf (d + 7) 0 0 [.ref 271, .int (a)] M Q := by
  subst ha
  refine w_in 90 [] ?_
  refine ⟨1, nI (t 1 0), by (first | assumption | (simp only [z_nat, z_lit, ← Int32.ofInt_add, ← Int32.ofInt_sub, ← Int32.ofInt_mul]; exact congrArg Int32.ofInt (by omega)) | (simp only [z_nat, z_lit, ← Int32.ofInt_add, ← Int32.ofInt_sub, ← Int32.ofInt_mul]; done) | exact congrArg Int32.ofInt (by omega) | rfl), by (dsimp only; omega), g.R1, ?_⟩
  refine k_totalBy g e (t 1 0) (-1) he g.p3 (by omega) (fun M' hf => ?_)
  exact ⟨_, rfl, hQ M' hf⟩
end RT
