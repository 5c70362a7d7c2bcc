/-! what is laid aside, remembered, given in all -/
section HI
variable {L : Nat} {xs : Nat → Int32} {E : q_E} {d : Nat} {M : q_M} {t : q_T} {n : sN} {Q : Option Value → q_M → Prop} {P : q_M → Prop}
set_option maxRecDepth 100000 in
set_option maxHeartbeats 4000000 in
theorem k_laysAside (hQ : ∀ M', q_fs [285] [] M M' → (∀ k, k < 634 → M'.1 285 k = M.1 284 k) → Q none M') : q_C q_mt (L, xs, q_shp) E nX12_laysAside (d) 0 0 [.ref 271] M Q := by
  have W := lp_m (W := fun i M' => ∀ v, v = nI i → q_G q_mt (L, xs, q_shp) E nX12_laysAside (d) 0 0 (q_Q (L, xs, q_shp) E Q) 2 [some (.ref 271), some (.int (v))] [] M') (J := fun i M' => q_fs [285] [] M M' ∧ ∀ k, k < i → M'.1 285 k = M.1 284 k) 634 ?_ ?_ 0 M (Nat.zero_le _) ⟨q_fs.rf, fun k hk => absurd hk (Nat.not_lt_zero _)⟩
  · refine w_in 90 [2] ?_
    exact W _ rfl
  · rintro M' ⟨hf, hm⟩ v rfl
    refine w_at 90 [2] ?_
    exact z_le 634 (634 : Nat) (fun _ => hQ M' hf hm) (fun h => by omega)
  · rintro i M' hi ⟨hf, hm⟩ ih v rfl
    have e : M'.1 284 i = M.1 284 i := by rw [hf.c1 284]
    refine w_at 90 [2] ?_
    refine z_le 634 (i : Int) (fun h => by omega) (fun _ => ?_)
    refine ⟨i, _, by (first | assumption | (simp only [z_nat, z_lit, ← Int32.ofInt_add, ← Int32.ofInt_sub, ← Int32.ofInt_mul]; exact congrArg Int32.ofInt (by omega)) | (simp only [z_nat, z_lit, ← Int32.ofInt_add, ← Int32.ofInt_sub, ← Int32.ofInt_mul]; done) | exact congrArg Int32.ofInt (by omega) | rfl), by (dsimp only; omega), e, ?_⟩
    refine ⟨i, _, by (first | assumption | (simp only [z_nat, z_lit, ← Int32.ofInt_add, ← Int32.ofInt_sub, ← Int32.ofInt_mul]; exact congrArg Int32.ofInt (by omega)) | (simp only [z_nat, z_lit, ← Int32.ofInt_add, ← Int32.ofInt_sub, ← Int32.ofInt_mul]; done) | exact congrArg Int32.ofInt (by omega) | rfl), by (dsimp only; omega), rfl, ?_⟩
    refine ih _ ⟨hf.s1, fun k hk => ?_⟩ _ (by (first | assumption | (simp only [z_nat, z_lit, ← Int32.ofInt_add, ← Int32.ofInt_sub, ← Int32.ofInt_mul]; exact congrArg Int32.ofInt (by omega)) | (simp only [z_nat, z_lit, ← Int32.ofInt_add, ← Int32.ofInt_sub, ← Int32.ofInt_mul]; done) | exact congrArg Int32.ofInt (by omega) | rfl))
    by_cases q : k = i
    · rw [q, q_si_s]
    · rw [q_si_n q]
      exact hm k (by omega)
/-- what the reference remembers: c rows, the oldest first -/
def g_H (M : q_M) (c : Nat) (H : Nat → sN) : Prop := c ≤ 20 ∧ M.1 271 28 = nI c ∧ ∀ i, i < c → ∀ k, k < 634 → M.1 286 (634 * i + k) = Int32.ofInt (H i k)
/-- one more -/
def hNx (c : Nat) (H : Nat → sN) (n : sN) : Nat → sN := if c < 20 then fun i => if i < c then H i else n else fun i => if i < 19 then H (i + 1) else n
set_option maxRecDepth 100000 in
set_option maxHeartbeats 4000000 in
theorem k_rem2 {c : Nat} {H : Nat → sN} (h : g_H M c H) (hc : c < 20) (hn : ∀ k, k < 634 → M.1 285 k = Int32.ofInt (n k)) (hQ : ∀ M', q_fs [286] [(271, 28)] M M' → g_H M' (c + 1) (fun i => if i < c then H i else n) → Q none M') : q_G q_mt (L, xs, q_shp) E nX12_remembers (d) 0 0 (q_Q (L, xs, q_shp) E Q) 54 [some (.ref 271), some (.int (Int32.ofInt 0))] [] M := by
  have W := lp_m (W := fun i M' => ∀ v, v = nI i → q_G q_mt (L, xs, q_shp) E nX12_remembers (d) 0 0 (q_Q (L, xs, q_shp) E Q) 54 [some (.ref 271), some (.int (v))] [] M') (J := fun i M' => q_fs [286] [] M M' ∧ ∀ j, j < 12680 → M'.1 286 j = if 634 * c ≤ j ∧ j < 634 * c + i then Int32.ofInt (n (j - 634 * c)) else M.1 286 j) 634 ?_ ?_ 0 M (Nat.zero_le _) ⟨q_fs.rf, fun j hj => by rw [if_neg (by omega)]⟩
  · exact W _ rfl
  · rintro M' ⟨hf, hm⟩ v rfl
    have e28 : M'.1 271 28 = nI c := by rw [hf.c1 271]; exact h.2.1
    refine w_at 90 [13, 54] ?_
    refine z_le 634 (634 : Nat) (fun _ => ?_) (fun h => by omega)
    refine ⟨_, e28, ?_⟩
    refine ⟨nI (c + 1), by (first | assumption | (simp only [z_nat, z_lit, ← Int32.ofInt_add, ← Int32.ofInt_sub, ← Int32.ofInt_mul]; exact congrArg Int32.ofInt (by omega)) | (simp only [z_nat, z_lit, ← Int32.ofInt_add, ← Int32.ofInt_sub, ← Int32.ofInt_mul]; done) | exact congrArg Int32.ofInt (by omega) | rfl), ?_⟩
    refine hQ _ (hf.mono.s1) ⟨by omega, q_si_s, fun i hi k hk => ?_⟩
    show M'.1 286 (634 * i + k) = _
    rw [hm _ (by omega)]
    by_cases q : i < c
    · have hl : 634 * i + 634 ≤ 634 * c := by omega
      rw [if_neg (by omega)]
      dsimp only
      rw [if_pos q]
      exact h.2.2 i q k hk
    · obtain rfl : i = c := by omega
      rw [if_pos (by omega)]
      dsimp only
      rw [if_neg q]
      exact congrArg (fun z => Int32.ofInt (n z)) (by omega)
  · rintro i M' hi ⟨hf, hm⟩ ih v rfl
    have e28 : M'.1 271 28 = nI c := by rw [hf.c1 271]; exact h.2.1
    have e85 : M'.1 285 i = Int32.ofInt (n i) := by rw [hf.c1 285]; exact hn i hi
    have hl : 634 * c + 634 ≤ 12680 := by omega
    refine w_at 90 [13, 54] ?_
    refine z_le 634 (i : Int) (fun h => by omega) (fun _ => ?_)
    refine ⟨_, e28, ?_⟩
    refine ⟨i, _, by (first | assumption | (simp only [z_nat, z_lit, ← Int32.ofInt_add, ← Int32.ofInt_sub, ← Int32.ofInt_mul]; exact congrArg Int32.ofInt (by omega)) | (simp only [z_nat, z_lit, ← Int32.ofInt_add, ← Int32.ofInt_sub, ← Int32.ofInt_mul]; done) | exact congrArg Int32.ofInt (by omega) | rfl), by (dsimp only; omega), e85, ?_⟩
    refine ⟨634 * c + i, _, by (first | assumption | (simp only [z_nat, z_lit, ← Int32.ofInt_add, ← Int32.ofInt_sub, ← Int32.ofInt_mul]; exact congrArg Int32.ofInt (by omega)) | (simp only [z_nat, z_lit, ← Int32.ofInt_add, ← Int32.ofInt_sub, ← Int32.ofInt_mul]; done) | exact congrArg Int32.ofInt (by omega) | rfl), by (dsimp only; omega), rfl, ?_⟩
    refine ih _ ⟨hf.s1, fun j hj => ?_⟩ _ (by (first | assumption | (simp only [z_nat, z_lit, ← Int32.ofInt_add, ← Int32.ofInt_sub, ← Int32.ofInt_mul]; exact congrArg Int32.ofInt (by omega)) | (simp only [z_nat, z_lit, ← Int32.ofInt_add, ← Int32.ofInt_sub, ← Int32.ofInt_mul]; done) | exact congrArg Int32.ofInt (by omega) | rfl))
    by_cases q : j = 634 * c + i
    · rw [q, q_si_s, if_pos (by omega)]
      exact congrArg (fun z => Int32.ofInt (n z)) (by omega)
    · rw [q_si_n q, hm j hj]
      by_cases q2 : 634 * c ≤ j ∧ j < 634 * c + i
      · rw [if_pos q2, if_pos (by omega)]
      · rw [if_neg q2, if_neg (by omega)]
set_option maxRecDepth 100000 in
set_option maxHeartbeats 4000000 in
theorem k_remembers {c : Nat} {H : Nat → sN} (h : g_H M c H) (hn : ∀ k, k < 634 → M.1 285 k = Int32.ofInt (n k)) (hQ : ∀ M', q_fs [286] [(271, 28)] M M' → g_H M' (min 20 (c + 1)) (hNx c H n) → Q none M') : q_C q_mt (L, xs, q_shp) E nX12_remembers (d) 0 0 [.ref 271] M Q := by
  unfold hNx at hQ
  have hc20 := h.1
  by_cases q : c < 20
  · rw [if_pos q, show min 20 (c + 1) = c + 1 by omega] at hQ
    refine w_in 90 [13, 54] ?_
    refine ⟨_, h.2.1, ?_⟩
    refine z_ne (c : Int) 20 (fun _ => ?_) (fun z => by omega)
    exact k_rem2 h q hn hQ
  · obtain rfl : c = 20 := by omega
    rw [if_neg q, show min 20 (20 + 1) = 20 from rfl] at hQ
    have W := lp_m (W := fun l M' => ∀ v, v = nI l → q_G q_mt (L, xs, q_shp) E nX12_remembers (d) 0 0 (q_Q (L, xs, q_shp) E Q) 13 [some (.ref 271), some (.int (v))] [] M') (J := fun l M' => 634 ≤ l ∧ q_fs [286] [] M M' ∧ ∀ j, j < 12680 → M'.1 286 j = if j + 634 < l then M.1 286 (j + 634) else M.1 286 j) 12680 ?_ ?_ 634 M (by omega) ⟨Nat.le_refl _, q_fs.rf, fun j hj => by rw [if_neg (by omega)]⟩
    · refine w_in 90 [13, 54] ?_
      refine ⟨_, h.2.1, ?_⟩
      refine z_ne 20 20 (fun z => absurd rfl z) (fun _ => ?_)
      exact W _ rfl
    · rintro M' ⟨-, hf, hm⟩ v rfl
      have e28 : M'.1 271 28 = nI 20 := by rw [hf.c1 271]; exact h.2.1
      refine w_at 90 [13, 54] ?_
      refine z_le 12680 (12680 : Nat) (fun _ => ?_) (fun h => by omega)
      refine ⟨_, e28, ?_⟩
      refine ⟨nI 19, by (first | assumption | (simp only [z_nat, z_lit, ← Int32.ofInt_add, ← Int32.ofInt_sub, ← Int32.ofInt_mul]; exact congrArg Int32.ofInt (by omega)) | (simp only [z_nat, z_lit, ← Int32.ofInt_add, ← Int32.ofInt_sub, ← Int32.ofInt_mul]; done) | exact congrArg Int32.ofInt (by omega) | rfl), ?_⟩
      have hf2 : q_fs [286] [(271, 28)] M (q_si M' 271 28 (nI 19)) := hf.mono.s1
      refine k_rem2 (n := n) (c := 19) (H := fun i => H (i + 1)) ⟨by omega, q_si_s, fun i hi k hk => ?_⟩ (by omega) (fun k hk => ?_) (fun M3 hf3 h3 => hQ M3 (hf2.tr hf3) ?_)
      · show M'.1 286 (634 * i + k) = _
        rw [hm _ (by omega), if_pos (by omega), show 634 * i + k + 634 = 634 * (i + 1) + k by omega]
        exact h.2.2 (i + 1) (by omega) k hk
      · show M'.1 285 k = _
        rw [hf.c1 285]
        exact hn k hk
      · exact h3
    · rintro l M' hl ⟨q3, hf, hm⟩ ih v rfl
      · have e : M'.1 286 l = M.1 286 l := by rw [hm l hl, if_neg (by omega)]
        refine w_at 90 [13, 54] ?_
        refine z_le 12680 (l : Int) (fun h => by omega) (fun _ => ?_)
        refine ⟨l, _, by (first | assumption | (simp only [z_nat, z_lit, ← Int32.ofInt_add, ← Int32.ofInt_sub, ← Int32.ofInt_mul]; exact congrArg Int32.ofInt (by omega)) | (simp only [z_nat, z_lit, ← Int32.ofInt_add, ← Int32.ofInt_sub, ← Int32.ofInt_mul]; done) | exact congrArg Int32.ofInt (by omega) | rfl), by (dsimp only; omega), e, ?_⟩
        refine ⟨l - 634, _, by (first | assumption | (simp only [z_nat, z_lit, ← Int32.ofInt_add, ← Int32.ofInt_sub, ← Int32.ofInt_mul]; exact congrArg Int32.ofInt (by omega)) | (simp only [z_nat, z_lit, ← Int32.ofInt_add, ← Int32.ofInt_sub, ← Int32.ofInt_mul]; done) | exact congrArg Int32.ofInt (by omega) | rfl), by (dsimp only; omega), rfl, ?_⟩
        refine ih _ ⟨by omega, hf.s1, fun j hj => ?_⟩ _ (by (first | assumption | (simp only [z_nat, z_lit, ← Int32.ofInt_add, ← Int32.ofInt_sub, ← Int32.ofInt_mul]; exact congrArg Int32.ofInt (by omega)) | (simp only [z_nat, z_lit, ← Int32.ofInt_add, ← Int32.ofInt_sub, ← Int32.ofInt_mul]; done) | exact congrArg Int32.ofInt (by omega) | rfl))
        by_cases q2 : j = l - 634
        · rw [q2, q_si_s, if_pos (by omega), show l - 634 + 634 = l by omega]
        · rw [q_si_n q2, hm j hj]
          by_cases q4 : j + 634 < l
          · rw [if_pos q4, if_pos (by omega)]
          · rw [if_neg q4, if_neg (by omega)]
/-- dives given in all -/
def gvA (t : q_T) (n : sN) : Nat := fb_sm (gvN t n) (t 8 0)
set_option maxRecDepth 100000 in
set_option maxHeartbeats 4000000 in
theorem k_givenMany (g : g_R M t n) (hQ : Q (some (.int (nI (gvA t n)))) M) : q_C q_mt (L, xs, q_shp) E nX12_givenMany (d + 3) 0 0 [.ref 271] M Q := by
  have h6 := g.e6
  have h7 := g.r6
  have W := lp_up (W := fun e => ∀ u v, u = nI (fb_sm (gvN t n) e) → v = nI e → q_G q_mt (L, xs, q_shp) E nX12_givenMany (d + 3) 0 0 (q_Q (L, xs, q_shp) E Q) 4 [some (.ref 271), some (.int (u)), some (.int (v))] [] M) (t 8 0) ?_ ?_ 0 (Nat.zero_le _)
  · refine w_in 90 [4] ?_
    exact W _ _ rfl rfl
  · rintro u v rfl rfl
    refine w_at 90 [4] ?_
    refine ⟨4, _, by (first | assumption | (simp only [z_nat, z_lit, ← Int32.ofInt_add, ← Int32.ofInt_sub, ← Int32.ofInt_mul]; exact congrArg Int32.ofInt (by omega)) | (simp only [z_nat, z_lit, ← Int32.ofInt_add, ← Int32.ofInt_sub, ← Int32.ofInt_mul]; done) | exact congrArg Int32.ofInt (by omega) | rfl), by (dsimp only; omega), g.R4, ?_⟩
    exact z_le (t 8 0) (t 8 0) (fun h => ⟨_, rfl, hQ⟩) (fun h => by omega)
  · rintro e he ih u v rfl rfl
    refine w_at 90 [4] ?_
    refine ⟨4, _, by (first | assumption | (simp only [z_nat, z_lit, ← Int32.ofInt_add, ← Int32.ofInt_sub, ← Int32.ofInt_mul]; exact congrArg Int32.ofInt (by omega)) | (simp only [z_nat, z_lit, ← Int32.ofInt_add, ← Int32.ofInt_sub, ← Int32.ofInt_mul]; done) | exact congrArg Int32.ofInt (by omega) | rfl), by (dsimp only; omega), g.R4, ?_⟩
    refine z_le (t 8 0) e (fun h => by omega) (fun h => ?_)
    refine k_givenOf g e he ?_
    exact ih _ _ (by rw [fb_sm_succ]; (first | assumption | (simp only [z_nat, z_lit, ← Int32.ofInt_add, ← Int32.ofInt_sub, ← Int32.ofInt_mul]; exact congrArg Int32.ofInt (by omega)) | (simp only [z_nat, z_lit, ← Int32.ofInt_add, ← Int32.ofInt_sub, ← Int32.ofInt_mul]; done) | exact congrArg Int32.ofInt (by omega) | rfl)) (by (first | assumption | (simp only [z_nat, z_lit, ← Int32.ofInt_add, ← Int32.ofInt_sub, ← Int32.ofInt_mul]; exact congrArg Int32.ofInt (by omega)) | (simp only [z_nat, z_lit, ← Int32.ofInt_add, ← Int32.ofInt_sub, ← Int32.ofInt_mul]; done) | exact congrArg Int32.ofInt (by omega) | rfl))
set_option maxRecDepth 100000 in
set_option maxHeartbeats 4000000 in
theorem k2_countAllGiven (g : g_A 43 M t n) (hQ : Q (some (.int (nI (gvA t n)))) M) : q_C q_mt (L, xs, q_shp) E nX8_countAllGiven (d) 0 0 [.ref 43] M Q := by
  have h6 := g.R.e6
  have eq : fb_sm (gS t n) 6 = gvA t n := by
    obtain ⟨j, hj⟩ : ∃ j, 6 = t 8 0 + j := ⟨6 - t 8 0, by omega⟩
    rw [hj, fb_sm_split]
    have e1 : fb_sm (gS t n) (t 8 0) = gvA t n := fb_sm_cong (fun e he => if_pos he)
    have e2 : fb_sm (fun k => gS t n (t 8 0 + k)) j = fb_sm (fun _ => 0) j := fb_sm_cong (fun e he => if_neg (by omega))
    rw [e1, e2, fb_sm_const]
    omega
  rw [← eq] at hQ
  have W := lp_up (W := fun e => ∀ u v, u = nI (fb_sm (gS t n) e) → v = nI e → q_G q_mt (L, xs, q_shp) E nX8_countAllGiven (d) 0 0 (q_Q (L, xs, q_shp) E Q) 4 [some (.ref 43), some (.int (u)), some (.int (v))] [] M) 6 ?_ ?_ 0 (Nat.zero_le _)
  · refine w_in 90 [4] ?_
    exact W _ _ rfl rfl
  · rintro u v rfl rfl
    refine w_at 90 [4] ?_
    exact z_le 6 (6 : Nat) (fun h => ⟨_, rfl, hQ⟩) (fun h => by omega)
  · rintro e he ih u v rfl rfl
    refine w_at 90 [4] ?_
    refine z_le 6 (e : Int) (fun h => by omega) (fun h => ?_)
    refine ⟨e, _, by (first | assumption | (simp only [z_nat, z_lit, ← Int32.ofInt_add, ← Int32.ofInt_sub, ← Int32.ofInt_mul]; exact congrArg Int32.ofInt (by omega)) | (simp only [z_nat, z_lit, ← Int32.ofInt_add, ← Int32.ofInt_sub, ← Int32.ofInt_mul]; done) | exact congrArg Int32.ofInt (by omega) | rfl), by (dsimp only; omega), (g.S.2.2.1 e he).2.2.1, ?_⟩
    exact ih _ _ (by rw [fb_sm_succ]; (first | assumption | (simp only [z_nat, z_lit, ← Int32.ofInt_add, ← Int32.ofInt_sub, ← Int32.ofInt_mul]; exact congrArg Int32.ofInt (by omega)) | (simp only [z_nat, z_lit, ← Int32.ofInt_add, ← Int32.ofInt_sub, ← Int32.ofInt_mul]; done) | exact congrArg Int32.ofInt (by omega) | rfl)) (by (first | assumption | (simp only [z_nat, z_lit, ← Int32.ofInt_add, ← Int32.ofInt_sub, ← Int32.ofInt_mul]; exact congrArg Int32.ofInt (by omega)) | (simp only [z_nat, z_lit, ← Int32.ofInt_add, ← Int32.ofInt_sub, ← Int32.ofInt_mul]; done) | exact congrArg Int32.ofInt (by omega) | rfl))
end HI
