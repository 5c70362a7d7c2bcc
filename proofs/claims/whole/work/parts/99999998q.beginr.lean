/-! a MEET begins: the reference -/
def a_0 (k : Nat) : Int := if 36 ≤ k ∧ k < 432 then -1 else 0
def a_1 (f : Nat → Int) (i k : Nat) : Int := if k < i then f k else if 432 ≤ k ∧ k < 432 + i then 20 else a_0 k
def a_2 (f : Nat → Int) (i k : Nat) : Int := if 624 ≤ k ∧ k < 624 + i then ((k - 624 : Nat) : Int) else if 618 ≤ k ∧ k < 618 + i then 1 else a_1 f 36 k
theorem a_3 {t : q_T} {f : Nat → Int} {k : Nat} (h6 : t 8 0 ≤ 6) (hk : k < 634) (h0 : ¬ k = 630) (h1 : ¬ k = 631) : n_0 t f k = a_2 f (t 8 0) k := by
  unfold n_0 a_2 a_1 a_0
  by_cases c1 : k < 36
  · rw [if_pos c1, if_neg (by omega), if_neg (by omega), if_pos c1]
  · rw [if_neg c1]
    by_cases c2 : k < 432
    · rw [if_pos c2, if_neg (by omega), if_neg (by omega), if_neg c1, if_neg (by omega), if_pos (by omega)]
    · rw [if_neg c2]
      by_cases c3 : k < 468
      · rw [if_pos c3, if_neg (by omega), if_neg (by omega), if_neg c1, if_pos (by omega)]
      · rw [if_neg c3]
        by_cases c4 : k < 618
        · rw [if_pos c4, if_neg (by omega), if_neg (by omega), if_neg c1, if_neg (by omega), if_neg (by omega)]
        · rw [if_neg c4]
          by_cases c5 : k < 624
          · rw [if_pos c5]
            by_cases c6 : k - 618 < t 8 0
            · rw [if_pos c6, if_neg (show ¬ (624 ≤ k ∧ k < 624 + t 8 0) by omega), if_pos (show 618 ≤ k ∧ k < 618 + t 8 0 by omega)]
            · rw [if_neg c6, if_neg (show ¬ (624 ≤ k ∧ k < 624 + t 8 0) by omega), if_neg (show ¬ (618 ≤ k ∧ k < 618 + t 8 0) by omega), if_neg c1, if_neg (by omega), if_neg (by omega)]
          · rw [if_neg c5]
            by_cases c7 : k < 630
            · rw [if_pos c7]
              by_cases c6 : k - 624 < t 8 0
              · rw [if_pos c6, if_pos (by omega)]
              · rw [if_neg c6, if_neg (by omega), if_neg (by omega), if_neg c1, if_neg (by omega), if_neg (by omega)]
            · rw [if_neg c7, if_neg h0, if_neg h1, if_neg (by omega), if_neg (by omega), if_neg c1, if_neg (by omega), if_neg (by omega)]
section BR
variable {L : Nat} {xs : Nat → Int32} {E : q_E} {d : Nat} {M : q_M} {t : q_T} {n : sN} {Q : Option Value → q_M → Prop} {P : q_M → Prop}
set_option maxRecDepth 100000 in
set_option maxHeartbeats 4000000 in
theorem k_begins {f : Nat → Int} (h4 : M.1 280 4 = nI (t 8 0)) (h6 : t 8 0 ≤ 6) (hf62 : ∀ k, k < 36 → M.1 280 (62 + k) = Int32.ofInt (f k)) (hQ : ∀ M', q_fs [284, 288] [(271, 28)] M M' → r_N 284 0 M' (n_0 t f) → M'.1 271 28 = nI 0 → M'.1 288 0 = Int32.ofInt 0 → M'.1 288 1 = Int32.ofInt 0 → Q none M') : q_C q_mt (L, xs, q_shp) E nX12_begins (d) 0 0 [.ref 271] M Q := by
  -- who dives
  have D : ∀ M1, q_fs [284] [] M M1 → (∀ k, k < 634 → M1.1 284 k = Int32.ofInt (a_1 f 36 k)) → ∀ v, v = nI 0 → q_G q_mt (L, xs, q_shp) E nX12_begins (d) 0 0 (q_Q (L, xs, q_shp) E Q) 84 [some (.ref 271), some (.int (v))] [] M1 := by
    intro M1 hf1 hm1
    refine lp_m (W := fun i M' => ∀ v, v = nI i → q_G q_mt (L, xs, q_shp) E nX12_begins (d) 0 0 (q_Q (L, xs, q_shp) E Q) 84 [some (.ref 271), some (.int (v))] [] M') (J := fun i M' => q_fs [284] [] M M' ∧ ∀ k, k < 634 → M'.1 284 k = Int32.ofInt (a_2 f i k)) (t 8 0) ?_ ?_ 0 M1 (Nat.zero_le _) ⟨hf1, fun k hk => ?_⟩
    · rintro M2 ⟨hf2, hm2⟩ v rfl
      have e4 : M2.1 280 4 = nI (t 8 0) := (hf2.p1 280 4).trans h4
      refine w_at 90 [2, 41, 84] ?_
      refine ⟨4, _, by (first | assumption | (simp only [z_nat, z_lit, ← Int32.ofInt_add, ← Int32.ofInt_sub, ← Int32.ofInt_mul]; exact congrArg Int32.ofInt (by omega)) | (simp only [z_nat, z_lit, ← Int32.ofInt_add, ← Int32.ofInt_sub, ← Int32.ofInt_mul]; done) | exact congrArg Int32.ofInt (by omega) | rfl), by (dsimp only; omega), e4, ?_⟩
      refine z_le (t 8 0 : Int) (t 8 0) (fun _ => ?_) (fun h => by omega)
      refine ⟨4, _, by (first | assumption | (simp only [z_nat, z_lit, ← Int32.ofInt_add, ← Int32.ofInt_sub, ← Int32.ofInt_mul]; exact congrArg Int32.ofInt (by omega)) | (simp only [z_nat, z_lit, ← Int32.ofInt_add, ← Int32.ofInt_sub, ← Int32.ofInt_mul]; done) | exact congrArg Int32.ofInt (by omega) | rfl), by (dsimp only; omega), e4, ?_⟩
      refine ⟨630, _, by (first | assumption | (simp only [z_nat, z_lit, ← Int32.ofInt_add, ← Int32.ofInt_sub, ← Int32.ofInt_mul]; exact congrArg Int32.ofInt (by omega)) | (simp only [z_nat, z_lit, ← Int32.ofInt_add, ← Int32.ofInt_sub, ← Int32.ofInt_mul]; done) | exact congrArg Int32.ofInt (by omega) | rfl), by (dsimp only; omega), rfl, ?_⟩
      refine ⟨631, _, by (first | assumption | (simp only [z_nat, z_lit, ← Int32.ofInt_add, ← Int32.ofInt_sub, ← Int32.ofInt_mul]; exact congrArg Int32.ofInt (by omega)) | (simp only [z_nat, z_lit, ← Int32.ofInt_add, ← Int32.ofInt_sub, ← Int32.ofInt_mul]; done) | exact congrArg Int32.ofInt (by omega) | rfl), by (dsimp only; omega), rfl, ?_⟩
      refine ⟨_, rfl, ?_⟩
      have i0 := q_inK (i := Int32.ofInt 0) (K := 0) (n := 2) rfl (by decide) rfl
      have i1 := q_inK (i := Int32.ofInt 1) (K := 1) (n := 2) rfl (by decide) rfl
      refine ⟨i0.1, z_0, ?_⟩
      refine ⟨i1.1, z_0, ?_⟩
      rw [i0.2, i1.2]
      have ff : q_fs [284, 288] [(271, 28)] M (q_si (q_si (q_si (q_si (q_si M2 284 630 (nI (t 8 0))) 284 631 (Int32.ofInt 1)) 271 28 (Int32.ofInt 0)) 288 0 (Int32.ofInt 0)) 288 1 (Int32.ofInt 0)) := (hf2.mono).s1.s1.s1.s1.s1
      refine hQ _ ff (fun k hk => ?_) rfl rfl rfl
      show (q_si (q_si M2 284 630 (nI (t 8 0))) 284 631 (Int32.ofInt 1)).1 284 (0 + k) = _
      rw [Nat.zero_add]
      obtain ⟨k0, k1, -, -⟩ := n0_7 (t := t) (f := f)
      by_cases q1 : k = 631
      · rw [q1, q_si_s, k1]
      · rw [q_si_n q1]
        by_cases q0 : k = 630
        · rw [q0, q_si_s, k0]
          rfl
        · rw [q_si_n q0, hm2 k hk, a_3 h6 hk q0 q1]
    · rintro i M2 hi ⟨hf2, hm2⟩ ih v rfl
      have e4 : M2.1 280 4 = nI (t 8 0) := (hf2.p1 280 4).trans h4
      refine w_at 90 [2, 41, 84] ?_
      refine ⟨4, _, by (first | assumption | (simp only [z_nat, z_lit, ← Int32.ofInt_add, ← Int32.ofInt_sub, ← Int32.ofInt_mul]; exact congrArg Int32.ofInt (by omega)) | (simp only [z_nat, z_lit, ← Int32.ofInt_add, ← Int32.ofInt_sub, ← Int32.ofInt_mul]; done) | exact congrArg Int32.ofInt (by omega) | rfl), by (dsimp only; omega), e4, ?_⟩
      refine z_le (t 8 0 : Int) i (fun h => by omega) (fun _ => ?_)
      refine ⟨624 + i, _, by (first | assumption | (simp only [z_nat, z_lit, ← Int32.ofInt_add, ← Int32.ofInt_sub, ← Int32.ofInt_mul]; exact congrArg Int32.ofInt (by omega)) | (simp only [z_nat, z_lit, ← Int32.ofInt_add, ← Int32.ofInt_sub, ← Int32.ofInt_mul]; done) | exact congrArg Int32.ofInt (by omega) | rfl), by (dsimp only; omega), rfl, ?_⟩
      refine ⟨618 + i, _, by (first | assumption | (simp only [z_nat, z_lit, ← Int32.ofInt_add, ← Int32.ofInt_sub, ← Int32.ofInt_mul]; exact congrArg Int32.ofInt (by omega)) | (simp only [z_nat, z_lit, ← Int32.ofInt_add, ← Int32.ofInt_sub, ← Int32.ofInt_mul]; done) | exact congrArg Int32.ofInt (by omega) | rfl), by (dsimp only; omega), rfl, ?_⟩
      refine ih _ ⟨hf2.s1.s1, fun k hk => ?_⟩ _ (by (first | assumption | (simp only [z_nat, z_lit, ← Int32.ofInt_add, ← Int32.ofInt_sub, ← Int32.ofInt_mul]; exact congrArg Int32.ofInt (by omega)) | (simp only [z_nat, z_lit, ← Int32.ofInt_add, ← Int32.ofInt_sub, ← Int32.ofInt_mul]; done) | exact congrArg Int32.ofInt (by omega) | rfl))
      by_cases q1 : k = 618 + i
      · rw [q1, q_si_s]
        unfold a_2
        rw [if_neg (by omega), if_pos (by omega)]
      · rw [q_si_n q1]
        by_cases q0 : k = 624 + i
        · rw [q0, q_si_s]
          unfold a_2
          rw [if_pos (by omega)]
          show nI i = Int32.ofInt ((624 + i - 624 : Nat) : Int)
          rw [show 624 + i - 624 = i by omega]
          rfl
        · rw [q_si_n q0, hm2 k hk]
          unfold a_2
          by_cases c1 : 624 ≤ k ∧ k < 624 + i
          · rw [if_pos c1, if_pos (by omega)]
          · rw [if_neg c1, if_neg (show ¬ (624 ≤ k ∧ k < 624 + (i + 1)) by omega)]
            by_cases c2 : 618 ≤ k ∧ k < 618 + i
            · rw [if_pos c2, if_pos (by omega)]
            · rw [if_neg c2, if_neg (show ¬ (618 ≤ k ∧ k < 618 + (i + 1)) by omega)]
    · rw [hm1 k hk]
      unfold a_2
      rw [if_neg (by omega), if_neg (by omega)]
  -- the lists
  have C : ∀ M1, q_fs [284] [] M M1 → (∀ k, k < 634 → M1.1 284 k = Int32.ofInt (a_0 k)) → ∀ v, v = nI 0 → q_G q_mt (L, xs, q_shp) E nX12_begins (d) 0 0 (q_Q (L, xs, q_shp) E Q) 41 [some (.ref 271), some (.int (v))] [] M1 := by
    intro M1 hf1 hm1
    refine lp_m (W := fun i M' => ∀ v, v = nI i → q_G q_mt (L, xs, q_shp) E nX12_begins (d) 0 0 (q_Q (L, xs, q_shp) E Q) 41 [some (.ref 271), some (.int (v))] [] M') (J := fun i M' => q_fs [284] [] M M' ∧ ∀ k, k < 634 → M'.1 284 k = Int32.ofInt (a_1 f i k)) 36 ?_ ?_ 0 M1 (Nat.zero_le _) ⟨hf1, fun k hk => ?_⟩
    · rintro M2 ⟨hf2, hm2⟩ v rfl
      refine w_at 90 [2, 41, 84] ?_
      exact z_le 36 ((36 : Nat) : Int) (fun _ => D M2 hf2 hm2 _ rfl) (fun h => by omega)
    · rintro i M2 hi ⟨hf2, hm2⟩ ih v rfl
      have e62 : M2.1 280 (62 + i) = Int32.ofInt (f i) := (hf2.p1 280 (62 + i)).trans (hf62 i hi)
      refine w_at 90 [2, 41, 84] ?_
      refine z_le 36 (i : Int) (fun h => by omega) (fun _ => ?_)
      refine ⟨62 + i, _, by (first | assumption | (simp only [z_nat, z_lit, ← Int32.ofInt_add, ← Int32.ofInt_sub, ← Int32.ofInt_mul]; exact congrArg Int32.ofInt (by omega)) | (simp only [z_nat, z_lit, ← Int32.ofInt_add, ← Int32.ofInt_sub, ← Int32.ofInt_mul]; done) | exact congrArg Int32.ofInt (by omega) | rfl), by (dsimp only; omega), e62, ?_⟩
      refine ⟨i, _, by (first | assumption | (simp only [z_nat, z_lit, ← Int32.ofInt_add, ← Int32.ofInt_sub, ← Int32.ofInt_mul]; exact congrArg Int32.ofInt (by omega)) | (simp only [z_nat, z_lit, ← Int32.ofInt_add, ← Int32.ofInt_sub, ← Int32.ofInt_mul]; done) | exact congrArg Int32.ofInt (by omega) | rfl), by (dsimp only; omega), rfl, ?_⟩
      refine ⟨432 + i, _, by (first | assumption | (simp only [z_nat, z_lit, ← Int32.ofInt_add, ← Int32.ofInt_sub, ← Int32.ofInt_mul]; exact congrArg Int32.ofInt (by omega)) | (simp only [z_nat, z_lit, ← Int32.ofInt_add, ← Int32.ofInt_sub, ← Int32.ofInt_mul]; done) | exact congrArg Int32.ofInt (by omega) | rfl), by (dsimp only; omega), rfl, ?_⟩
      refine ih _ ⟨hf2.s1.s1, fun k hk => ?_⟩ _ (by (first | assumption | (simp only [z_nat, z_lit, ← Int32.ofInt_add, ← Int32.ofInt_sub, ← Int32.ofInt_mul]; exact congrArg Int32.ofInt (by omega)) | (simp only [z_nat, z_lit, ← Int32.ofInt_add, ← Int32.ofInt_sub, ← Int32.ofInt_mul]; done) | exact congrArg Int32.ofInt (by omega) | rfl))
      by_cases q1 : k = 432 + i
      · rw [q1, q_si_s]
        unfold a_1
        rw [if_neg (by omega), if_pos (by omega)]
      · rw [q_si_n q1]
        by_cases q0 : k = i
        · rw [q0, q_si_s]
          unfold a_1
          rw [if_pos (by omega)]
        · rw [q_si_n q0, hm2 k hk]
          unfold a_1
          by_cases c1 : k < i
          · rw [if_pos c1, if_pos (by omega)]
          · rw [if_neg c1, if_neg (show ¬ k < i + 1 by omega)]
            by_cases c2 : 432 ≤ k ∧ k < 432 + i
            · rw [if_pos c2, if_pos (by omega)]
            · rw [if_neg c2, if_neg (show ¬ (432 ≤ k ∧ k < 432 + (i + 1)) by omega)]
    · rw [hm1 k hk]
      unfold a_1
      rw [if_neg (by omega), if_neg (by omega)]
  have W := lp_m (W := fun i M' => ∀ v, v = nI i → q_G q_mt (L, xs, q_shp) E nX12_begins (d) 0 0 (q_Q (L, xs, q_shp) E Q) 2 [some (.ref 271), some (.int (v))] [] M') (J := fun i M' => q_fs [284] [] M M' ∧ ∀ k, k < i → M'.1 284 k = Int32.ofInt (a_0 k)) 634 ?_ ?_ 0 M (Nat.zero_le _) ⟨q_fs.rf, fun k hk => absurd hk (Nat.not_lt_zero _)⟩
  · refine w_in 90 [2, 41, 84] ?_
    exact W _ rfl
  · rintro M2 ⟨hf2, hm2⟩ v rfl
    refine w_at 90 [2, 41, 84] ?_
    exact z_le 634 ((634 : Nat) : Int) (fun _ => C M2 hf2 hm2 _ rfl) (fun h => by omega)
  · rintro i M2 hi ⟨hf2, hm2⟩ ih v rfl
    have nx : ∀ y : Int, a_0 i = y → ∀ M3, M3 = q_si M2 284 i (Int32.ofInt y) → ∀ v, v = nI (i + 1) → q_G q_mt (L, xs, q_shp) E nX12_begins (d) 0 0 (q_Q (L, xs, q_shp) E Q) 2 [some (.ref 271), some (.int (v))] [] M3 := by
      rintro y hy M3 rfl v rfl
      refine ih _ ⟨hf2.s1, fun k hk => ?_⟩ _ rfl
      by_cases q : k = i
      · rw [q, q_si_s, hy]
      · rw [q_si_n q]
        exact hm2 k (by omega)
    refine w_at 90 [2, 41, 84] ?_
    refine z_le 634 (i : Int) (fun h => by omega) (fun _ => ?_)
    refine z_lt (i : Int) 36 (fun c1 => ?_) (fun c1 => ?_)
    · refine ⟨i, _, by (first | assumption | (simp only [z_nat, z_lit, ← Int32.ofInt_add, ← Int32.ofInt_sub, ← Int32.ofInt_mul]; exact congrArg Int32.ofInt (by omega)) | (simp only [z_nat, z_lit, ← Int32.ofInt_add, ← Int32.ofInt_sub, ← Int32.ofInt_mul]; done) | exact congrArg Int32.ofInt (by omega) | rfl), by (dsimp only; omega), rfl, ?_⟩
      exact nx 0 (by unfold a_0; rw [if_neg (by omega)]) _ rfl _ (by (first | assumption | (simp only [z_nat, z_lit, ← Int32.ofInt_add, ← Int32.ofInt_sub, ← Int32.ofInt_mul]; exact congrArg Int32.ofInt (by omega)) | (simp only [z_nat, z_lit, ← Int32.ofInt_add, ← Int32.ofInt_sub, ← Int32.ofInt_mul]; done) | exact congrArg Int32.ofInt (by omega) | rfl))
    · refine z_le 432 (i : Int) (fun c2 => ?_) (fun c2 => ?_)
      · refine ⟨i, _, by (first | assumption | (simp only [z_nat, z_lit, ← Int32.ofInt_add, ← Int32.ofInt_sub, ← Int32.ofInt_mul]; exact congrArg Int32.ofInt (by omega)) | (simp only [z_nat, z_lit, ← Int32.ofInt_add, ← Int32.ofInt_sub, ← Int32.ofInt_mul]; done) | exact congrArg Int32.ofInt (by omega) | rfl), by (dsimp only; omega), rfl, ?_⟩
        exact nx 0 (by unfold a_0; rw [if_neg (by omega)]) _ rfl _ (by (first | assumption | (simp only [z_nat, z_lit, ← Int32.ofInt_add, ← Int32.ofInt_sub, ← Int32.ofInt_mul]; exact congrArg Int32.ofInt (by omega)) | (simp only [z_nat, z_lit, ← Int32.ofInt_add, ← Int32.ofInt_sub, ← Int32.ofInt_mul]; done) | exact congrArg Int32.ofInt (by omega) | rfl))
      · refine ⟨i, _, by (first | assumption | (simp only [z_nat, z_lit, ← Int32.ofInt_add, ← Int32.ofInt_sub, ← Int32.ofInt_mul]; exact congrArg Int32.ofInt (by omega)) | (simp only [z_nat, z_lit, ← Int32.ofInt_add, ← Int32.ofInt_sub, ← Int32.ofInt_mul]; done) | exact congrArg Int32.ofInt (by omega) | rfl), by (dsimp only; omega), rfl, ?_⟩
        exact nx (-1) (by unfold a_0; rw [if_pos (by omega)]) _ rfl _ (by (first | assumption | (simp only [z_nat, z_lit, ← Int32.ofInt_add, ← Int32.ofInt_sub, ← Int32.ofInt_mul]; exact congrArg Int32.ofInt (by omega)) | (simp only [z_nat, z_lit, ← Int32.ofInt_add, ← Int32.ofInt_sub, ← Int32.ofInt_mul]; done) | exact congrArg Int32.ofInt (by omega) | rfl))
-- what was told is taken over; the MEET begins
set_option maxRecDepth 100000 in
set_option maxHeartbeats 4000000 in
theorem k_meetEnd {f : Nat → Int} {N : Nat} (dr : dR M t) (h7 : M.1 279 7 = nI N) (h6 : t 8 0 ≤ 6) (hf62 : ∀ k, k < 36 → M.1 279 (62 + k) = Int32.ofInt (f k)) (hQ : ∀ M', q_fs [280, 282, 284, 288] [(271, 28)] M M' → (∀ k, k < 1685 → M'.1 280 k = M.1 279 k) → (∀ k, k < 16 → M'.2 282 k = M.2 281 k) → r_N 284 0 M' (n_0 t f) → M'.1 271 28 = nI 0 → M'.1 288 0 = Int32.ofInt 0 → M'.1 288 1 = Int32.ofInt 0 → Q (some (.int (nI N))) M') : ∀ v, v = nI 0 → q_G q_mt (L, xs, q_shp) E nX12_meet (d + 10) 0 0 (q_Q (L, xs, q_shp) E Q) 86 [some (.ref 271), some (.int (v))] [] M := by
  have C : ∀ M1, q_fs [280] [] M M1 → (∀ k, k < 1685 → M1.1 280 k = M.1 279 k) → ∀ v, v = nI 0 → q_G q_mt (L, xs, q_shp) E nX12_meet (d + 10) 0 0 (q_Q (L, xs, q_shp) E Q) 113 [some (.ref 271), some (.int (v))] [] M1 := by
    intro M1 hf1 hm1
    refine lp_m (W := fun i M' => ∀ v, v = nI i → q_G q_mt (L, xs, q_shp) E nX12_meet (d + 10) 0 0 (q_Q (L, xs, q_shp) E Q) 113 [some (.ref 271), some (.int (v))] [] M') (J := fun i M' => q_fs [282] [] M1 M' ∧ ∀ k, k < i → M'.2 282 k = M.2 281 k) 16 ?_ ?_ 0 M1 (Nat.zero_le _) ⟨q_fs.rf, fun k hk => absurd hk (Nat.not_lt_zero _)⟩
    · rintro M2 ⟨hf2, hm2⟩ v rfl
      have e80 : ∀ k, k < 1685 → M2.1 280 k = M.1 279 k := fun k hk => (hf2.p1 280 k).trans (hm1 k hk)
      have e4 : M2.1 280 4 = nI (t 8 0) := (e80 4 (by omega)).trans dr.1.2.2.2.2.1
      refine w_at 90 [86, 113] ?_
      refine z_le 16 ((16 : Nat) : Int) (fun _ => ?_) (fun h => by omega)
      refine k_begins (t := t) (f := f) e4 h6 (fun k hk => (e80 (62 + k) (by omega)).trans (hf62 k hk)) (fun M3 hf3 r3 f28 f0 f1 => ?_)
      have e7 : M3.1 280 7 = nI N := (hf3.p1 280 7).trans ((e80 7 (by omega)).trans h7)
      refine ⟨7, _, by (first | assumption | (simp only [z_nat, z_lit, ← Int32.ofInt_add, ← Int32.ofInt_sub, ← Int32.ofInt_mul]; exact congrArg Int32.ofInt (by omega)) | (simp only [z_nat, z_lit, ← Int32.ofInt_add, ← Int32.ofInt_sub, ← Int32.ofInt_mul]; done) | exact congrArg Int32.ofInt (by omega) | rfl), by (dsimp only; omega), e7, ?_⟩
      exact ⟨_, rfl, hQ M3 (hf1.mono.tr (hf2.mono.tr hf3.mono)) (fun k hk => (hf3.p1 280 k).trans (e80 k hk)) (fun k hk => (hf3.p2 282 k).trans (hm2 k hk)) r3 f28 f0 f1⟩
    · rintro i M2 hi ⟨hf2, hm2⟩ ih v rfl
      have e81 : M2.2 281 i = M.2 281 i := (hf2.p2 281 i).trans (hf1.p2 281 i)
      refine w_at 90 [86, 113] ?_
      refine z_le 16 (i : Int) (fun h => by omega) (fun _ => ?_)
      refine ⟨i, _, by (first | assumption | (simp only [z_nat, z_lit, ← Int32.ofInt_add, ← Int32.ofInt_sub, ← Int32.ofInt_mul]; exact congrArg Int32.ofInt (by omega)) | (simp only [z_nat, z_lit, ← Int32.ofInt_add, ← Int32.ofInt_sub, ← Int32.ofInt_mul]; done) | exact congrArg Int32.ofInt (by omega) | rfl), by (dsimp only; omega), e81, ?_⟩
      refine ⟨i, _, by (first | assumption | (simp only [z_nat, z_lit, ← Int32.ofInt_add, ← Int32.ofInt_sub, ← Int32.ofInt_mul]; exact congrArg Int32.ofInt (by omega)) | (simp only [z_nat, z_lit, ← Int32.ofInt_add, ← Int32.ofInt_sub, ← Int32.ofInt_mul]; done) | exact congrArg Int32.ofInt (by omega) | rfl), by (dsimp only; omega), rfl, ?_⟩
      refine ih _ ⟨hf2.s2, fun k hk => ?_⟩ _ (by (first | assumption | (simp only [z_nat, z_lit, ← Int32.ofInt_add, ← Int32.ofInt_sub, ← Int32.ofInt_mul]; exact congrArg Int32.ofInt (by omega)) | (simp only [z_nat, z_lit, ← Int32.ofInt_add, ← Int32.ofInt_sub, ← Int32.ofInt_mul]; done) | exact congrArg Int32.ofInt (by omega) | rfl))
      by_cases q : k = i
      · rw [q, q_sl_s]
      · rw [q_sl_n q]
        exact hm2 k (by omega)
  have W := lp_m (W := fun i M' => ∀ v, v = nI i → q_G q_mt (L, xs, q_shp) E nX12_meet (d + 10) 0 0 (q_Q (L, xs, q_shp) E Q) 86 [some (.ref 271), some (.int (v))] [] M') (J := fun i M' => q_fs [280] [] M M' ∧ ∀ k, k < i → M'.1 280 k = M.1 279 k) 1685 ?_ ?_ 0 M (Nat.zero_le _) ⟨q_fs.rf, fun k hk => absurd hk (Nat.not_lt_zero _)⟩
  · exact W
  · rintro M2 ⟨hf2, hm2⟩ v rfl
    refine w_at 90 [86, 113] ?_
    exact z_le 1685 ((1685 : Nat) : Int) (fun _ => C M2 hf2 hm2 _ rfl) (fun h => by omega)
  · rintro i M2 hi ⟨hf2, hm2⟩ ih v rfl
    have e79 : M2.1 279 i = M.1 279 i := hf2.p1 279 i
    refine w_at 90 [86, 113] ?_
    refine z_le 1685 (i : Int) (fun h => by omega) (fun _ => ?_)
    refine ⟨i, _, by (first | assumption | (simp only [z_nat, z_lit, ← Int32.ofInt_add, ← Int32.ofInt_sub, ← Int32.ofInt_mul]; exact congrArg Int32.ofInt (by omega)) | (simp only [z_nat, z_lit, ← Int32.ofInt_add, ← Int32.ofInt_sub, ← Int32.ofInt_mul]; done) | exact congrArg Int32.ofInt (by omega) | rfl), by (dsimp only; omega), e79, ?_⟩
    refine ⟨i, _, by (first | assumption | (simp only [z_nat, z_lit, ← Int32.ofInt_add, ← Int32.ofInt_sub, ← Int32.ofInt_mul]; exact congrArg Int32.ofInt (by omega)) | (simp only [z_nat, z_lit, ← Int32.ofInt_add, ← Int32.ofInt_sub, ← Int32.ofInt_mul]; done) | exact congrArg Int32.ofInt (by omega) | rfl), by (dsimp only; omega), rfl, ?_⟩
    refine ih _ ⟨hf2.s1, fun k hk => ?_⟩ _ (by (first | assumption | (simp only [z_nat, z_lit, ← Int32.ofInt_add, ← Int32.ofInt_sub, ← Int32.ofInt_mul]; exact congrArg Int32.ofInt (by omega)) | (simp only [z_nat, z_lit, ← Int32.ofInt_add, ← Int32.ofInt_sub, ← Int32.ofInt_mul]; done) | exact congrArg Int32.ofInt (by omega) | rfl))
    by_cases q : k = i
    · rw [q, q_si_s]
    · rw [q_si_n q]
      exact hm2 k (by omega)
end BR
