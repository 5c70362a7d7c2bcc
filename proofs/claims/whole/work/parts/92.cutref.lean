/-! the cut of the reference -/
section CR
variable {L : Nat} {xs : Nat → Int32} {E : q_E} {d : Nat} {M : q_M} {t : q_T} {n : sN} {Q : Option Value → q_M → Prop} {P : q_M → Prop}
theorem bfr_ky {f : Nat → Int} {o e : Nat} (ho : o < 6) (he : e < 6) : bfr (kyF f) o e = true ↔ f o < f e ∨ (f o = f e ∧ e < o) := by
  rw [bfr_iff]
  unfold kyF
  omega
theorem bfr_kyf {f : Nat → Int} {o e : Nat} (ho : o < 6) (he : e < 6) (h : ¬ (f o < f e ∨ (f o = f e ∧ e < o))) : bfr (kyF f) o e = false := Bool.eq_false_iff.mpr (fun z => h ((bfr_ky ho he).mp z))
/-- the row while those who go are marked -/
def cN3 (t : q_T) (n : sN) (c k : Nat) : sN := fun i => if 612 ≤ i ∧ i < 612 + k then (if inE n (i - 612) && !sty t n c (i - 612) then n 631 else n i) else n i
theorem cN3_at {c k e : Nat} (h : e < k) : cN3 t n c k (612 + e) = if inE n e && !sty t n c e then n 631 else n (612 + e) := by
  unfold cN3
  rw [if_pos (by omega), show 612 + e - 612 = e by omega]
theorem cN3_no {c k i : Nat} (h : ¬ (612 ≤ i ∧ i < 612 + k)) : cN3 t n c k i = n i := by
  unfold cN3
  rw [if_neg h]
theorem cN3_N {c k : Nat} (g : b_A t n) (h : 0 ≤ n 631 ∧ n 631 ≤ 6) (hk : k ≤ t 8 0) : b_N t (cN3 t n c k) := by
  have h6 := g.e6
  refine g.bn.of h6 g.r6 g.j11 (fun i hi => cN3_no (by omega)) (fun e he => ?_)
  have x := g.bn.2.1 e he
  rw [cN3_no (i := 618 + e) (by omega)]
  refine ⟨?_, x.2⟩
  by_cases q : e < k
  · rw [cN3_at q]
    split <;> omega
  · rw [cN3_no (by omega)]
    exact x.1
set_option maxRecDepth 100000 in
set_option maxHeartbeats 4000000 in
theorem k_cutsA (g : b_A t n) (e40 : M.1 280 4 = nI (t 8 0)) {y : Int32} (c : Nat) (hc : c < t 13 0) {R : Nat → Nat} (hR : isR (sty t n c) (kyF (toF t n)) (t 8 0) R) (h31 : 0 ≤ n 631 ∧ n 631 ≤ 6) (hs : g_sm M t (toF t n)) (u : Int32) (hu : ∀ i, i < 6 → i < t 8 0 → bt u i = sty t n c i) (hn : ∀ i, i < 634 → ¬ i = 630 → M.1 284 i = Int32.ofInt (cN3 t n c (t 8 0) i)) (h30 : M.1 284 630 = Int32.ofInt 0) (hy : (t 16 c = 1 ∧ y = Int32.ofInt 1) ∨ (¬ t 16 c = 1 ∧ y = Int32.ofInt 0)) (x1 x2 : Option Value) (hQ : ∀ M', q_fs [284] [] M M' → r_N 284 0 M' (cutN t n c R) → Q none M') : q_G q_mt (L, xs, q_shp) E nX12_cuts (d + 9) 0 0 (q_Q (L, xs, q_shp) E Q) 151 [some (.ref 271), some (.int (Int32.ofInt (n 631))), some (.int (nI (t 15 c))), some (.int (y)), some (.int (u)), some (.int (Int32.ofInt 0)), x1, x2] [] M := by
  have h6 := g.e6
  have h15 := g.b2.2.1 c hc
  have sN : styN t n c ≤ t 8 0 := fb_ct_le _ _
  have hb : ∀ o, o < t 8 0 → 0 ≤ toF t n o ∧ toF t n o ≤ 108000 := fun o ho => toE_c g ho
  have W := lp_m (W := fun k M' => ∀ v z1 z2, v = nI k → q_G q_mt (L, xs, q_shp) E nX12_cuts (d + 9) 0 0 (q_Q (L, xs, q_shp) E Q) 151 [some (.ref 271), some (.int (Int32.ofInt (n 631))), some (.int (nI (t 15 c))), some (.int (y)), some (.int (u)), some (.int (v)), z1, z2] [] M') (J := fun k M' => q_fs [284] [] M M' ∧ (∀ i, i < 634 → i < 618 ∨ 630 < i → M'.1 284 i = Int32.ofInt (cN3 t n c (t 8 0) i)) ∧ (∀ e, e < 6 → M'.1 284 (618 + e) = Int32.ofInt (if e < k ∧ sty t n c e = true ∧ t 16 c = 1 then n 631 + 1 else n (618 + e))) ∧ (∀ e, e < k → sty t n c e = true → M'.1 284 (624 + rk (sty t n c) (kyF (toF t n)) (t 8 0) e) = nI e) ∧ (∀ p, styN t n c ≤ p → p < 6 → M'.1 284 (624 + p) = Int32.ofInt (n (624 + p))) ∧ M'.1 284 630 = nI (fb_ct (sty t n c) k)) (t 8 0) ?_ ?_ 0 M (Nat.zero_le _) ⟨q_fs.rf, fun i hi _ => ?_, fun e he => ?_, fun e he => by omega, fun p hp hp6 => ?_, h30⟩
  · exact W _ _ _ rfl
  · rintro M' ⟨hf, hA, hB, hC, hD, hE⟩ v z1 z2 rfl
    have e4 : M'.1 280 4 = nI (t 8 0) := by rw [hf.c1 280]; exact e40
    refine w_at 90 [151, 181] ?_
    refine ⟨4, _, by (first | assumption | (simp only [z_nat, z_lit, ← Int32.ofInt_add, ← Int32.ofInt_sub, ← Int32.ofInt_mul]; exact congrArg Int32.ofInt (by omega)) | (simp only [z_nat, z_lit, ← Int32.ofInt_add, ← Int32.ofInt_sub, ← Int32.ofInt_mul]; done) | exact congrArg Int32.ofInt (by omega) | rfl), by (dsimp only; omega), e4, ?_⟩
    refine z_le (t 8 0) (t 8 0) (fun _ => hQ M' hf (fun i hi => ?_)) (fun h => by omega)
    rw [Nat.zero_add]
    by_cases q1 : i < 618
    · rw [hA i hi (Or.inl q1)]
      by_cases q2 : 612 ≤ i ∧ i < 612 + t 8 0
      · obtain ⟨e, rfl⟩ : ∃ e, i = 612 + e := ⟨i - 612, by omega⟩
        rw [cN3_at (by omega), cut_st (by omega)]
      · rw [cN3_no q2]
        unfold cutN
        rw [if_neg q2, if_neg (by omega), if_neg (by omega), if_neg (by omega)]
    · by_cases q2 : i < 624
      · obtain ⟨e, rfl⟩ : ∃ e, i = 618 + e := ⟨i - 618, by omega⟩
        rw [hB e (by omega)]
        by_cases q3 : e < t 8 0
        · rw [cut_fr q3 h6]
          by_cases q4 : sty t n c e = true ∧ t 16 c = 1
          · rw [if_pos ⟨q3, q4⟩, if_pos (by rw [q4.1, decide_eq_true q4.2]; rfl)]
          · rw [if_neg (fun z => q4 z.2), if_neg (fun z => q4 (by rw [Bool.and_eq_true, decide_eq_true_eq] at z; exact z))]
        · rw [if_neg (fun z => q3 z.1)]
          unfold cutN
          rw [if_neg (by omega), if_neg (by omega), if_neg (by omega), if_neg (by omega)]
      · by_cases q3 : i < 630
        · obtain ⟨p, rfl⟩ : ∃ p, i = 624 + p := ⟨i - 624, by omega⟩
          by_cases q4 : p < styN t n c
          · have r := hR p q4
            have := hC (R p) r.1 r.2.1
            rw [r.2.2] at this
            rw [this, cut_or q4 h6]
            rfl
          · rw [hD p (by omega) (by omega)]
            unfold cutN
            rw [if_neg (by omega), if_neg (by omega), if_neg (by omega), if_neg (by omega)]
        · by_cases q4 : i = 630
          · subst q4
            rw [hE, cut_n h6]
            rfl
          · rw [hA i hi (Or.inr (by omega)), cN3_no (by omega), cut_hi (by omega) h6]
  · rintro k M' hk ⟨hf, hA, hB, hC, hD, hE⟩ ih v z1 z2 rfl
    have e4 : M'.1 280 4 = nI (t 8 0) := by rw [hf.c1 280]; exact e40
    have hs' : ∀ o, o < t 8 0 → M'.1 294 o = Int32.ofInt (toF t n o) := fun o ho => by rw [hf.c1 294]; exact (hs o ho).1
    have cs := ct_t (p := sty t n c) (k := k)
    have cn := ct_f (p := sty t n c) (k := k)
    have cl := fb_ct_le (sty t n c) k
    refine w_at 90 [151, 181] ?_
    refine ⟨4, _, by (first | assumption | (simp only [z_nat, z_lit, ← Int32.ofInt_add, ← Int32.ofInt_sub, ← Int32.ofInt_mul]; exact congrArg Int32.ofInt (by omega)) | (simp only [z_nat, z_lit, ← Int32.ofInt_add, ← Int32.ofInt_sub, ← Int32.ofInt_mul]; done) | exact congrArg Int32.ofInt (by omega) | rfl), by (dsimp only; omega), e4, ?_⟩
    refine z_le (t 8 0) k (fun h => by omega) (fun _ => ?_)
    refine k_has u k (by omega) (fun hh => bn_t (by decide) ?_) (fun hh => bn_f (by decide) ?_)
    · rw [hu k (by omega) hk] at hh
      have rt := rk_top (c := kyF (toF t n)) hh hk
      have rt : rk (sty t n c) (kyF (toF t n)) (t 8 0) k < styN t n c := rt
      have I := lp_up (W := fun m => ∀ w v2, w = nI (fb_ct (fun i => sty t n c i && bfr (kyF (toF t n)) i k) m) → v2 = nI m → q_G q_mt (L, xs, q_shp) E nX12_cuts (d + 9) 0 0 (q_Q (L, xs, q_shp) E Q) 181 [some (.ref 271), some (.int (Int32.ofInt (n 631))), some (.int (nI (t 15 c))), some (.int (y)), some (.int (u)), some (.int (nI k)), some (.int (w)), some (.int (v2))] [] M') (t 8 0) ?_ ?_ 0 (Nat.zero_le _)
      · exact I _ _ rfl rfl
      · rintro w v2 rfl rfl
        have er : fb_ct (fun i => sty t n c i && bfr (kyF (toF t n)) i k) (t 8 0) = rk (sty t n c) (kyF (toF t n)) (t 8 0) k := rfl
        rw [er]
        refine w_at 90 [151, 181] ?_
        refine ⟨4, _, by (first | assumption | (simp only [z_nat, z_lit, ← Int32.ofInt_add, ← Int32.ofInt_sub, ← Int32.ofInt_mul]; exact congrArg Int32.ofInt (by omega)) | (simp only [z_nat, z_lit, ← Int32.ofInt_add, ← Int32.ofInt_sub, ← Int32.ofInt_mul]; done) | exact congrArg Int32.ofInt (by omega) | rfl), by (dsimp only; omega), e4, ?_⟩
        refine z_le (t 8 0) (t 8 0) (fun _ => ?_) (fun h => by omega)
        refine ⟨624 + rk (sty t n c) (kyF (toF t n)) (t 8 0) k, _, by (first | assumption | (simp only [z_nat, z_lit, ← Int32.ofInt_add, ← Int32.ofInt_sub, ← Int32.ofInt_mul]; exact congrArg Int32.ofInt (by omega)) | (simp only [z_nat, z_lit, ← Int32.ofInt_add, ← Int32.ofInt_sub, ← Int32.ofInt_mul]; done) | exact congrArg Int32.ofInt (by omega) | rfl), by (dsimp only; omega), rfl, ?_⟩
        have e30 : (q_si M' 284 (624 + rk (sty t n c) (kyF (toF t n)) (t 8 0) k) (nI k)).1 284 630 = nI (fb_ct (sty t n c) k) := by
          rw [q_si_n (by omega)]
          exact hE
        refine ⟨630, _, by (first | assumption | (simp only [z_nat, z_lit, ← Int32.ofInt_add, ← Int32.ofInt_sub, ← Int32.ofInt_mul]; exact congrArg Int32.ofInt (by omega)) | (simp only [z_nat, z_lit, ← Int32.ofInt_add, ← Int32.ofInt_sub, ← Int32.ofInt_mul]; done) | exact congrArg Int32.ofInt (by omega) | rfl), by (dsimp only; omega), e30, ?_⟩
        refine ⟨630, nI (fb_ct (sty t n c) k + 1), by (first | assumption | (simp only [z_nat, z_lit, ← Int32.ofInt_add, ← Int32.ofInt_sub, ← Int32.ofInt_mul]; exact congrArg Int32.ofInt (by omega)) | (simp only [z_nat, z_lit, ← Int32.ofInt_add, ← Int32.ofInt_sub, ← Int32.ofInt_mul]; done) | exact congrArg Int32.ofInt (by omega) | rfl), by (dsimp only; omega), by (first | assumption | (simp only [z_nat, z_lit, ← Int32.ofInt_add, ← Int32.ofInt_sub, ← Int32.ofInt_mul]; exact congrArg Int32.ofInt (by omega)) | (simp only [z_nat, z_lit, ← Int32.ofInt_add, ← Int32.ofInt_sub, ← Int32.ofInt_mul]; done) | exact congrArg Int32.ofInt (by omega) | rfl), ?_⟩
        have fin : ∀ (val : Int32), val = Int32.ofInt (if t 16 c = 1 then n 631 + 1 else n (618 + k)) → ∀ v3 z3 z4, v3 = nI (k + 1) → q_G q_mt (L, xs, q_shp) E nX12_cuts (d + 9) 0 0 (q_Q (L, xs, q_shp) E Q) 151 [some (.ref 271), some (.int (Int32.ofInt (n 631))), some (.int (nI (t 15 c))), some (.int (y)), some (.int (u)), some (.int (v3)), z3, z4] [] (q_si (q_si (q_si M' 284 (624 + rk (sty t n c) (kyF (toF t n)) (t 8 0) k) (nI k)) 284 630 (nI (fb_ct (sty t n c) k + 1))) 284 (618 + k) val) := by
          intro val hval v3 z3 z4 h3
          refine ih _ ⟨hf.s1.s1.s1, fun i hi ho => ?_, fun e he => ?_, fun e he hse => ?_, fun p hp hp6 => ?_, ?_⟩ _ _ _ h3
          · rw [q_si_n (by omega), q_si_n (by omega), q_si_n (by omega)]
            exact hA i hi ho
          · by_cases q : e = k
            · subst q
              rw [q_si_s, hval]
              by_cases q2 : t 16 c = 1
              · rw [if_pos q2, if_pos ⟨by omega, hh, q2⟩]
              · rw [if_neg q2, if_neg (fun z => q2 z.2.2)]
            · rw [q_si_n (by omega), q_si_n (by omega), q_si_n (by omega), hB e he]
              by_cases q2 : e < k ∧ sty t n c e = true ∧ t 16 c = 1
              · rw [if_pos q2, if_pos ⟨by omega, q2.2⟩]
              · rw [if_neg q2, if_neg (fun z => q2 ⟨by omega, z.2⟩)]
          · have re := rk_top (c := kyF (toF t n)) hse (show e < t 8 0 by omega)
            have re : rk (sty t n c) (kyF (toF t n)) (t 8 0) e < styN t n c := re
            rw [q_si_n (by omega), q_si_n (by omega)]
            by_cases q : e = k
            · subst q
              rw [q_si_s]
            · rw [q_si_n (fun z => q (rk_inj (c := kyF (toF t n)) hse hh (by omega) hk (by omega)))]
              exact hC e (by omega) hse
          · rw [q_si_n (by omega), q_si_n (by omega), q_si_n (by omega)]
            exact hD p hp hp6
          · rw [q_si_n (by omega), q_si_s, cs hh]
        rcases hy with ⟨hy1, rfl⟩ | ⟨hy1, rfl⟩
        · refine z_eq 1 0 (fun z => by omega) (fun _ => ?_)
          refine ⟨618 + k, Int32.ofInt (n 631 + 1), by (first | assumption | (simp only [z_nat, z_lit, ← Int32.ofInt_add, ← Int32.ofInt_sub, ← Int32.ofInt_mul]; exact congrArg Int32.ofInt (by omega)) | (simp only [z_nat, z_lit, ← Int32.ofInt_add, ← Int32.ofInt_sub, ← Int32.ofInt_mul]; done) | exact congrArg Int32.ofInt (by omega) | rfl), by (dsimp only; omega), by (first | assumption | (simp only [z_nat, z_lit, ← Int32.ofInt_add, ← Int32.ofInt_sub, ← Int32.ofInt_mul]; exact congrArg Int32.ofInt (by omega)) | (simp only [z_nat, z_lit, ← Int32.ofInt_add, ← Int32.ofInt_sub, ← Int32.ofInt_mul]; done) | exact congrArg Int32.ofInt (by omega) | rfl), ?_⟩
          exact fin _ (by rw [if_pos hy1]) _ _ _ (by (first | assumption | (simp only [z_nat, z_lit, ← Int32.ofInt_add, ← Int32.ofInt_sub, ← Int32.ofInt_mul]; exact congrArg Int32.ofInt (by omega)) | (simp only [z_nat, z_lit, ← Int32.ofInt_add, ← Int32.ofInt_sub, ← Int32.ofInt_mul]; done) | exact congrArg Int32.ofInt (by omega) | rfl))
        · refine z_eq 0 0 (fun _ => ?_) (fun z => absurd rfl z)
          have e18 : (q_si (q_si M' 284 (624 + rk (sty t n c) (kyF (toF t n)) (t 8 0) k) (nI k)) 284 630 (nI (fb_ct (sty t n c) k + 1))).1 284 (618 + k) = Int32.ofInt (n (618 + k)) := by
            rw [q_si_n (by omega), q_si_n (by omega), hB k (by omega), if_neg (by omega)]
          refine ⟨618 + k, _, by (first | assumption | (simp only [z_nat, z_lit, ← Int32.ofInt_add, ← Int32.ofInt_sub, ← Int32.ofInt_mul]; exact congrArg Int32.ofInt (by omega)) | (simp only [z_nat, z_lit, ← Int32.ofInt_add, ← Int32.ofInt_sub, ← Int32.ofInt_mul]; done) | exact congrArg Int32.ofInt (by omega) | rfl), by (dsimp only; omega), e18, ?_⟩
          refine ⟨618 + k, _, by (first | assumption | (simp only [z_nat, z_lit, ← Int32.ofInt_add, ← Int32.ofInt_sub, ← Int32.ofInt_mul]; exact congrArg Int32.ofInt (by omega)) | (simp only [z_nat, z_lit, ← Int32.ofInt_add, ← Int32.ofInt_sub, ← Int32.ofInt_mul]; done) | exact congrArg Int32.ofInt (by omega) | rfl), by (dsimp only; omega), rfl, ?_⟩
          exact fin _ (by rw [if_neg hy1]) _ _ _ (by (first | assumption | (simp only [z_nat, z_lit, ← Int32.ofInt_add, ← Int32.ofInt_sub, ← Int32.ofInt_mul]; exact congrArg Int32.ofInt (by omega)) | (simp only [z_nat, z_lit, ← Int32.ofInt_add, ← Int32.ofInt_sub, ← Int32.ofInt_mul]; done) | exact congrArg Int32.ofInt (by omega) | rfl))
      · rintro m hm ih2 w v2 rfl rfl
        have b1 := hb m hm
        have b2 := hb k hk
        have cl2 := fb_ct_le (fun i => sty t n c i && bfr (kyF (toF t n)) i k) m
        refine w_at 90 [151, 181] ?_
        refine ⟨4, _, by (first | assumption | (simp only [z_nat, z_lit, ← Int32.ofInt_add, ← Int32.ofInt_sub, ← Int32.ofInt_mul]; exact congrArg Int32.ofInt (by omega)) | (simp only [z_nat, z_lit, ← Int32.ofInt_add, ← Int32.ofInt_sub, ← Int32.ofInt_mul]; done) | exact congrArg Int32.ofInt (by omega) | rfl), by (dsimp only; omega), e4, ?_⟩
        refine z_le (t 8 0) m (fun h => by omega) (fun _ => ?_)
        refine k_has u m (by omega) (fun h1 => br_f (by decide) ?_) (fun h1 => br_t (by decide) ?_)
        · rw [hu m (by omega) hm] at h1
          refine ⟨m, _, by (first | assumption | (simp only [z_nat, z_lit, ← Int32.ofInt_add, ← Int32.ofInt_sub, ← Int32.ofInt_mul]; exact congrArg Int32.ofInt (by omega)) | (simp only [z_nat, z_lit, ← Int32.ofInt_add, ← Int32.ofInt_sub, ← Int32.ofInt_mul]; done) | exact congrArg Int32.ofInt (by omega) | rfl), by (dsimp only; omega), hs' m hm, ?_⟩
          refine ⟨k, _, by (first | assumption | (simp only [z_nat, z_lit, ← Int32.ofInt_add, ← Int32.ofInt_sub, ← Int32.ofInt_mul]; exact congrArg Int32.ofInt (by omega)) | (simp only [z_nat, z_lit, ← Int32.ofInt_add, ← Int32.ofInt_sub, ← Int32.ofInt_mul]; done) | exact congrArg Int32.ofInt (by omega) | rfl), by (dsimp only; omega), hs' k hk, ?_⟩
          refine z_lt (toF t n m) (toF t n k) (fun h2 => ?_) (fun h2 => ?_)
          · exact ih2 _ _ (by rw [ct_t (p := fun i => sty t n c i && bfr (kyF (toF t n)) i k) (by rw [h1, (bfr_ky (by omega) (by omega)).mpr (Or.inl h2)]; rfl)]; (first | assumption | (simp only [z_nat, z_lit, ← Int32.ofInt_add, ← Int32.ofInt_sub, ← Int32.ofInt_mul]; exact congrArg Int32.ofInt (by omega)) | (simp only [z_nat, z_lit, ← Int32.ofInt_add, ← Int32.ofInt_sub, ← Int32.ofInt_mul]; done) | exact congrArg Int32.ofInt (by omega) | rfl)) (by (first | assumption | (simp only [z_nat, z_lit, ← Int32.ofInt_add, ← Int32.ofInt_sub, ← Int32.ofInt_mul]; exact congrArg Int32.ofInt (by omega)) | (simp only [z_nat, z_lit, ← Int32.ofInt_add, ← Int32.ofInt_sub, ← Int32.ofInt_mul]; done) | exact congrArg Int32.ofInt (by omega) | rfl))
          · refine ⟨m, _, by (first | assumption | (simp only [z_nat, z_lit, ← Int32.ofInt_add, ← Int32.ofInt_sub, ← Int32.ofInt_mul]; exact congrArg Int32.ofInt (by omega)) | (simp only [z_nat, z_lit, ← Int32.ofInt_add, ← Int32.ofInt_sub, ← Int32.ofInt_mul]; done) | exact congrArg Int32.ofInt (by omega) | rfl), by (dsimp only; omega), hs' m hm, ?_⟩
            refine ⟨k, _, by (first | assumption | (simp only [z_nat, z_lit, ← Int32.ofInt_add, ← Int32.ofInt_sub, ← Int32.ofInt_mul]; exact congrArg Int32.ofInt (by omega)) | (simp only [z_nat, z_lit, ← Int32.ofInt_add, ← Int32.ofInt_sub, ← Int32.ofInt_mul]; done) | exact congrArg Int32.ofInt (by omega) | rfl), by (dsimp only; omega), hs' k hk, ?_⟩
            refine z_ne (toF t n m) (toF t n k) (fun h3 => ?_) (fun h3 => ?_)
            · exact ih2 _ _ (by rw [ct_f (p := fun i => sty t n c i && bfr (kyF (toF t n)) i k) (by rw [bfr_kyf (by omega) (by omega) (by omega), Bool.and_false])]; (first | assumption | (simp only [z_nat, z_lit, ← Int32.ofInt_add, ← Int32.ofInt_sub, ← Int32.ofInt_mul]; exact congrArg Int32.ofInt (by omega)) | (simp only [z_nat, z_lit, ← Int32.ofInt_add, ← Int32.ofInt_sub, ← Int32.ofInt_mul]; done) | exact congrArg Int32.ofInt (by omega) | rfl)) (by (first | assumption | (simp only [z_nat, z_lit, ← Int32.ofInt_add, ← Int32.ofInt_sub, ← Int32.ofInt_mul]; exact congrArg Int32.ofInt (by omega)) | (simp only [z_nat, z_lit, ← Int32.ofInt_add, ← Int32.ofInt_sub, ← Int32.ofInt_mul]; done) | exact congrArg Int32.ofInt (by omega) | rfl))
            · refine z_le (m : Int) (k : Int) (fun h4 => ?_) (fun h4 => ?_)
              · exact ih2 _ _ (by rw [ct_f (p := fun i => sty t n c i && bfr (kyF (toF t n)) i k) (by rw [bfr_kyf (by omega) (by omega) (by omega), Bool.and_false])]; (first | assumption | (simp only [z_nat, z_lit, ← Int32.ofInt_add, ← Int32.ofInt_sub, ← Int32.ofInt_mul]; exact congrArg Int32.ofInt (by omega)) | (simp only [z_nat, z_lit, ← Int32.ofInt_add, ← Int32.ofInt_sub, ← Int32.ofInt_mul]; done) | exact congrArg Int32.ofInt (by omega) | rfl)) (by (first | assumption | (simp only [z_nat, z_lit, ← Int32.ofInt_add, ← Int32.ofInt_sub, ← Int32.ofInt_mul]; exact congrArg Int32.ofInt (by omega)) | (simp only [z_nat, z_lit, ← Int32.ofInt_add, ← Int32.ofInt_sub, ← Int32.ofInt_mul]; done) | exact congrArg Int32.ofInt (by omega) | rfl))
              · exact ih2 _ _ (by rw [ct_t (p := fun i => sty t n c i && bfr (kyF (toF t n)) i k) (by rw [h1, (bfr_ky (by omega) (by omega)).mpr (Or.inr ⟨h3, by omega⟩)]; rfl)]; (first | assumption | (simp only [z_nat, z_lit, ← Int32.ofInt_add, ← Int32.ofInt_sub, ← Int32.ofInt_mul]; exact congrArg Int32.ofInt (by omega)) | (simp only [z_nat, z_lit, ← Int32.ofInt_add, ← Int32.ofInt_sub, ← Int32.ofInt_mul]; done) | exact congrArg Int32.ofInt (by omega) | rfl)) (by (first | assumption | (simp only [z_nat, z_lit, ← Int32.ofInt_add, ← Int32.ofInt_sub, ← Int32.ofInt_mul]; exact congrArg Int32.ofInt (by omega)) | (simp only [z_nat, z_lit, ← Int32.ofInt_add, ← Int32.ofInt_sub, ← Int32.ofInt_mul]; done) | exact congrArg Int32.ofInt (by omega) | rfl))
        · rw [hu m (by omega) hm] at h1
          exact ih2 _ _ (by rw [ct_f (p := fun i => sty t n c i && bfr (kyF (toF t n)) i k) (by rw [h1]; rfl)]; (first | assumption | (simp only [z_nat, z_lit, ← Int32.ofInt_add, ← Int32.ofInt_sub, ← Int32.ofInt_mul]; exact congrArg Int32.ofInt (by omega)) | (simp only [z_nat, z_lit, ← Int32.ofInt_add, ← Int32.ofInt_sub, ← Int32.ofInt_mul]; done) | exact congrArg Int32.ofInt (by omega) | rfl)) (by (first | assumption | (simp only [z_nat, z_lit, ← Int32.ofInt_add, ← Int32.ofInt_sub, ← Int32.ofInt_mul]; exact congrArg Int32.ofInt (by omega)) | (simp only [z_nat, z_lit, ← Int32.ofInt_add, ← Int32.ofInt_sub, ← Int32.ofInt_mul]; done) | exact congrArg Int32.ofInt (by omega) | rfl))
    · rw [hu k (by omega) hk] at hh
      refine ih _ ⟨hf, hA, fun e he => ?_, fun e he hse => ?_, hD, ?_⟩ _ _ _ (by (first | assumption | (simp only [z_nat, z_lit, ← Int32.ofInt_add, ← Int32.ofInt_sub, ← Int32.ofInt_mul]; exact congrArg Int32.ofInt (by omega)) | (simp only [z_nat, z_lit, ← Int32.ofInt_add, ← Int32.ofInt_sub, ← Int32.ofInt_mul]; done) | exact congrArg Int32.ofInt (by omega) | rfl))
      · rw [hB e he]
        by_cases q2 : e < k ∧ sty t n c e = true ∧ t 16 c = 1
        · rw [if_pos q2, if_pos ⟨by omega, q2.2⟩]
        · rw [if_neg q2, if_neg (fun z => q2 ⟨Classical.byContradiction (fun y => by
            have : e = k := by omega
            rw [this, hh] at z
            exact absurd z.2.1 (by decide)), z.2⟩)]
      · by_cases q : e = k
        · rw [q, hh] at hse
          cases hse
        · exact hC e (by omega) hse
      · rw [cn hh]
        exact hE
  · exact hn i hi (by omega)
  · have := hn (618 + e) (by omega) (by omega)
    rw [cN3_no (by omega)] at this
    rw [if_neg (by omega)]
    exact this
  · have := hn (624 + p) (by omega) (by omega)
    rw [cN3_no (by omega)] at this
    exact this
set_option maxRecDepth 100000 in
set_option maxHeartbeats 4000000 in
theorem k_cuts (g : g_R M t n) {a b y : Int32} (c : Nat) (hc : c < t 13 0) {R : Nat → Nat} (hR : isR (sty t n c) (kyF (toF t n)) (t 8 0) R) (h31 : 0 ≤ n 631 ∧ n 631 ≤ 6) (hy : (t 16 c = 1 ∧ y = Int32.ofInt 1) ∨ (¬ t 16 c = 1 ∧ y = Int32.ofInt 0)) (hQ : ∀ M', q_fs [284, 293, 294] fD M M' → r_N 284 0 M' (cutN t n c R) → Q none M') (ha : a = Int32.ofInt (n 631) := by (first | assumption | (simp only [z_nat, z_lit, ← Int32.ofInt_add, ← Int32.ofInt_sub, ← Int32.ofInt_mul]; exact congrArg Int32.ofInt (by omega)) | (simp only [z_nat, z_lit, ← Int32.ofInt_add, ← Int32.ofInt_sub, ← Int32.ofInt_mul]; done) | exact congrArg Int32.ofInt (by omega) | rfl)) (hb : b = nI (t 15 c) := by (first | assumption | (simp only [z_nat, z_lit, ← Int32.ofInt_add, ← Int32.ofInt_sub, ← Int32.ofInt_mul]; exact congrArg Int32.ofInt (by omega)) | (simp only [z_nat, z_lit, ← Int32.ofInt_add, ← Int32.ofInt_sub, ← Int32.ofInt_mul]; done) | exact congrArg Int32.ofInt (by omega) | rfl)) : q_C q_mt (L, xs, q_shp) E nX12_cuts (d + 9) 0 0 [.ref 271, .int (a), .int (b), .int (y)] M Q := by
  subst ha hb
  have h6 := g.e6
  have h15 := g.b2.2.1 c hc
  have hb : ∀ o, o < t 8 0 → 0 ≤ toF t n o ∧ toF t n o ≤ 108000 := fun o ho => toE_b g ho
  -- marking those who go
  have L3 : ∀ M1, q_fs [293, 294] fD M M1 → g_sm M1 t (toF t n) → ∀ u, (∀ i, i < 6 → i < t 8 0 → bt u i = sty t n c i) → ∀ z1 z2, q_G q_mt (L, xs, q_shp) E nX12_cuts (d + 9) 0 0 (q_Q (L, xs, q_shp) E Q) 91 [some (.ref 271), some (.int (Int32.ofInt (n 631))), some (.int (nI (t 15 c))), some (.int (y)), some (.int (u)), some (.int (Int32.ofInt 0)), z1, z2] [] M1 := by
    intro M1 hf1 hs1 u hu z1 z2
    have g1 := g.fs hf1
    have W := lp_m (W := fun k M' => ∀ v, v = nI k → q_G q_mt (L, xs, q_shp) E nX12_cuts (d + 9) 0 0 (q_Q (L, xs, q_shp) E Q) 91 [some (.ref 271), some (.int (Int32.ofInt (n 631))), some (.int (nI (t 15 c))), some (.int (y)), some (.int (u)), some (.int (v)), z1, z2] [] M') (J := fun k M' => q_fs [284] [] M1 M' ∧ r_N 284 0 M' (cN3 t n c k)) (t 8 0) ?_ ?_ 0 M1 (Nat.zero_le _) ⟨q_fs.rf, g1.2.2.1.of (fun i hi => cN3_no (by omega))⟩
    · exact W _ rfl
    · rintro M' ⟨hf, hn⟩ v rfl
      have gm := g1.to (hf.c1 280) hn (cN3_N g.A h31 (Nat.le_refl _))
      refine w_at 90 [6, 39, 91, 151, 181] ?_
      refine ⟨4, _, by (first | assumption | (simp only [z_nat, z_lit, ← Int32.ofInt_add, ← Int32.ofInt_sub, ← Int32.ofInt_mul]; exact congrArg Int32.ofInt (by omega)) | (simp only [z_nat, z_lit, ← Int32.ofInt_add, ← Int32.ofInt_sub, ← Int32.ofInt_mul]; done) | exact congrArg Int32.ofInt (by omega) | rfl), by (dsimp only; omega), gm.R4, ?_⟩
      refine z_le (t 8 0) (t 8 0) (fun _ => ?_) (fun h => by omega)
      refine ⟨630, _, by (first | assumption | (simp only [z_nat, z_lit, ← Int32.ofInt_add, ← Int32.ofInt_sub, ← Int32.ofInt_mul]; exact congrArg Int32.ofInt (by omega)) | (simp only [z_nat, z_lit, ← Int32.ofInt_add, ← Int32.ofInt_sub, ← Int32.ofInt_mul]; done) | exact congrArg Int32.ofInt (by omega) | rfl), by (dsimp only; omega), rfl, ?_⟩
      have hs2 : g_sm (q_si M' 284 630 (Int32.ofInt 0)) t (toF t n) := fun o ho => ⟨by
        show M'.1 294 o = _
        rw [hf.c1 294]
        exact (hs1 o ho).1, (hs1 o ho).2⟩
      have hf3 : q_fs [284, 293, 294] fD M (q_si M' 284 630 (Int32.ofInt 0)) := (hf1.mono.tr hf.mono).s1
      refine k_cutsA (n := n) g.A (by show M'.1 280 4 = _; exact gm.R4) c hc hR h31 hs2 u hu (fun i hi h => ?_) q_si_s hy z1 z2 (fun M3 hf4 hn3 => hQ M3 (hf3.tr hf4.mono) hn3)
      have := hn i hi
      rw [Nat.zero_add] at this
      rw [q_si_n h]
      exact this
    · rintro k M' hk ⟨hf, hn⟩ ih v rfl
      have gm := g1.to (hf.c1 280) hn (cN3_N g.A h31 (by omega))
      have ek : inE (cN3 t n c k) k = inE n k := inE_eq (cN3_no (by omega))
      have same : (inE n k = false ∨ sty t n c k = true) → r_N 284 0 M' (cN3 t n c (k + 1)) := fun h => hn.of (fun i hi => by
        by_cases q : i = 612 + k
        · subst q
          rw [cN3_at (by omega), cN3_no (by omega), if_neg]
          rcases h with h | h
          · rw [h, Bool.false_and]; decide
          · rw [h, Bool.not_true, Bool.and_false]; decide
        · unfold cN3
          by_cases q2 : 612 ≤ i ∧ i < 612 + k
          · rw [if_pos q2, if_pos (show 612 ≤ i ∧ i < 612 + (k + 1) by omega)]
          · rw [if_neg q2, if_neg (show ¬ (612 ≤ i ∧ i < 612 + (k + 1)) by omega)])
      refine w_at 90 [6, 39, 91, 151, 181] ?_
      refine ⟨4, _, by (first | assumption | (simp only [z_nat, z_lit, ← Int32.ofInt_add, ← Int32.ofInt_sub, ← Int32.ofInt_mul]; exact congrArg Int32.ofInt (by omega)) | (simp only [z_nat, z_lit, ← Int32.ofInt_add, ← Int32.ofInt_sub, ← Int32.ofInt_mul]; done) | exact congrArg Int32.ofInt (by omega) | rfl), by (dsimp only; omega), gm.R4, ?_⟩
      refine z_le (t 8 0) k (fun h => by omega) (fun _ => ?_)
      refine k_isInStill gm k hk (fun h1 => br_f (by decide) ?_) (fun h1 => br_t (by decide) ?_)
      · rw [ek] at h1
        refine k_has u k (by omega) (fun hh => bn_t (by decide) ?_) (fun hh => bn_f (by decide) ?_)
        · rw [hu k (by omega) hk] at hh
          exact ih _ ⟨hf, same (Or.inr hh)⟩ _ (by (first | assumption | (simp only [z_nat, z_lit, ← Int32.ofInt_add, ← Int32.ofInt_sub, ← Int32.ofInt_mul]; exact congrArg Int32.ofInt (by omega)) | (simp only [z_nat, z_lit, ← Int32.ofInt_add, ← Int32.ofInt_sub, ← Int32.ofInt_mul]; done) | exact congrArg Int32.ofInt (by omega) | rfl))
        · rw [hu k (by omega) hk] at hh
          refine ⟨612 + k, _, by (first | assumption | (simp only [z_nat, z_lit, ← Int32.ofInt_add, ← Int32.ofInt_sub, ← Int32.ofInt_mul]; exact congrArg Int32.ofInt (by omega)) | (simp only [z_nat, z_lit, ← Int32.ofInt_add, ← Int32.ofInt_sub, ← Int32.ofInt_mul]; done) | exact congrArg Int32.ofInt (by omega) | rfl), by (dsimp only; omega), rfl, ?_⟩
          refine ih _ ⟨hf.s1, fun i hi => ?_⟩ _ (by (first | assumption | (simp only [z_nat, z_lit, ← Int32.ofInt_add, ← Int32.ofInt_sub, ← Int32.ofInt_mul]; exact congrArg Int32.ofInt (by omega)) | (simp only [z_nat, z_lit, ← Int32.ofInt_add, ← Int32.ofInt_sub, ← Int32.ofInt_mul]; done) | exact congrArg Int32.ofInt (by omega) | rfl))
          rw [Nat.zero_add]
          by_cases q : i = 612 + k
          · subst q
            rw [q_si_s, cN3_at (by omega), if_pos (by rw [h1, hh]; rfl)]
          · have := hn i hi
            rw [Nat.zero_add] at this
            rw [q_si_n q, this]
            unfold cN3
            by_cases q2 : 612 ≤ i ∧ i < 612 + k
            · rw [if_pos q2, if_pos (show 612 ≤ i ∧ i < 612 + (k + 1) by omega)]
            · rw [if_neg q2, if_neg (show ¬ (612 ≤ i ∧ i < 612 + (k + 1)) by omega)]
      · rw [ek] at h1
        exact ih _ ⟨hf, same (Or.inl h1)⟩ _ (by (first | assumption | (simp only [z_nat, z_lit, ← Int32.ofInt_add, ← Int32.ofInt_sub, ← Int32.ofInt_mul]; exact congrArg Int32.ofInt (by omega)) | (simp only [z_nat, z_lit, ← Int32.ofInt_add, ← Int32.ofInt_sub, ← Int32.ofInt_mul]; done) | exact congrArg Int32.ofInt (by omega) | rfl))
  -- who stays
  have L2 : ∀ M1, q_fs [293, 294] fD M M1 → g_sm M1 t (toF t n) → ∀ z1 z2, q_G q_mt (L, xs, q_shp) E nX12_cuts (d + 9) 0 0 (q_Q (L, xs, q_shp) E Q) 39 [some (.ref 271), some (.int (Int32.ofInt (n 631))), some (.int (nI (t 15 c))), some (.int (y)), some (.int (Int32.ofInt 0)), some (.int (Int32.ofInt 0)), z1, z2] [] M1 := by
    intro M1 hf1 hs1 z1 z2
    have g1 := g.fs hf1
    have W := lp_up (W := fun k => ∀ u v, (∀ i, i < 32 → bt u i = (decide (i < k) && sty t n c i)) → v = nI k → q_G q_mt (L, xs, q_shp) E nX12_cuts (d + 9) 0 0 (q_Q (L, xs, q_shp) E Q) 39 [some (.ref 271), some (.int (Int32.ofInt (n 631))), some (.int (nI (t 15 c))), some (.int (y)), some (.int (u)), some (.int (v)), z1, z2] [] M1) (t 8 0) ?_ ?_ 0 (Nat.zero_le _)
    · exact W _ _ (fun i hi => by rw [decide_eq_false (Nat.not_lt_zero _), Bool.false_and]; exact b_0 i) rfl
    · rintro u v hu rfl
      refine w_at 90 [6, 39, 91, 151, 181] ?_
      refine ⟨4, _, by (first | assumption | (simp only [z_nat, z_lit, ← Int32.ofInt_add, ← Int32.ofInt_sub, ← Int32.ofInt_mul]; exact congrArg Int32.ofInt (by omega)) | (simp only [z_nat, z_lit, ← Int32.ofInt_add, ← Int32.ofInt_sub, ← Int32.ofInt_mul]; done) | exact congrArg Int32.ofInt (by omega) | rfl), by (dsimp only; omega), g1.R4, ?_⟩
      refine z_le (t 8 0) (t 8 0) (fun _ => ?_) (fun h => by omega)
      exact L3 M1 hf1 hs1 u (fun i hi h => by rw [hu i (by omega), decide_eq_true h, Bool.true_and]) z1 z2
    · rintro k hk ih u v hu rfl
      have cl := fb_ct_le (fun o => inE n o && decide (toF t n k < toF t n o)) (t 8 0)
      have sty_no : sty t n c k = false → ∀ u', u' = u ||| Int32.ofInt 0 → ∀ i, i < 32 → bt u' i = (decide (i < k + 1) && sty t n c i) := fun h u' e i hi => by
        rw [e, show u ||| Int32.ofInt 0 = u from Int32.or_zero, hu i hi]
        by_cases q : i = k
        · rw [q, h, Bool.and_false, Bool.and_false]
        · by_cases q2 : i < k
          · rw [decide_eq_true q2, decide_eq_true (by omega)]
          · rw [decide_eq_false q2, decide_eq_false (by omega)]
      refine w_at 90 [6, 39, 91, 151, 181] ?_
      refine ⟨4, _, by (first | assumption | (simp only [z_nat, z_lit, ← Int32.ofInt_add, ← Int32.ofInt_sub, ← Int32.ofInt_mul]; exact congrArg Int32.ofInt (by omega)) | (simp only [z_nat, z_lit, ← Int32.ofInt_add, ← Int32.ofInt_sub, ← Int32.ofInt_mul]; done) | exact congrArg Int32.ofInt (by omega) | rfl), by (dsimp only; omega), g1.R4, ?_⟩
      refine z_le (t 8 0) k (fun h => by omega) (fun _ => ?_)
      refine k_isInStill g1 k hk (fun h1 => br_f (by decide) ?_) (fun h1 => br_t (by decide) ?_)
      · refine k_greaterMany g1 hs1 k hk ?_
        unfold grN
        refine z_le (t 15 c) (fb_ct (fun o => inE n o && decide (toF t n k < toF t n o)) (t 8 0)) (fun h2 => ?_) (fun h2 => ?_)
        · exact ih _ _ (sty_no (by unfold sty grN; rw [h1, decide_eq_false (by omega)]; rfl) _ rfl) (by (first | assumption | (simp only [z_nat, z_lit, ← Int32.ofInt_add, ← Int32.ofInt_sub, ← Int32.ofInt_mul]; exact congrArg Int32.ofInt (by omega)) | (simp only [z_nat, z_lit, ← Int32.ofInt_add, ← Int32.ofInt_sub, ← Int32.ofInt_mul]; done) | exact congrArg Int32.ofInt (by omega) | rfl))
        · have hst : sty t n c k = true := sty_t.mpr ⟨h1, by unfold grN; omega⟩
          refine ih _ _ (fun i hi => ?_) (by (first | assumption | (simp only [z_nat, z_lit, ← Int32.ofInt_add, ← Int32.ofInt_sub, ← Int32.ofInt_mul]; exact congrArg Int32.ofInt (by omega)) | (simp only [z_nat, z_lit, ← Int32.ofInt_add, ← Int32.ofInt_sub, ← Int32.ofInt_mul]; done) | exact congrArg Int32.ofInt (by omega) | rfl))
          refine (b_set (by omega) hi).trans ?_
          rw [hu i hi]
          by_cases q : i = k
          · rw [q, decide_eq_true rfl, Bool.or_true, decide_eq_true (Nat.lt_succ_self k), hst]
            rfl
          · rw [decide_eq_false q, Bool.or_false]
            by_cases q2 : i < k
            · rw [decide_eq_true q2, decide_eq_true (by omega)]
            · rw [decide_eq_false q2, decide_eq_false (by omega)]
      · exact ih _ _ (sty_no (by unfold sty; rw [h1]; rfl) _ rfl) (by (first | assumption | (simp only [z_nat, z_lit, ← Int32.ofInt_add, ← Int32.ofInt_sub, ← Int32.ofInt_mul]; exact congrArg Int32.ofInt (by omega)) | (simp only [z_nat, z_lit, ← Int32.ofInt_add, ← Int32.ofInt_sub, ← Int32.ofInt_mul]; done) | exact congrArg Int32.ofInt (by omega) | rfl))
  have W := lp_m (W := fun k M' => ∀ v z1 z2, v = nI k → q_G q_mt (L, xs, q_shp) E nX12_cuts (d + 9) 0 0 (q_Q (L, xs, q_shp) E Q) 6 [some (.ref 271), some (.int (Int32.ofInt (n 631))), some (.int (nI (t 15 c))), some (.int (y)), some (.int (Int32.ofInt 0)), some (.int (v)), z1, z2] [] M') (J := fun k M' => q_fs [293, 294] fD M M' ∧ ∀ o, o < k → M'.1 294 o = Int32.ofInt (toF t n o)) (t 8 0) ?_ ?_ 0 M (Nat.zero_le _) ⟨q_fs.rf, fun o ho => by omega⟩
  · refine w_in 90 [6, 39, 91, 151, 181] ?_
    exact W _ _ _ rfl
  · rintro M' ⟨hf, hm⟩ v z1 z2 rfl
    have g' := g.fs hf
    refine w_at 90 [6, 39, 91, 151, 181] ?_
    refine ⟨4, _, by (first | assumption | (simp only [z_nat, z_lit, ← Int32.ofInt_add, ← Int32.ofInt_sub, ← Int32.ofInt_mul]; exact congrArg Int32.ofInt (by omega)) | (simp only [z_nat, z_lit, ← Int32.ofInt_add, ← Int32.ofInt_sub, ← Int32.ofInt_mul]; done) | exact congrArg Int32.ofInt (by omega) | rfl), by (dsimp only; omega), g'.R4, ?_⟩
    refine z_le (t 8 0) (t 8 0) (fun _ => ?_) (fun h => by omega)
    exact L2 M' hf (fun o ho => ⟨hm o ho, (hb o ho).1, by have := (hb o ho).2; omega⟩) z1 z2
  · rintro k M' hk ⟨hf, hm⟩ ih v z1 z2 rfl
    have g' := g.fs hf
    refine w_at 90 [6, 39, 91, 151, 181] ?_
    refine ⟨4, _, by (first | assumption | (simp only [z_nat, z_lit, ← Int32.ofInt_add, ← Int32.ofInt_sub, ← Int32.ofInt_mul]; exact congrArg Int32.ofInt (by omega)) | (simp only [z_nat, z_lit, ← Int32.ofInt_add, ← Int32.ofInt_sub, ← Int32.ofInt_mul]; done) | exact congrArg Int32.ofInt (by omega) | rfl), by (dsimp only; omega), g'.R4, ?_⟩
    refine z_le (t 8 0) k (fun h => by omega) (fun _ => ?_)
    refine k_totalOf g' k hk (fun M2 hf2 => ?_)
    refine ⟨k, _, by (first | assumption | (simp only [z_nat, z_lit, ← Int32.ofInt_add, ← Int32.ofInt_sub, ← Int32.ofInt_mul]; exact congrArg Int32.ofInt (by omega)) | (simp only [z_nat, z_lit, ← Int32.ofInt_add, ← Int32.ofInt_sub, ← Int32.ofInt_mul]; done) | exact congrArg Int32.ofInt (by omega) | rfl), by (dsimp only; omega), rfl, ?_⟩
    refine ih _ ⟨(hf.tr hf2.mono).s1, fun o ho => ?_⟩ _ _ _ (by (first | assumption | (simp only [z_nat, z_lit, ← Int32.ofInt_add, ← Int32.ofInt_sub, ← Int32.ofInt_mul]; exact congrArg Int32.ofInt (by omega)) | (simp only [z_nat, z_lit, ← Int32.ofInt_add, ← Int32.ofInt_sub, ← Int32.ofInt_mul]; done) | exact congrArg Int32.ofInt (by omega) | rfl))
    by_cases q : o = k
    · rw [q, q_si_s]
    · rw [q_si_n q, hf2.c1 294]
      exact hm o (by omega)
end CR
