/-! the cut of the class, and who is next -/
theorem toE_cg {t : q_T} {n n' : sN} {e dr : Nat} {bar : Int} (he : e < 6) (h7 : t 0 0 ≤ 6) (h11 : t 2 0 ≤ 11) (h : ∀ k, k < 612 → n' k = n k) (h1 : n' (618 + e) = n (618 + e)) : toE t n' e dr bar = toE t n e dr bar := by
  unfold toE
  refine fb_si_cong (fun r hr => ?_)
  unfold tof
  rw [h1, h (576 + (6 * e + r)) (by omega), ptE_lo he (by omega) h11 (fun k hk => h k (by omega))]
section GD
variable {L : Nat} {xs : Nat → Int32} {E : q_E} {d : Nat} {M : q_M} {t : q_T} {n : sN} {Q : Option Value → q_M → Prop} {P : q_M → Prop}
set_option maxRecDepth 100000 in
set_option maxHeartbeats 4000000 in
theorem k3_isAmong_43 (s : sts 43 M t n) {f : Nat → Int} (hf : ∀ o, o < t 8 0 → M.1 243 o = Int32.ofInt (f o) ∧ -1 ≤ f o ∧ f o ≤ 1000000) {x y : Int32} (e k : Nat) (he : e < t 8 0) (hk : k ≤ 6) (h1 : gtN f (t 8 0) e < k → Q (some (.int 1)) M) (h0 : ¬ gtN f (t 8 0) e < k → Q (some (.int 0)) M) (hx : x = nI e := by (first | assumption | (simp only [z_nat, z_lit, ← Int32.ofInt_add, ← Int32.ofInt_sub, ← Int32.ofInt_mul]; exact congrArg Int32.ofInt (by omega)) | (simp only [z_nat, z_lit, ← Int32.ofInt_add, ← Int32.ofInt_sub, ← Int32.ofInt_mul]; done) | exact congrArg Int32.ofInt (by omega) | rfl)) (hy : y = nI k := by (first | assumption | (simp only [z_nat, z_lit, ← Int32.ofInt_add, ← Int32.ofInt_sub, ← Int32.ofInt_mul]; exact congrArg Int32.ofInt (by omega)) | (simp only [z_nat, z_lit, ← Int32.ofInt_add, ← Int32.ofInt_sub, ← Int32.ofInt_mul]; done) | exact congrArg Int32.ofInt (by omega) | rfl)) : q_C q_mt (L, xs, q_shp) E nX6_isAmong (d) 0 0 [.ref 242, .ref 243, .int (x), .int (y)] M Q := by
  subst hx hy
  have h6 := s.1.2
  have b1 := hf e he
  have W := lp_up (W := fun m => ∀ u v, u = nI (gtN f m e) → v = nI m → q_G q_mt (L, xs, q_shp) E nX6_isAmong (d) 0 0 (q_Q (L, xs, q_shp) E Q) 6 [some (.ref 242), some (.ref 243), some (.int (nI e)), some (.int (nI k)), some (.int (u)), some (.int (v))] [] M) (t 8 0) ?_ ?_ 0 (Nat.zero_le _)
  · refine w_in 90 [6] ?_
    exact W _ _ rfl rfl
  · rintro u v rfl rfl
    have hc := fb_ct_le (fun o => decide (f e < f o)) (t 8 0)
    unfold gtN at h1 h0
    refine w_at 90 [6] ?_
    refine ⟨_, s.1.1, ?_⟩
    refine z_le (t 8 0) (t 8 0) (fun h => ?_) (fun h => by omega)
    exact z_le (k : Int) (fb_ct (fun o => decide (f e < f o)) (t 8 0)) (fun h => ⟨z_0, h0 (by omega)⟩) (fun h => ⟨z_1, h1 (by omega)⟩)
  · rintro m hm ih u v rfl rfl
    have hc := fb_ct_le (fun o => decide (f e < f o)) m
    have b2 := hf m hm
    refine w_at 90 [6] ?_
    refine ⟨_, s.1.1, ?_⟩
    refine z_le (t 8 0) m (fun h => by omega) (fun h => ?_)
    refine ⟨m, _, by (first | assumption | (simp only [z_nat, z_lit, ← Int32.ofInt_add, ← Int32.ofInt_sub, ← Int32.ofInt_mul]; exact congrArg Int32.ofInt (by omega)) | (simp only [z_nat, z_lit, ← Int32.ofInt_add, ← Int32.ofInt_sub, ← Int32.ofInt_mul]; done) | exact congrArg Int32.ofInt (by omega) | rfl), by (dsimp only; omega), b2.1, ?_⟩
    refine ⟨e, _, by (first | assumption | (simp only [z_nat, z_lit, ← Int32.ofInt_add, ← Int32.ofInt_sub, ← Int32.ofInt_mul]; exact congrArg Int32.ofInt (by omega)) | (simp only [z_nat, z_lit, ← Int32.ofInt_add, ← Int32.ofInt_sub, ← Int32.ofInt_mul]; done) | exact congrArg Int32.ofInt (by omega) | rfl), by (dsimp only; omega), b1.1, ?_⟩
    refine z_le (f m) (f e) (fun h => ?_) (fun h => ?_)
    · exact ih _ _ (by unfold gtN; rw [ct_f (p := fun o => decide (f e < f o)) (decide_eq_false (by omega))]) (by (first | assumption | (simp only [z_nat, z_lit, ← Int32.ofInt_add, ← Int32.ofInt_sub, ← Int32.ofInt_mul]; exact congrArg Int32.ofInt (by omega)) | (simp only [z_nat, z_lit, ← Int32.ofInt_add, ← Int32.ofInt_sub, ← Int32.ofInt_mul]; done) | exact congrArg Int32.ofInt (by omega) | rfl))
    · exact ih _ _ (by unfold gtN; rw [ct_t (p := fun o => decide (f e < f o)) (decide_eq_true (by omega))]; (first | assumption | (simp only [z_nat, z_lit, ← Int32.ofInt_add, ← Int32.ofInt_sub, ← Int32.ofInt_mul]; exact congrArg Int32.ofInt (by omega)) | (simp only [z_nat, z_lit, ← Int32.ofInt_add, ← Int32.ofInt_sub, ← Int32.ofInt_mul]; done) | exact congrArg Int32.ofInt (by omega) | rfl)) (by (first | assumption | (simp only [z_nat, z_lit, ← Int32.ofInt_add, ← Int32.ofInt_sub, ← Int32.ofInt_mul]; exact congrArg Int32.ofInt (by omega)) | (simp only [z_nat, z_lit, ← Int32.ofInt_add, ← Int32.ofInt_sub, ← Int32.ofInt_mul]; done) | exact congrArg Int32.ofInt (by omega) | rfl))
theorem g_S0.st_43 (h : g_S0 43 M t n) (C : r_C 6 M t) (ba : b_A t n) : sts 43 M t n := ⟨⟨C.2.2.2.2.1, ba.e6⟩, fun e he => ⟨(h.2.2.1 e (by have := ba.e6; omega)).1, (ba.bn.2.1 e he).1⟩⟩
set_option maxRecDepth 100000 in
set_option maxHeartbeats 4000000 in
theorem k2_doCut_43 (s0 : g_S0 43 M t n) (C : r_C 6 M t) (ba : b_A t n) {a : Int32} (cc : Nat) (hcc : cc < t 13 0) (h31 : 1 ≤ n 631 ∧ n 631 ≤ 6) {R : Nat → Nat} (hR : isR (sty t n cc) (kyF (toF t n)) (t 8 0) R) (hfull : ∀ e, e < t 8 0 → inE n e = true → ∀ r, r < t 0 0 → n (576 + (6 * e + r)) = 1 → (r : Int) + 1 ≤ n 631) (hQ : ∀ M' qu, q_fs [46, 47, 48, 50, 243] [] M M' → g_S0 43 M' t (cutN t n cc R) → (∀ i, i < 6 → i < t 8 0 → M'.1 48 i = nI (qu i) ∧ qu i < t 8 0) → qRl t (cutN t n cc R) (inE (cutN t n cc R)) qu → Q none M') (ha : a = nI cc := by (first | assumption | (simp only [z_nat, z_lit, ← Int32.ofInt_add, ← Int32.ofInt_sub, ← Int32.ofInt_mul]; exact congrArg Int32.ofInt (by omega)) | (simp only [z_nat, z_lit, ← Int32.ofInt_add, ← Int32.ofInt_sub, ← Int32.ofInt_mul]; done) | exact congrArg Int32.ofInt (by omega) | rfl)) : q_C q_mt (L, xs, q_shp) E nX6_doCut (d + 1) 0 0 [.ref 242, .int (a)] M Q := by
  subst ha
  have h6 := ba.e6
  have h7 := ba.r6
  have h11 := ba.j11
  have c3 := ba.c3
  have hcu := ba.b2.2.1 cc hcc
  have hb : ∀ o, o < t 8 0 → 0 ≤ toF t n o ∧ toF t n o ≤ 108000 := fun o ho => toE_c ba ho
  have htt : ∀ o, o < t 8 0 → -1 ≤ ttl t n o ∧ ttl t n o ≤ 108000 ∧ (ttl t n o = -1 ↔ inE n o = false) := fun o ho => by
    have := hb o ho
    unfold ttl
    cases q : inE n o with
    | true =>
      rw [if_pos rfl]
      refine ⟨by omega, by omega, ⟨fun z => by omega, fun z => by cases z⟩⟩
    | false =>
      rw [if_neg (by decide)]
      exact ⟨by omega, by omega, ⟨fun _ => rfl, fun _ => rfl⟩⟩
  have hgr : ∀ e, e < t 8 0 → inE n e = true → gtN (ttl t n) (t 8 0) e = grN t n (toF t n) e := fun e he hi => gt_gr (fun o ho z => by unfold ttl; rw [if_pos z]; exact ⟨rfl, (hb o ho).1⟩) (fun o ho z => if_neg (by rw [z]; decide)) he hi
  obtain ⟨qu, hqu⟩ := isR_ex (A := fun _ => true) (c := kyF (ttl t n)) (k := t 8 0)
  have cq := cut_qRl h6 h31.1 hR hqu
  have eT : fb_ct (fun _ => true) (t 8 0) = t 8 0 := fb_ct_all.mpr (fun _ _ => rfl)
  have lo : ∀ i, i < 612 → cutN t n cc R i = n i := fun i hi => cut_lo hi
  -- what becomes of one
  have ePl : ∀ e, e < 6 → (¬ (e < t 8 0 ∧ sty t n cc e = true ∧ t 16 cc = 1)) → bS t (cutN t n cc R) e = bS t n e ∧ tS t (cutN t n cc R) e = tS t n e := fun e he h => by
    unfold bS tS
    by_cases q : e < t 8 0
    · rw [if_pos q, if_pos q, if_pos q, if_pos q]
      have ef : cutN t n cc R (618 + e) = n (618 + e) := by
        rw [cut_fr q h6, if_neg (fun z => h ⟨q, by rw [Bool.and_eq_true, decide_eq_true_eq] at z; exact z⟩)]
      rw [ef, toE_cg he h7 h11 lo ef]
      exact ⟨rfl, rfl⟩
    · rw [if_neg q, if_neg q, if_neg q, if_neg q]
      exact ⟨rfl, rfl⟩
  have eAn : ∀ e, e < t 8 0 → sty t n cc e = true → t 16 cc = 1 → bS t (cutN t n cc R) e = n 631 ∧ tS t (cutN t n cc R) e = 0 := fun e he h1 h2 => by
    unfold bS tS
    rw [if_pos he, if_pos he]
    have ef : cutN t n cc R (618 + e) = n 631 + 1 := by
      rw [cut_fr he h6, if_pos (by rw [h1, decide_eq_true h2]; rfl)]
    refine ⟨by rw [ef]; omega, ?_⟩
    unfold toE
    refine si_zero (fun r hr => ?_)
    unfold tof
    rw [ef, lo _ (by omega), if_neg]
    intro z
    have := hfull e he (sty_t.mp h1).1 r hr z.2
    omega
  have eSt : ∀ e, e < t 8 0 → cutN t n cc R (612 + e) = if inE n e = true ∧ sty t n cc e = false then n 631 else n (612 + e) := fun e he => by
    rw [cut_st he]
    by_cases q : inE n e = true ∧ sty t n cc e = false
    · rw [if_pos q, if_pos (by rw [q.1, q.2]; rfl)]
    · rw [if_neg q, if_neg (fun z => q (by rw [Bool.and_eq_true, Bool.not_eq_true'] at z; exact z))]
  have L2 : ∀ M1, q_fs [243] [] M M1 → (∀ o, o < t 8 0 → M1.1 243 o = Int32.ofInt (ttl t n o)) → q_G q_mt (L, xs, q_shp) E nX6_doCut (d + 1) 0 0 (q_Q (L, xs, q_shp) E Q) 48 [some (.ref 242), some (.int (nI cc)), some (.int (Int32.ofInt 0))] [] M1 := by
    intro M1 hf1 ht1
    have W := lp_m (W := fun k M' => ∀ v, v = nI k → q_G q_mt (L, xs, q_shp) E nX6_doCut (d + 1) 0 0 (q_Q (L, xs, q_shp) E Q) 48 [some (.ref 242), some (.int (nI cc)), some (.int (v))] [] M') (J := fun k M' => q_fs [46, 47, 50] [] M1 M' ∧ ∀ e, e < 6 → M'.1 46 e = Int32.ofInt (if e < k then cutN t n cc R (612 + e) else n (612 + e)) ∧ M'.1 47 e = Int32.ofInt (if e < k then bS t (cutN t n cc R) e else bS t n e) ∧ M'.1 50 e = Int32.ofInt (if e < k then tS t (cutN t n cc R) e else tS t n e)) (t 8 0) ?_ ?_ 0 M1 (Nat.zero_le _) ⟨q_fs.rf, fun e he => ?_⟩
    · exact W _ rfl
    · rintro M' ⟨hf, hm⟩ v rfl
      have hf2 : q_fs [46, 47, 50, 243] [] M M' := hf1.mono.tr hf.mono
      have e9 : M'.1 6 9 = nI (t 8 0) := by rw [hf2.c1 6]; exact C.2.2.2.2.1
      have e7 : M'.1 43 7 = M.1 43 7 := by rw [hf2.c1 43]
      have g2 : g_S0 43 M' t (cutN t n cc R) := by
        obtain ⟨z1, z2, z3, z4⟩ := s0
        refine ⟨fun s hs => ?_, fun s hs => ?_, fun e he => ?_, ?_⟩
        · show M'.1 44 s = _
          rw [hf2.c1 44]
          refine (z1 s hs).trans ?_
          unfold lS
          rw [lo s (by omega)]
        · have ep : pS t (cutN t n cc R) s = pS t n s := by
            unfold pS
            rw [lo (576 + s) (by omega), ptE_lo (n := n) (by omega) (by omega) h11 (fun k hk => lo k (by omega))]
          show (M'.1 45 _ = _ ∧ M'.1 45 _ = _ ∧ M'.1 45 _ = _ ∧ M'.1 45 _ = _ ∧ M'.1 45 _ = _) ∧ ∀ j, j < 11 → M'.1 45 _ = _
          rw [hf2.c1 45, ep, lo (540 + s) (by omega), lo (432 + s) (by omega), lo (468 + s) (by omega), lo (504 + s) (by omega)]
          refine ⟨(z2 s hs).1, fun j hj => ?_⟩
          rw [lo (36 + 11 * s + j) (by omega)]
          exact (z2 s hs).2 j hj
        · have y := hm e he
          show M'.1 46 e = _ ∧ M'.1 47 e = _ ∧ M'.1 49 e = _ ∧ M'.1 50 e = _
          rw [hf2.c1 49]
          have gq : gS t (cutN t n cc R) e = gS t n e := by
            unfold gS
            rw [gvN_eq (n := n) (fun r hr => lo _ (by omega))]
          rw [gq]
          refine ⟨?_, ?_, (z3 e he).2.2.1, ?_⟩
          · rw [y.1]
            by_cases q : e < t 8 0
            · rw [if_pos q]
            · rw [if_neg q]
              unfold cutN
              rw [if_neg (by omega), if_neg (by omega), if_neg (by omega), if_neg (by omega)]
          · rw [y.2.1]
            by_cases q : e < t 8 0
            · rw [if_pos q]
            · rw [if_neg q, (ePl e he (fun z => q z.1)).1]
          · rw [y.2.2]
            by_cases q : e < t 8 0
            · rw [if_pos q]
            · rw [if_neg q, (ePl e he (fun z => q z.1)).2]
        · show M'.1 43 7 = _
          rw [e7, cut_hi (by omega) h6]
          exact z4
      refine w_at 90 [2, 48] ?_
      refine ⟨_, e9, ?_⟩
      refine z_le (t 8 0) (t 8 0) (fun _ => ?_) (fun h => by omega)
      have st2 : sts 43 M' t (cutN t n cc R) := ⟨⟨e9, h6⟩, fun e he => ⟨(g2.2.2.1 e (by omega)).1, by
        have x := ba.bn.2.1 e he
        rw [eSt e he]
        split <;> omega⟩⟩
      refine k2_queueByTotals_43 st2 (f := ttl t n) (fun o ho => ⟨by rw [hf.c1 243]; exact ht1 o ho, (htt o ho).1, by have := htt o ho; omega⟩) (fun M3 hf3 hm3 => ?_)
      refine hQ M3 qu (hf2.mono.tr hf3.mono) (g2.fs (by rw [hf3.c1 43]) hf3) (fun i hi hi2 => ?_) cq.2
      have := hqu i (by rw [eT]; exact hi2)
      have z := hm3 (qu i) this.1
      rw [this.2.2] at z
      exact ⟨z, this.1⟩
    · rintro k M' hk ⟨hf, hm⟩ ih v rfl
      have hf2 : q_fs [46, 47, 50, 243] [] M M' := hf1.mono.tr hf.mono
      have e9 : M'.1 6 9 = nI (t 8 0) := by rw [hf2.c1 6]; exact C.2.2.2.2.1
      have e7 : M'.1 43 7 = Int32.ofInt (n 631) := by rw [hf2.c1 43]; exact s0.2.2.2
      have e22 : M'.1 22 cc = nI (t 15 cc) := by rw [hf2.c1 22]; exact (C.2.2.2.2.2.2.2.2.2.2.2 cc hcc).2.1
      have e23 : M'.1 23 cc = nI (t 16 cc) := by rw [hf2.c1 23]; exact (C.2.2.2.2.2.2.2.2.2.2.2 cc hcc).2.2
      have hto : ∀ o, o < t 8 0 → M'.1 243 o = Int32.ofInt (ttl t n o) := fun o ho => by rw [hf.c1 243]; exact ht1 o ho
      have tk := htt k hk
      -- the step: all but k stand
      have nx : ∀ M2, q_fs [46, 47, 50] [] M1 M2 → (∀ e, e < 6 → ¬ e = k → M2.1 46 e = M'.1 46 e ∧ M2.1 47 e = M'.1 47 e ∧ M2.1 50 e = M'.1 50 e) → M2.1 46 k = Int32.ofInt (cutN t n cc R (612 + k)) → M2.1 47 k = Int32.ofInt (bS t (cutN t n cc R) k) → M2.1 50 k = Int32.ofInt (tS t (cutN t n cc R) k) → ∀ v, v = nI (k + 1) → q_G q_mt (L, xs, q_shp) E nX6_doCut (d + 1) 0 0 (q_Q (L, xs, q_shp) E Q) 48 [some (.ref 242), some (.int (nI cc)), some (.int (v))] [] M2 := by
        intro M2 hfm h1 h2 h3 h4 v hv
        refine ih M2 ⟨hfm, fun e he => ?_⟩ v hv
        by_cases q : e = k
        · subst q
          rw [if_pos (by omega), if_pos (by omega), if_pos (by omega)]
          exact ⟨h2, h3, h4⟩
        · have y := hm e he
          have x := h1 e he q
          rw [x.1, x.2.1, x.2.2, y.1, y.2.1, y.2.2]
          by_cases q2 : e < k
          · rw [if_pos q2, if_pos q2, if_pos q2, if_pos (by omega), if_pos (by omega), if_pos (by omega)]
            exact ⟨rfl, rfl, rfl⟩
          · rw [if_neg q2, if_neg q2, if_neg q2, if_neg (by omega), if_neg (by omega), if_neg (by omega)]
            exact ⟨rfl, rfl, rfl⟩
      have yk := hm k (by omega)
      rw [if_neg (by omega), if_neg (by omega), if_neg (by omega)] at yk
      have st' : sts 43 M' t (fun i => if 612 ≤ i ∧ i < 612 + k then cutN t n cc R i else n i) := ⟨⟨e9, h6⟩, fun e he => by
        have x := ba.bn.2.1 e he
        have y := (hm e (by omega)).1
        by_cases q : e < k
        · rw [if_pos q] at y
          dsimp only
          rw [if_pos (by omega)]
          refine ⟨y, ?_⟩
          rw [eSt e he]
          split <;> omega
        · rw [if_neg q] at y
          dsimp only
          rw [if_neg (by omega)]
          exact ⟨y, x.1⟩⟩
      refine w_at 90 [2, 48] ?_
      refine ⟨_, e9, ?_⟩
      refine z_le (t 8 0) k (fun h => by omega) (fun _ => ?_)
      refine ⟨k, _, by (first | assumption | (simp only [z_nat, z_lit, ← Int32.ofInt_add, ← Int32.ofInt_sub, ← Int32.ofInt_mul]; exact congrArg Int32.ofInt (by omega)) | (simp only [z_nat, z_lit, ← Int32.ofInt_add, ← Int32.ofInt_sub, ← Int32.ofInt_mul]; done) | exact congrArg Int32.ofInt (by omega) | rfl), by (dsimp only; omega), hto k hk, ?_⟩
      refine z_ne (ttl t n k) (-1) (fun q => ?_) (fun q => ?_)
      · have hin : inE n k = true := by
          cases z : inE n k with
          | true => rfl
          | false => exact absurd (tk.2.2.mpr z) q
        refine ⟨cc, _, by (first | assumption | (simp only [z_nat, z_lit, ← Int32.ofInt_add, ← Int32.ofInt_sub, ← Int32.ofInt_mul]; exact congrArg Int32.ofInt (by omega)) | (simp only [z_nat, z_lit, ← Int32.ofInt_add, ← Int32.ofInt_sub, ← Int32.ofInt_mul]; done) | exact congrArg Int32.ofInt (by omega) | rfl), by (dsimp only; omega), e22, ?_⟩
        refine k3_isAmong_43 st' (f := ttl t n) (fun o ho => ⟨hto o ho, (htt o ho).1, by have := htt o ho; omega⟩) k (t 15 cc) hk (by omega) (fun h1 => bn_t (by decide) ?_) (fun h1 => bn_f (by decide) ?_)
        · rw [hgr k hk hin] at h1
          have hst : sty t n cc k = true := sty_t.mpr ⟨hin, h1⟩
          have e1 : cutN t n cc R (612 + k) = n (612 + k) := by
            rw [eSt k hk, if_neg (fun z => by rw [hst] at z; cases z.2)]
          refine ⟨cc, _, by (first | assumption | (simp only [z_nat, z_lit, ← Int32.ofInt_add, ← Int32.ofInt_sub, ← Int32.ofInt_mul]; exact congrArg Int32.ofInt (by omega)) | (simp only [z_nat, z_lit, ← Int32.ofInt_add, ← Int32.ofInt_sub, ← Int32.ofInt_mul]; done) | exact congrArg Int32.ofInt (by omega) | rfl), by (dsimp only; omega), e23, ?_⟩
          refine z_ne (t 16 cc) 1 (fun q2 => ?_) (fun q2 => ?_)
          · have p := ePl k (by omega) (fun z => by omega)
            exact nx M' hf (fun e he _ => ⟨rfl, rfl, rfl⟩) (by rw [e1]; exact yk.1) (by rw [p.1]; exact yk.2.1) (by rw [p.2]; exact yk.2.2) _ (by (first | assumption | (simp only [z_nat, z_lit, ← Int32.ofInt_add, ← Int32.ofInt_sub, ← Int32.ofInt_mul]; exact congrArg Int32.ofInt (by omega)) | (simp only [z_nat, z_lit, ← Int32.ofInt_add, ← Int32.ofInt_sub, ← Int32.ofInt_mul]; done) | exact congrArg Int32.ofInt (by omega) | rfl))
          · have p := eAn k hk hst (by omega)
            refine ⟨_, e7, ?_⟩
            refine ⟨k, _, by (first | assumption | (simp only [z_nat, z_lit, ← Int32.ofInt_add, ← Int32.ofInt_sub, ← Int32.ofInt_mul]; exact congrArg Int32.ofInt (by omega)) | (simp only [z_nat, z_lit, ← Int32.ofInt_add, ← Int32.ofInt_sub, ← Int32.ofInt_mul]; done) | exact congrArg Int32.ofInt (by omega) | rfl), by (dsimp only; omega), rfl, ?_⟩
            refine ⟨k, _, by (first | assumption | (simp only [z_nat, z_lit, ← Int32.ofInt_add, ← Int32.ofInt_sub, ← Int32.ofInt_mul]; exact congrArg Int32.ofInt (by omega)) | (simp only [z_nat, z_lit, ← Int32.ofInt_add, ← Int32.ofInt_sub, ← Int32.ofInt_mul]; done) | exact congrArg Int32.ofInt (by omega) | rfl), by (dsimp only; omega), rfl, ?_⟩
            refine nx _ hf.s1.s1 (fun e he z => ⟨rfl, ?_, ?_⟩) (by rw [e1]; exact yk.1) (by rw [p.1]; exact q_si_s) (by rw [p.2]; exact q_si_s) _ (by (first | assumption | (simp only [z_nat, z_lit, ← Int32.ofInt_add, ← Int32.ofInt_sub, ← Int32.ofInt_mul]; exact congrArg Int32.ofInt (by omega)) | (simp only [z_nat, z_lit, ← Int32.ofInt_add, ← Int32.ofInt_sub, ← Int32.ofInt_mul]; done) | exact congrArg Int32.ofInt (by omega) | rfl))
            · exact q_si_n z
            · exact q_si_n z
        · rw [hgr k hk hin] at h1
          have hst : sty t n cc k = false := Bool.eq_false_iff.mpr (fun z => h1 (sty_t.mp z).2)
          have p := ePl k (by omega) (fun z => by rw [hst] at z; cases z.2.1)
          refine ⟨_, e7, ?_⟩
          refine ⟨k, _, by (first | assumption | (simp only [z_nat, z_lit, ← Int32.ofInt_add, ← Int32.ofInt_sub, ← Int32.ofInt_mul]; exact congrArg Int32.ofInt (by omega)) | (simp only [z_nat, z_lit, ← Int32.ofInt_add, ← Int32.ofInt_sub, ← Int32.ofInt_mul]; done) | exact congrArg Int32.ofInt (by omega) | rfl), by (dsimp only; omega), rfl, ?_⟩
          refine nx _ hf.s1 (fun e he z => ⟨q_si_n z, rfl, rfl⟩) (by rw [eSt k hk, if_pos ⟨hin, hst⟩]; exact q_si_s) (by rw [p.1]; exact yk.2.1) (by rw [p.2]; exact yk.2.2) _ (by (first | assumption | (simp only [z_nat, z_lit, ← Int32.ofInt_add, ← Int32.ofInt_sub, ← Int32.ofInt_mul]; exact congrArg Int32.ofInt (by omega)) | (simp only [z_nat, z_lit, ← Int32.ofInt_add, ← Int32.ofInt_sub, ← Int32.ofInt_mul]; done) | exact congrArg Int32.ofInt (by omega) | rfl))
      · have hin := tk.2.2.mp q
        have hst : sty t n cc k = false := Bool.eq_false_iff.mpr (fun z => by rw [(sty_t.mp z).1] at hin; cases hin)
        have p := ePl k (by omega) (fun z => by rw [hst] at z; cases z.2.1)
        exact nx M' hf (fun e he _ => ⟨rfl, rfl, rfl⟩) (by rw [eSt k hk, if_neg (fun z => by rw [hin] at z; cases z.1)]; exact yk.1) (by rw [p.1]; exact yk.2.1) (by rw [p.2]; exact yk.2.2) _ (by (first | assumption | (simp only [z_nat, z_lit, ← Int32.ofInt_add, ← Int32.ofInt_sub, ← Int32.ofInt_mul]; exact congrArg Int32.ofInt (by omega)) | (simp only [z_nat, z_lit, ← Int32.ofInt_add, ← Int32.ofInt_sub, ← Int32.ofInt_mul]; done) | exact congrArg Int32.ofInt (by omega) | rfl))
    · rw [if_neg (by omega), if_neg (by omega), if_neg (by omega)]
      have y := s0.2.2.1 e he
      rw [hf1.c1 46, hf1.c1 47, hf1.c1 50]
      exact ⟨y.1, y.2.1, y.2.2.2⟩
  have W := lp_m (W := fun k M' => ∀ v, v = nI k → q_G q_mt (L, xs, q_shp) E nX6_doCut (d + 1) 0 0 (q_Q (L, xs, q_shp) E Q) 2 [some (.ref 242), some (.int (nI cc)), some (.int (v))] [] M') (J := fun k M' => q_fs [243] [] M M' ∧ ∀ o, o < k → M'.1 243 o = Int32.ofInt (ttl t n o)) (t 8 0) ?_ ?_ 0 M (Nat.zero_le _) ⟨q_fs.rf, fun o ho => by omega⟩
  · refine w_in 90 [2, 48] ?_
    exact W _ rfl
  · rintro M' ⟨hf, hm⟩ v rfl
    have e9 : M'.1 6 9 = nI (t 8 0) := by rw [hf.c1 6]; exact C.2.2.2.2.1
    refine w_at 90 [2, 48] ?_
    refine ⟨_, e9, ?_⟩
    refine z_le (t 8 0) (t 8 0) (fun _ => ?_) (fun h => by omega)
    exact L2 M' hf hm
  · rintro k M' hk ⟨hf, hm⟩ ih v rfl
    have e9 : M'.1 6 9 = nI (t 8 0) := by rw [hf.c1 6]; exact C.2.2.2.2.1
    have s' : sts 43 M' t n := (s0.fs (M' := M') (by rw [hf.c1 43]) hf).st_43 (C.fs hf) ba
    have e7 : M'.1 50 k = Int32.ofInt (toF t n k) := by
      rw [hf.c1 50]
      have := (s0.2.2.1 k (by omega)).2.2.2
      unfold tS at this
      rw [if_pos hk] at this
      exact this
    refine w_at 90 [2, 48] ?_
    refine ⟨_, e9, ?_⟩
    refine z_le (t 8 0) k (fun h => by omega) (fun _ => ?_)
    refine k3_isIn_43 s' k hk (fun h1 => br_f (by decide) ?_) (fun h1 => br_t (by decide) ?_)
    · refine ⟨k, _, by (first | assumption | (simp only [z_nat, z_lit, ← Int32.ofInt_add, ← Int32.ofInt_sub, ← Int32.ofInt_mul]; exact congrArg Int32.ofInt (by omega)) | (simp only [z_nat, z_lit, ← Int32.ofInt_add, ← Int32.ofInt_sub, ← Int32.ofInt_mul]; done) | exact congrArg Int32.ofInt (by omega) | rfl), by (dsimp only; omega), e7, ?_⟩
      refine ⟨k, _, by (first | assumption | (simp only [z_nat, z_lit, ← Int32.ofInt_add, ← Int32.ofInt_sub, ← Int32.ofInt_mul]; exact congrArg Int32.ofInt (by omega)) | (simp only [z_nat, z_lit, ← Int32.ofInt_add, ← Int32.ofInt_sub, ← Int32.ofInt_mul]; done) | exact congrArg Int32.ofInt (by omega) | rfl), by (dsimp only; omega), rfl, ?_⟩
      refine ih _ ⟨hf.s1, fun o ho => ?_⟩ _ (by (first | assumption | (simp only [z_nat, z_lit, ← Int32.ofInt_add, ← Int32.ofInt_sub, ← Int32.ofInt_mul]; exact congrArg Int32.ofInt (by omega)) | (simp only [z_nat, z_lit, ← Int32.ofInt_add, ← Int32.ofInt_sub, ← Int32.ofInt_mul]; done) | exact congrArg Int32.ofInt (by omega) | rfl))
      by_cases q : o = k
      · rw [q, q_si_s]
        unfold ttl
        rw [if_pos h1]
      · rw [q_si_n q]
        exact hm o (by omega)
    · refine ⟨k, _, by (first | assumption | (simp only [z_nat, z_lit, ← Int32.ofInt_add, ← Int32.ofInt_sub, ← Int32.ofInt_mul]; exact congrArg Int32.ofInt (by omega)) | (simp only [z_nat, z_lit, ← Int32.ofInt_add, ← Int32.ofInt_sub, ← Int32.ofInt_mul]; done) | exact congrArg Int32.ofInt (by omega) | rfl), by (dsimp only; omega), rfl, ?_⟩
      refine ih _ ⟨hf.s1, fun o ho => ?_⟩ _ (by (first | assumption | (simp only [z_nat, z_lit, ← Int32.ofInt_add, ← Int32.ofInt_sub, ← Int32.ofInt_mul]; exact congrArg Int32.ofInt (by omega)) | (simp only [z_nat, z_lit, ← Int32.ofInt_add, ← Int32.ofInt_sub, ← Int32.ofInt_mul]; done) | exact congrArg Int32.ofInt (by omega) | rfl))
      by_cases q : o = k
      · rw [q, q_si_s]
        unfold ttl
        rw [if_neg (by rw [h1]; decide)]
      · rw [q_si_n q]
        exact hm o (by omega)
set_option maxRecDepth 100000 in
set_option maxHeartbeats 4000000 in
theorem k3_isAmong_257 (s : sts 257 M t n) {f : Nat → Int} (hf : ∀ o, o < t 8 0 → M.1 266 o = Int32.ofInt (f o) ∧ -1 ≤ f o ∧ f o ≤ 1000000) {x y : Int32} (e k : Nat) (he : e < t 8 0) (hk : k ≤ 6) (h1 : gtN f (t 8 0) e < k → Q (some (.int 1)) M) (h0 : ¬ gtN f (t 8 0) e < k → Q (some (.int 0)) M) (hx : x = nI e := by (first | assumption | (simp only [z_nat, z_lit, ← Int32.ofInt_add, ← Int32.ofInt_sub, ← Int32.ofInt_mul]; exact congrArg Int32.ofInt (by omega)) | (simp only [z_nat, z_lit, ← Int32.ofInt_add, ← Int32.ofInt_sub, ← Int32.ofInt_mul]; done) | exact congrArg Int32.ofInt (by omega) | rfl)) (hy : y = nI k := by (first | assumption | (simp only [z_nat, z_lit, ← Int32.ofInt_add, ← Int32.ofInt_sub, ← Int32.ofInt_mul]; exact congrArg Int32.ofInt (by omega)) | (simp only [z_nat, z_lit, ← Int32.ofInt_add, ← Int32.ofInt_sub, ← Int32.ofInt_mul]; done) | exact congrArg Int32.ofInt (by omega) | rfl)) : q_C q_mt (L, xs, q_shp) E nX6_isAmong (d) 0 0 [.ref 265, .ref 266, .int (x), .int (y)] M Q := by
  subst hx hy
  have h6 := s.1.2
  have b1 := hf e he
  have W := lp_up (W := fun m => ∀ u v, u = nI (gtN f m e) → v = nI m → q_G q_mt (L, xs, q_shp) E nX6_isAmong (d) 0 0 (q_Q (L, xs, q_shp) E Q) 6 [some (.ref 265), some (.ref 266), some (.int (nI e)), some (.int (nI k)), some (.int (u)), some (.int (v))] [] M) (t 8 0) ?_ ?_ 0 (Nat.zero_le _)
  · refine w_in 90 [6] ?_
    exact W _ _ rfl rfl
  · rintro u v rfl rfl
    have hc := fb_ct_le (fun o => decide (f e < f o)) (t 8 0)
    unfold gtN at h1 h0
    refine w_at 90 [6] ?_
    refine ⟨_, s.1.1, ?_⟩
    refine z_le (t 8 0) (t 8 0) (fun h => ?_) (fun h => by omega)
    exact z_le (k : Int) (fb_ct (fun o => decide (f e < f o)) (t 8 0)) (fun h => ⟨z_0, h0 (by omega)⟩) (fun h => ⟨z_1, h1 (by omega)⟩)
  · rintro m hm ih u v rfl rfl
    have hc := fb_ct_le (fun o => decide (f e < f o)) m
    have b2 := hf m hm
    refine w_at 90 [6] ?_
    refine ⟨_, s.1.1, ?_⟩
    refine z_le (t 8 0) m (fun h => by omega) (fun h => ?_)
    refine ⟨m, _, by (first | assumption | (simp only [z_nat, z_lit, ← Int32.ofInt_add, ← Int32.ofInt_sub, ← Int32.ofInt_mul]; exact congrArg Int32.ofInt (by omega)) | (simp only [z_nat, z_lit, ← Int32.ofInt_add, ← Int32.ofInt_sub, ← Int32.ofInt_mul]; done) | exact congrArg Int32.ofInt (by omega) | rfl), by (dsimp only; omega), b2.1, ?_⟩
    refine ⟨e, _, by (first | assumption | (simp only [z_nat, z_lit, ← Int32.ofInt_add, ← Int32.ofInt_sub, ← Int32.ofInt_mul]; exact congrArg Int32.ofInt (by omega)) | (simp only [z_nat, z_lit, ← Int32.ofInt_add, ← Int32.ofInt_sub, ← Int32.ofInt_mul]; done) | exact congrArg Int32.ofInt (by omega) | rfl), by (dsimp only; omega), b1.1, ?_⟩
    refine z_le (f m) (f e) (fun h => ?_) (fun h => ?_)
    · exact ih _ _ (by unfold gtN; rw [ct_f (p := fun o => decide (f e < f o)) (decide_eq_false (by omega))]) (by (first | assumption | (simp only [z_nat, z_lit, ← Int32.ofInt_add, ← Int32.ofInt_sub, ← Int32.ofInt_mul]; exact congrArg Int32.ofInt (by omega)) | (simp only [z_nat, z_lit, ← Int32.ofInt_add, ← Int32.ofInt_sub, ← Int32.ofInt_mul]; done) | exact congrArg Int32.ofInt (by omega) | rfl))
    · exact ih _ _ (by unfold gtN; rw [ct_t (p := fun o => decide (f e < f o)) (decide_eq_true (by omega))]; (first | assumption | (simp only [z_nat, z_lit, ← Int32.ofInt_add, ← Int32.ofInt_sub, ← Int32.ofInt_mul]; exact congrArg Int32.ofInt (by omega)) | (simp only [z_nat, z_lit, ← Int32.ofInt_add, ← Int32.ofInt_sub, ← Int32.ofInt_mul]; done) | exact congrArg Int32.ofInt (by omega) | rfl)) (by (first | assumption | (simp only [z_nat, z_lit, ← Int32.ofInt_add, ← Int32.ofInt_sub, ← Int32.ofInt_mul]; exact congrArg Int32.ofInt (by omega)) | (simp only [z_nat, z_lit, ← Int32.ofInt_add, ← Int32.ofInt_sub, ← Int32.ofInt_mul]; done) | exact congrArg Int32.ofInt (by omega) | rfl))
theorem g_S0.st_257 (h : g_S0 257 M t n) (C : r_C 6 M t) (ba : b_A t n) : sts 257 M t n := ⟨⟨C.2.2.2.2.1, ba.e6⟩, fun e he => ⟨(h.2.2.1 e (by have := ba.e6; omega)).1, (ba.bn.2.1 e he).1⟩⟩
set_option maxRecDepth 100000 in
set_option maxHeartbeats 4000000 in
theorem k2_doCut_257 (s0 : g_S0 257 M t n) (C : r_C 6 M t) (ba : b_A t n) {a : Int32} (cc : Nat) (hcc : cc < t 13 0) (h31 : 1 ≤ n 631 ∧ n 631 ≤ 6) {R : Nat → Nat} (hR : isR (sty t n cc) (kyF (toF t n)) (t 8 0) R) (hfull : ∀ e, e < t 8 0 → inE n e = true → ∀ r, r < t 0 0 → n (576 + (6 * e + r)) = 1 → (r : Int) + 1 ≤ n 631) (hQ : ∀ M' qu, q_fs [260, 261, 262, 264, 266] [] M M' → g_S0 257 M' t (cutN t n cc R) → (∀ i, i < 6 → i < t 8 0 → M'.1 262 i = nI (qu i) ∧ qu i < t 8 0) → qRl t (cutN t n cc R) (inE (cutN t n cc R)) qu → Q none M') (ha : a = nI cc := by (first | assumption | (simp only [z_nat, z_lit, ← Int32.ofInt_add, ← Int32.ofInt_sub, ← Int32.ofInt_mul]; exact congrArg Int32.ofInt (by omega)) | (simp only [z_nat, z_lit, ← Int32.ofInt_add, ← Int32.ofInt_sub, ← Int32.ofInt_mul]; done) | exact congrArg Int32.ofInt (by omega) | rfl)) : q_C q_mt (L, xs, q_shp) E nX6_doCut (d + 1) 0 0 [.ref 265, .int (a)] M Q := by
  subst ha
  have h6 := ba.e6
  have h7 := ba.r6
  have h11 := ba.j11
  have c3 := ba.c3
  have hcu := ba.b2.2.1 cc hcc
  have hb : ∀ o, o < t 8 0 → 0 ≤ toF t n o ∧ toF t n o ≤ 108000 := fun o ho => toE_c ba ho
  have htt : ∀ o, o < t 8 0 → -1 ≤ ttl t n o ∧ ttl t n o ≤ 108000 ∧ (ttl t n o = -1 ↔ inE n o = false) := fun o ho => by
    have := hb o ho
    unfold ttl
    cases q : inE n o with
    | true =>
      rw [if_pos rfl]
      refine ⟨by omega, by omega, ⟨fun z => by omega, fun z => by cases z⟩⟩
    | false =>
      rw [if_neg (by decide)]
      exact ⟨by omega, by omega, ⟨fun _ => rfl, fun _ => rfl⟩⟩
  have hgr : ∀ e, e < t 8 0 → inE n e = true → gtN (ttl t n) (t 8 0) e = grN t n (toF t n) e := fun e he hi => gt_gr (fun o ho z => by unfold ttl; rw [if_pos z]; exact ⟨rfl, (hb o ho).1⟩) (fun o ho z => if_neg (by rw [z]; decide)) he hi
  obtain ⟨qu, hqu⟩ := isR_ex (A := fun _ => true) (c := kyF (ttl t n)) (k := t 8 0)
  have cq := cut_qRl h6 h31.1 hR hqu
  have eT : fb_ct (fun _ => true) (t 8 0) = t 8 0 := fb_ct_all.mpr (fun _ _ => rfl)
  have lo : ∀ i, i < 612 → cutN t n cc R i = n i := fun i hi => cut_lo hi
  -- what becomes of one
  have ePl : ∀ e, e < 6 → (¬ (e < t 8 0 ∧ sty t n cc e = true ∧ t 16 cc = 1)) → bS t (cutN t n cc R) e = bS t n e ∧ tS t (cutN t n cc R) e = tS t n e := fun e he h => by
    unfold bS tS
    by_cases q : e < t 8 0
    · rw [if_pos q, if_pos q, if_pos q, if_pos q]
      have ef : cutN t n cc R (618 + e) = n (618 + e) := by
        rw [cut_fr q h6, if_neg (fun z => h ⟨q, by rw [Bool.and_eq_true, decide_eq_true_eq] at z; exact z⟩)]
      rw [ef, toE_cg he h7 h11 lo ef]
      exact ⟨rfl, rfl⟩
    · rw [if_neg q, if_neg q, if_neg q, if_neg q]
      exact ⟨rfl, rfl⟩
  have eAn : ∀ e, e < t 8 0 → sty t n cc e = true → t 16 cc = 1 → bS t (cutN t n cc R) e = n 631 ∧ tS t (cutN t n cc R) e = 0 := fun e he h1 h2 => by
    unfold bS tS
    rw [if_pos he, if_pos he]
    have ef : cutN t n cc R (618 + e) = n 631 + 1 := by
      rw [cut_fr he h6, if_pos (by rw [h1, decide_eq_true h2]; rfl)]
    refine ⟨by rw [ef]; omega, ?_⟩
    unfold toE
    refine si_zero (fun r hr => ?_)
    unfold tof
    rw [ef, lo _ (by omega), if_neg]
    intro z
    have := hfull e he (sty_t.mp h1).1 r hr z.2
    omega
  have eSt : ∀ e, e < t 8 0 → cutN t n cc R (612 + e) = if inE n e = true ∧ sty t n cc e = false then n 631 else n (612 + e) := fun e he => by
    rw [cut_st he]
    by_cases q : inE n e = true ∧ sty t n cc e = false
    · rw [if_pos q, if_pos (by rw [q.1, q.2]; rfl)]
    · rw [if_neg q, if_neg (fun z => q (by rw [Bool.and_eq_true, Bool.not_eq_true'] at z; exact z))]
  have L2 : ∀ M1, q_fs [266] [] M M1 → (∀ o, o < t 8 0 → M1.1 266 o = Int32.ofInt (ttl t n o)) → q_G q_mt (L, xs, q_shp) E nX6_doCut (d + 1) 0 0 (q_Q (L, xs, q_shp) E Q) 48 [some (.ref 265), some (.int (nI cc)), some (.int (Int32.ofInt 0))] [] M1 := by
    intro M1 hf1 ht1
    have W := lp_m (W := fun k M' => ∀ v, v = nI k → q_G q_mt (L, xs, q_shp) E nX6_doCut (d + 1) 0 0 (q_Q (L, xs, q_shp) E Q) 48 [some (.ref 265), some (.int (nI cc)), some (.int (v))] [] M') (J := fun k M' => q_fs [260, 261, 264] [] M1 M' ∧ ∀ e, e < 6 → M'.1 260 e = Int32.ofInt (if e < k then cutN t n cc R (612 + e) else n (612 + e)) ∧ M'.1 261 e = Int32.ofInt (if e < k then bS t (cutN t n cc R) e else bS t n e) ∧ M'.1 264 e = Int32.ofInt (if e < k then tS t (cutN t n cc R) e else tS t n e)) (t 8 0) ?_ ?_ 0 M1 (Nat.zero_le _) ⟨q_fs.rf, fun e he => ?_⟩
    · exact W _ rfl
    · rintro M' ⟨hf, hm⟩ v rfl
      have hf2 : q_fs [260, 261, 264, 266] [] M M' := hf1.mono.tr hf.mono
      have e9 : M'.1 6 9 = nI (t 8 0) := by rw [hf2.c1 6]; exact C.2.2.2.2.1
      have e7 : M'.1 257 7 = M.1 257 7 := by rw [hf2.c1 257]
      have g2 : g_S0 257 M' t (cutN t n cc R) := by
        obtain ⟨z1, z2, z3, z4⟩ := s0
        refine ⟨fun s hs => ?_, fun s hs => ?_, fun e he => ?_, ?_⟩
        · show M'.1 258 s = _
          rw [hf2.c1 258]
          refine (z1 s hs).trans ?_
          unfold lS
          rw [lo s (by omega)]
        · have ep : pS t (cutN t n cc R) s = pS t n s := by
            unfold pS
            rw [lo (576 + s) (by omega), ptE_lo (n := n) (by omega) (by omega) h11 (fun k hk => lo k (by omega))]
          show (M'.1 259 _ = _ ∧ M'.1 259 _ = _ ∧ M'.1 259 _ = _ ∧ M'.1 259 _ = _ ∧ M'.1 259 _ = _) ∧ ∀ j, j < 11 → M'.1 259 _ = _
          rw [hf2.c1 259, ep, lo (540 + s) (by omega), lo (432 + s) (by omega), lo (468 + s) (by omega), lo (504 + s) (by omega)]
          refine ⟨(z2 s hs).1, fun j hj => ?_⟩
          rw [lo (36 + 11 * s + j) (by omega)]
          exact (z2 s hs).2 j hj
        · have y := hm e he
          show M'.1 260 e = _ ∧ M'.1 261 e = _ ∧ M'.1 263 e = _ ∧ M'.1 264 e = _
          rw [hf2.c1 263]
          have gq : gS t (cutN t n cc R) e = gS t n e := by
            unfold gS
            rw [gvN_eq (n := n) (fun r hr => lo _ (by omega))]
          rw [gq]
          refine ⟨?_, ?_, (z3 e he).2.2.1, ?_⟩
          · rw [y.1]
            by_cases q : e < t 8 0
            · rw [if_pos q]
            · rw [if_neg q]
              unfold cutN
              rw [if_neg (by omega), if_neg (by omega), if_neg (by omega), if_neg (by omega)]
          · rw [y.2.1]
            by_cases q : e < t 8 0
            · rw [if_pos q]
            · rw [if_neg q, (ePl e he (fun z => q z.1)).1]
          · rw [y.2.2]
            by_cases q : e < t 8 0
            · rw [if_pos q]
            · rw [if_neg q, (ePl e he (fun z => q z.1)).2]
        · show M'.1 257 7 = _
          rw [e7, cut_hi (by omega) h6]
          exact z4
      refine w_at 90 [2, 48] ?_
      refine ⟨_, e9, ?_⟩
      refine z_le (t 8 0) (t 8 0) (fun _ => ?_) (fun h => by omega)
      have st2 : sts 257 M' t (cutN t n cc R) := ⟨⟨e9, h6⟩, fun e he => ⟨(g2.2.2.1 e (by omega)).1, by
        have x := ba.bn.2.1 e he
        rw [eSt e he]
        split <;> omega⟩⟩
      refine k2_queueByTotals_257 st2 (f := ttl t n) (fun o ho => ⟨by rw [hf.c1 266]; exact ht1 o ho, (htt o ho).1, by have := htt o ho; omega⟩) (fun M3 hf3 hm3 => ?_)
      refine hQ M3 qu (hf2.mono.tr hf3.mono) (g2.fs (by rw [hf3.c1 257]) hf3) (fun i hi hi2 => ?_) cq.2
      have := hqu i (by rw [eT]; exact hi2)
      have z := hm3 (qu i) this.1
      rw [this.2.2] at z
      exact ⟨z, this.1⟩
    · rintro k M' hk ⟨hf, hm⟩ ih v rfl
      have hf2 : q_fs [260, 261, 264, 266] [] M M' := hf1.mono.tr hf.mono
      have e9 : M'.1 6 9 = nI (t 8 0) := by rw [hf2.c1 6]; exact C.2.2.2.2.1
      have e7 : M'.1 257 7 = Int32.ofInt (n 631) := by rw [hf2.c1 257]; exact s0.2.2.2
      have e22 : M'.1 22 cc = nI (t 15 cc) := by rw [hf2.c1 22]; exact (C.2.2.2.2.2.2.2.2.2.2.2 cc hcc).2.1
      have e23 : M'.1 23 cc = nI (t 16 cc) := by rw [hf2.c1 23]; exact (C.2.2.2.2.2.2.2.2.2.2.2 cc hcc).2.2
      have hto : ∀ o, o < t 8 0 → M'.1 266 o = Int32.ofInt (ttl t n o) := fun o ho => by rw [hf.c1 266]; exact ht1 o ho
      have tk := htt k hk
      -- the step: all but k stand
      have nx : ∀ M2, q_fs [260, 261, 264] [] M1 M2 → (∀ e, e < 6 → ¬ e = k → M2.1 260 e = M'.1 260 e ∧ M2.1 261 e = M'.1 261 e ∧ M2.1 264 e = M'.1 264 e) → M2.1 260 k = Int32.ofInt (cutN t n cc R (612 + k)) → M2.1 261 k = Int32.ofInt (bS t (cutN t n cc R) k) → M2.1 264 k = Int32.ofInt (tS t (cutN t n cc R) k) → ∀ v, v = nI (k + 1) → q_G q_mt (L, xs, q_shp) E nX6_doCut (d + 1) 0 0 (q_Q (L, xs, q_shp) E Q) 48 [some (.ref 265), some (.int (nI cc)), some (.int (v))] [] M2 := by
        intro M2 hfm h1 h2 h3 h4 v hv
        refine ih M2 ⟨hfm, fun e he => ?_⟩ v hv
        by_cases q : e = k
        · subst q
          rw [if_pos (by omega), if_pos (by omega), if_pos (by omega)]
          exact ⟨h2, h3, h4⟩
        · have y := hm e he
          have x := h1 e he q
          rw [x.1, x.2.1, x.2.2, y.1, y.2.1, y.2.2]
          by_cases q2 : e < k
          · rw [if_pos q2, if_pos q2, if_pos q2, if_pos (by omega), if_pos (by omega), if_pos (by omega)]
            exact ⟨rfl, rfl, rfl⟩
          · rw [if_neg q2, if_neg q2, if_neg q2, if_neg (by omega), if_neg (by omega), if_neg (by omega)]
            exact ⟨rfl, rfl, rfl⟩
      have yk := hm k (by omega)
      rw [if_neg (by omega), if_neg (by omega), if_neg (by omega)] at yk
      have st' : sts 257 M' t (fun i => if 612 ≤ i ∧ i < 612 + k then cutN t n cc R i else n i) := ⟨⟨e9, h6⟩, fun e he => by
        have x := ba.bn.2.1 e he
        have y := (hm e (by omega)).1
        by_cases q : e < k
        · rw [if_pos q] at y
          dsimp only
          rw [if_pos (by omega)]
          refine ⟨y, ?_⟩
          rw [eSt e he]
          split <;> omega
        · rw [if_neg q] at y
          dsimp only
          rw [if_neg (by omega)]
          exact ⟨y, x.1⟩⟩
      refine w_at 90 [2, 48] ?_
      refine ⟨_, e9, ?_⟩
      refine z_le (t 8 0) k (fun h => by omega) (fun _ => ?_)
      refine ⟨k, _, by (first | assumption | (simp only [z_nat, z_lit, ← Int32.ofInt_add, ← Int32.ofInt_sub, ← Int32.ofInt_mul]; exact congrArg Int32.ofInt (by omega)) | (simp only [z_nat, z_lit, ← Int32.ofInt_add, ← Int32.ofInt_sub, ← Int32.ofInt_mul]; done) | exact congrArg Int32.ofInt (by omega) | rfl), by (dsimp only; omega), hto k hk, ?_⟩
      refine z_ne (ttl t n k) (-1) (fun q => ?_) (fun q => ?_)
      · have hin : inE n k = true := by
          cases z : inE n k with
          | true => rfl
          | false => exact absurd (tk.2.2.mpr z) q
        refine ⟨cc, _, by (first | assumption | (simp only [z_nat, z_lit, ← Int32.ofInt_add, ← Int32.ofInt_sub, ← Int32.ofInt_mul]; exact congrArg Int32.ofInt (by omega)) | (simp only [z_nat, z_lit, ← Int32.ofInt_add, ← Int32.ofInt_sub, ← Int32.ofInt_mul]; done) | exact congrArg Int32.ofInt (by omega) | rfl), by (dsimp only; omega), e22, ?_⟩
        refine k3_isAmong_257 st' (f := ttl t n) (fun o ho => ⟨hto o ho, (htt o ho).1, by have := htt o ho; omega⟩) k (t 15 cc) hk (by omega) (fun h1 => bn_t (by decide) ?_) (fun h1 => bn_f (by decide) ?_)
        · rw [hgr k hk hin] at h1
          have hst : sty t n cc k = true := sty_t.mpr ⟨hin, h1⟩
          have e1 : cutN t n cc R (612 + k) = n (612 + k) := by
            rw [eSt k hk, if_neg (fun z => by rw [hst] at z; cases z.2)]
          refine ⟨cc, _, by (first | assumption | (simp only [z_nat, z_lit, ← Int32.ofInt_add, ← Int32.ofInt_sub, ← Int32.ofInt_mul]; exact congrArg Int32.ofInt (by omega)) | (simp only [z_nat, z_lit, ← Int32.ofInt_add, ← Int32.ofInt_sub, ← Int32.ofInt_mul]; done) | exact congrArg Int32.ofInt (by omega) | rfl), by (dsimp only; omega), e23, ?_⟩
          refine z_ne (t 16 cc) 1 (fun q2 => ?_) (fun q2 => ?_)
          · have p := ePl k (by omega) (fun z => by omega)
            exact nx M' hf (fun e he _ => ⟨rfl, rfl, rfl⟩) (by rw [e1]; exact yk.1) (by rw [p.1]; exact yk.2.1) (by rw [p.2]; exact yk.2.2) _ (by (first | assumption | (simp only [z_nat, z_lit, ← Int32.ofInt_add, ← Int32.ofInt_sub, ← Int32.ofInt_mul]; exact congrArg Int32.ofInt (by omega)) | (simp only [z_nat, z_lit, ← Int32.ofInt_add, ← Int32.ofInt_sub, ← Int32.ofInt_mul]; done) | exact congrArg Int32.ofInt (by omega) | rfl))
          · have p := eAn k hk hst (by omega)
            refine ⟨_, e7, ?_⟩
            refine ⟨k, _, by (first | assumption | (simp only [z_nat, z_lit, ← Int32.ofInt_add, ← Int32.ofInt_sub, ← Int32.ofInt_mul]; exact congrArg Int32.ofInt (by omega)) | (simp only [z_nat, z_lit, ← Int32.ofInt_add, ← Int32.ofInt_sub, ← Int32.ofInt_mul]; done) | exact congrArg Int32.ofInt (by omega) | rfl), by (dsimp only; omega), rfl, ?_⟩
            refine ⟨k, _, by (first | assumption | (simp only [z_nat, z_lit, ← Int32.ofInt_add, ← Int32.ofInt_sub, ← Int32.ofInt_mul]; exact congrArg Int32.ofInt (by omega)) | (simp only [z_nat, z_lit, ← Int32.ofInt_add, ← Int32.ofInt_sub, ← Int32.ofInt_mul]; done) | exact congrArg Int32.ofInt (by omega) | rfl), by (dsimp only; omega), rfl, ?_⟩
            refine nx _ hf.s1.s1 (fun e he z => ⟨rfl, ?_, ?_⟩) (by rw [e1]; exact yk.1) (by rw [p.1]; exact q_si_s) (by rw [p.2]; exact q_si_s) _ (by (first | assumption | (simp only [z_nat, z_lit, ← Int32.ofInt_add, ← Int32.ofInt_sub, ← Int32.ofInt_mul]; exact congrArg Int32.ofInt (by omega)) | (simp only [z_nat, z_lit, ← Int32.ofInt_add, ← Int32.ofInt_sub, ← Int32.ofInt_mul]; done) | exact congrArg Int32.ofInt (by omega) | rfl))
            · exact q_si_n z
            · exact q_si_n z
        · rw [hgr k hk hin] at h1
          have hst : sty t n cc k = false := Bool.eq_false_iff.mpr (fun z => h1 (sty_t.mp z).2)
          have p := ePl k (by omega) (fun z => by rw [hst] at z; cases z.2.1)
          refine ⟨_, e7, ?_⟩
          refine ⟨k, _, by (first | assumption | (simp only [z_nat, z_lit, ← Int32.ofInt_add, ← Int32.ofInt_sub, ← Int32.ofInt_mul]; exact congrArg Int32.ofInt (by omega)) | (simp only [z_nat, z_lit, ← Int32.ofInt_add, ← Int32.ofInt_sub, ← Int32.ofInt_mul]; done) | exact congrArg Int32.ofInt (by omega) | rfl), by (dsimp only; omega), rfl, ?_⟩
          refine nx _ hf.s1 (fun e he z => ⟨q_si_n z, rfl, rfl⟩) (by rw [eSt k hk, if_pos ⟨hin, hst⟩]; exact q_si_s) (by rw [p.1]; exact yk.2.1) (by rw [p.2]; exact yk.2.2) _ (by (first | assumption | (simp only [z_nat, z_lit, ← Int32.ofInt_add, ← Int32.ofInt_sub, ← Int32.ofInt_mul]; exact congrArg Int32.ofInt (by omega)) | (simp only [z_nat, z_lit, ← Int32.ofInt_add, ← Int32.ofInt_sub, ← Int32.ofInt_mul]; done) | exact congrArg Int32.ofInt (by omega) | rfl))
      · have hin := tk.2.2.mp q
        have hst : sty t n cc k = false := Bool.eq_false_iff.mpr (fun z => by rw [(sty_t.mp z).1] at hin; cases hin)
        have p := ePl k (by omega) (fun z => by rw [hst] at z; cases z.2.1)
        exact nx M' hf (fun e he _ => ⟨rfl, rfl, rfl⟩) (by rw [eSt k hk, if_neg (fun z => by rw [hin] at z; cases z.1)]; exact yk.1) (by rw [p.1]; exact yk.2.1) (by rw [p.2]; exact yk.2.2) _ (by (first | assumption | (simp only [z_nat, z_lit, ← Int32.ofInt_add, ← Int32.ofInt_sub, ← Int32.ofInt_mul]; exact congrArg Int32.ofInt (by omega)) | (simp only [z_nat, z_lit, ← Int32.ofInt_add, ← Int32.ofInt_sub, ← Int32.ofInt_mul]; done) | exact congrArg Int32.ofInt (by omega) | rfl))
    · rw [if_neg (by omega), if_neg (by omega), if_neg (by omega)]
      have y := s0.2.2.1 e he
      rw [hf1.c1 260, hf1.c1 261, hf1.c1 264]
      exact ⟨y.1, y.2.1, y.2.2.2⟩
  have W := lp_m (W := fun k M' => ∀ v, v = nI k → q_G q_mt (L, xs, q_shp) E nX6_doCut (d + 1) 0 0 (q_Q (L, xs, q_shp) E Q) 2 [some (.ref 265), some (.int (nI cc)), some (.int (v))] [] M') (J := fun k M' => q_fs [266] [] M M' ∧ ∀ o, o < k → M'.1 266 o = Int32.ofInt (ttl t n o)) (t 8 0) ?_ ?_ 0 M (Nat.zero_le _) ⟨q_fs.rf, fun o ho => by omega⟩
  · refine w_in 90 [2, 48] ?_
    exact W _ rfl
  · rintro M' ⟨hf, hm⟩ v rfl
    have e9 : M'.1 6 9 = nI (t 8 0) := by rw [hf.c1 6]; exact C.2.2.2.2.1
    refine w_at 90 [2, 48] ?_
    refine ⟨_, e9, ?_⟩
    refine z_le (t 8 0) (t 8 0) (fun _ => ?_) (fun h => by omega)
    exact L2 M' hf hm
  · rintro k M' hk ⟨hf, hm⟩ ih v rfl
    have e9 : M'.1 6 9 = nI (t 8 0) := by rw [hf.c1 6]; exact C.2.2.2.2.1
    have s' : sts 257 M' t n := (s0.fs (M' := M') (by rw [hf.c1 257]) hf).st_257 (C.fs hf) ba
    have e7 : M'.1 264 k = Int32.ofInt (toF t n k) := by
      rw [hf.c1 264]
      have := (s0.2.2.1 k (by omega)).2.2.2
      unfold tS at this
      rw [if_pos hk] at this
      exact this
    refine w_at 90 [2, 48] ?_
    refine ⟨_, e9, ?_⟩
    refine z_le (t 8 0) k (fun h => by omega) (fun _ => ?_)
    refine k3_isIn_257 s' k hk (fun h1 => br_f (by decide) ?_) (fun h1 => br_t (by decide) ?_)
    · refine ⟨k, _, by (first | assumption | (simp only [z_nat, z_lit, ← Int32.ofInt_add, ← Int32.ofInt_sub, ← Int32.ofInt_mul]; exact congrArg Int32.ofInt (by omega)) | (simp only [z_nat, z_lit, ← Int32.ofInt_add, ← Int32.ofInt_sub, ← Int32.ofInt_mul]; done) | exact congrArg Int32.ofInt (by omega) | rfl), by (dsimp only; omega), e7, ?_⟩
      refine ⟨k, _, by (first | assumption | (simp only [z_nat, z_lit, ← Int32.ofInt_add, ← Int32.ofInt_sub, ← Int32.ofInt_mul]; exact congrArg Int32.ofInt (by omega)) | (simp only [z_nat, z_lit, ← Int32.ofInt_add, ← Int32.ofInt_sub, ← Int32.ofInt_mul]; done) | exact congrArg Int32.ofInt (by omega) | rfl), by (dsimp only; omega), rfl, ?_⟩
      refine ih _ ⟨hf.s1, fun o ho => ?_⟩ _ (by (first | assumption | (simp only [z_nat, z_lit, ← Int32.ofInt_add, ← Int32.ofInt_sub, ← Int32.ofInt_mul]; exact congrArg Int32.ofInt (by omega)) | (simp only [z_nat, z_lit, ← Int32.ofInt_add, ← Int32.ofInt_sub, ← Int32.ofInt_mul]; done) | exact congrArg Int32.ofInt (by omega) | rfl))
      by_cases q : o = k
      · rw [q, q_si_s]
        unfold ttl
        rw [if_pos h1]
      · rw [q_si_n q]
        exact hm o (by omega)
    · refine ⟨k, _, by (first | assumption | (simp only [z_nat, z_lit, ← Int32.ofInt_add, ← Int32.ofInt_sub, ← Int32.ofInt_mul]; exact congrArg Int32.ofInt (by omega)) | (simp only [z_nat, z_lit, ← Int32.ofInt_add, ← Int32.ofInt_sub, ← Int32.ofInt_mul]; done) | exact congrArg Int32.ofInt (by omega) | rfl), by (dsimp only; omega), rfl, ?_⟩
      refine ih _ ⟨hf.s1, fun o ho => ?_⟩ _ (by (first | assumption | (simp only [z_nat, z_lit, ← Int32.ofInt_add, ← Int32.ofInt_sub, ← Int32.ofInt_mul]; exact congrArg Int32.ofInt (by omega)) | (simp only [z_nat, z_lit, ← Int32.ofInt_add, ← Int32.ofInt_sub, ← Int32.ofInt_mul]; done) | exact congrArg Int32.ofInt (by omega) | rfl))
      by_cases q : o = k
      · rw [q, q_si_s]
        unfold ttl
        rw [if_neg (by rw [h1]; decide)]
      · rw [q_si_n q]
        exact hm o (by omega)
end GD
