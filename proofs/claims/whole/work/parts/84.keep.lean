/-! the call keep -/
def g_Kp (M : q_M) (t : q_T) (kp : Nat → Option sN) : Prop := ∀ k, k < 2 → (kp k = none → bt (M.1 2 13) k = false ∧ M.1 288 k = Int32.ofInt 0) ∧ ∀ m, kp k = some m → bt (M.1 2 13) k = true ∧ M.1 288 k = Int32.ofInt 1 ∧ g_S (52 + 8 * k) M t m ∧ ∀ j, j < 634 → M.1 287 (634 * k + j) = Int32.ofInt (m j)
section KP
variable {L : Nat} {xs : Nat → Int32} {E : q_E} {d : Nat} {M : q_M} {t : q_T} {n : sN} {Q : Option Value → q_M → Prop} {P : q_M → Prop}
set_option maxRecDepth 100000 in
set_option maxHeartbeats 4000000 in
theorem k_keepLoop (g : g_R M t n) (k : Nat) (hk : k < 2) (hQ : ∀ M', q_fs [287] [] M M' → (∀ j, j < 1268 → M'.1 287 j = if 634 * k ≤ j ∧ j < 634 * k + 634 then Int32.ofInt (n (j - 634 * k)) else M.1 287 j) → Q (some (.int (nI (gvA t n)))) (q_si M' 288 k (Int32.ofInt 1))) : q_G q_mt (L, xs, q_shp) E nX12_keep (d + 4) 0 0 (q_Q (L, xs, q_shp) E Q) 26 [some (.ref 271), some (.int (nI k)), some (.int (Int32.ofInt 0))] [] M := by
  have W := lp_m (W := fun i M' => ∀ v, v = nI i → q_G q_mt (L, xs, q_shp) E nX12_keep (d + 4) 0 0 (q_Q (L, xs, q_shp) E Q) 26 [some (.ref 271), some (.int (nI k)), some (.int (v))] [] M') (J := fun i M' => q_fs [287] [] M M' ∧ ∀ j, j < 1268 → M'.1 287 j = if 634 * k ≤ j ∧ j < 634 * k + i then Int32.ofInt (n (j - 634 * k)) else M.1 287 j) 634 ?_ ?_ 0 M (Nat.zero_le _) ⟨q_fs.rf, fun j hj => by rw [if_neg (by omega)]⟩
  · exact W _ rfl
  · rintro M' ⟨hf, hm⟩ v rfl
    have g' : g_R (q_si M' 288 k (Int32.ofInt 1)) t n := g.fs (l := [287, 288]) (f := []) hf.mono.s1
    refine w_at 90 [26] ?_
    refine z_le 634 (634 : Nat) (fun _ => ?_) (fun h => by omega)
    have hi := q_inK (i := nI k) (K := k) (n := 2) rfl hk rfl
    have ee : q_si M' 288 (nI k).toNatClampNeg (Int32.ofInt 1) = q_si M' 288 k (Int32.ofInt 1) := by rw [hi.2]
    refine ⟨hi.1, z_1, ?_⟩
    exact k_givenMany (M := q_si M' 288 (nI k).toNatClampNeg (Int32.ofInt 1)) (by rw [ee]; exact g') ⟨_, rfl, by rw [ee]; exact hQ M' hf hm⟩
  · rintro i M' hi ⟨hf, hm⟩ ih v rfl
    have e : M'.1 284 i = Int32.ofInt (n i) := by
      rw [hf.c1 284]
      exact g.at hi
    refine w_at 90 [26] ?_
    refine z_le 634 (i : Int) (fun h => by omega) (fun _ => ?_)
    refine ⟨i, _, by (first | assumption | (simp only [z_nat, z_lit, ← Int32.ofInt_add, ← Int32.ofInt_sub, ← Int32.ofInt_mul]; exact congrArg Int32.ofInt (by omega)) | (simp only [z_nat, z_lit, ← Int32.ofInt_add, ← Int32.ofInt_sub, ← Int32.ofInt_mul]; done) | exact congrArg Int32.ofInt (by omega) | rfl), by (dsimp only; omega), e, ?_⟩
    refine ⟨634 * k + i, _, by (first | assumption | (simp only [z_nat, z_lit, ← Int32.ofInt_add, ← Int32.ofInt_sub, ← Int32.ofInt_mul]; exact congrArg Int32.ofInt (by omega)) | (simp only [z_nat, z_lit, ← Int32.ofInt_add, ← Int32.ofInt_sub, ← Int32.ofInt_mul]; done) | exact congrArg Int32.ofInt (by omega) | rfl), by (dsimp only; omega), rfl, ?_⟩
    refine ih _ ⟨hf.s1, fun j hj => ?_⟩ _ (by (first | assumption | (simp only [z_nat, z_lit, ← Int32.ofInt_add, ← Int32.ofInt_sub, ← Int32.ofInt_mul]; exact congrArg Int32.ofInt (by omega)) | (simp only [z_nat, z_lit, ← Int32.ofInt_add, ← Int32.ofInt_sub, ← Int32.ofInt_mul]; done) | exact congrArg Int32.ofInt (by omega) | rfl))
    by_cases q : j = 634 * k + i
    · rw [q, q_si_s, if_pos (by omega)]
      exact congrArg (fun z => Int32.ofInt (n z)) (by omega)
    · rw [q_si_n q, hm j hj]
      by_cases q2 : 634 * k ≤ j ∧ j < 634 * k + i
      · rw [if_pos q2, if_pos (by omega)]
      · rw [if_neg q2, if_neg (by omega)]
set_option maxRecDepth 100000 in
set_option maxHeartbeats 4000000 in
theorem o_keep_no {a : Int32} (g : g_A 43 M t n) (h : t 0 0 = 0 ∨ ¬ ∃ k, k < 2 ∧ a = nI k) (hP : P M) : zOp L xs E nX11_keep nX12_keep (d + 6) [.int a] M P := by
  obtain ⟨w, hw, rfl⟩ := z_of a
  have h6 := g.R.r6
  by_cases q : 0 ≤ w ∧ w ≤ 1
  · have h0 : t 0 0 = 0 := h.elim id (fun z => absurd ⟨w.toNat, by omega, by rw [z_nat]; exact congrArg Int32.ofInt (by omega)⟩ z)
    refine w_in 90 [] ?_
    refine z_lt w 0 (fun z => by omega) (fun _ => ?_)
    refine z_lt w 2 (fun _ => ?_) (fun z => by omega)
    refine ⟨_, g.ro, ?_⟩
    refine z_ne (t 0 0) 0 (fun z => by omega) (fun _ => ⟨_, rfl, _, rfl, ?_⟩)
    refine w_in 90 [26] ?_
    refine k_isIn w 0 1 hw (by omega) (by omega) (fun _ _ => bn_t (by decide) ?_) (fun z => absurd q z)
    refine ⟨0, _, by (first | assumption | (simp only [z_nat, z_lit, ← Int32.ofInt_add, ← Int32.ofInt_sub, ← Int32.ofInt_mul]; exact congrArg Int32.ofInt (by omega)) | (simp only [z_nat, z_lit, ← Int32.ofInt_add, ← Int32.ofInt_sub, ← Int32.ofInt_mul]; done) | exact congrArg Int32.ofInt (by omega) | rfl), by (dsimp only; omega), g.R.R0, ?_⟩
    exact z_ne (t 0 0) 0 (fun z => by omega) (fun _ => ⟨_, rfl, rfl, hP⟩)
  · have fin : q_C q_mt (L, xs, q_shp) E nX12_keep (d + 6) 0 0 (.ref 271 :: [.int (Int32.ofInt w)]) M (fun v' M'' => v' = some (.int (Int32.ofInt (-2))) ∧ P M'') := by
      refine w_in 90 [26] ?_
      exact k_isIn w 0 1 hw (by omega) (by omega) (fun z1 z2 => absurd ⟨z1, z2⟩ q) (fun _ => bn_f (by decide) ⟨_, rfl, rfl, hP⟩)
    refine w_in 90 [] ?_
    refine z_lt w 0 (fun z => ⟨_, rfl, _, rfl, fin⟩) (fun _ => ?_)
    exact z_lt w 2 (fun _ => by omega) (fun z => ⟨_, rfl, _, rfl, fin⟩)
set_option maxRecDepth 100000 in
set_option maxHeartbeats 4000000 in
theorem o_keep_0 {kp : Nat → Option sN} (g : g_A 43 M t n) (hk : g_Kp M t kp) (h0 : ¬ t 0 0 = 0) (hP : ∀ M', q_fs [52, 52 + 1, 52 + 2, 52 + 3, 52 + 4, 52 + 5, 52 + 6, 52 + 7, 287, 288] [(2, 13)] M M' → g_Kp M' t (fun i => if i = 0 then some n else kp i) → P M') : zOp L xs E nX11_keep nX12_keep (d + 6) [.int (nI 0)] M P := by
  have h6 := g.R.r6
  refine w_in 90 [] ?_
  refine z_lt (0 : Nat) 0 (fun z => by omega) (fun _ => ?_)
  refine z_lt (0 : Nat) 2 (fun _ => ?_) (fun z => by omega)
  refine ⟨_, g.ro, ?_⟩
  refine z_ne (t 0 0) 0 (fun _ => ?_) (fun z => by omega)
  refine ⟨⟨by decide, by decide⟩, ?_⟩
  refine k2_copy_43_52 (fun M1 hf1 he1 => ?_)
  refine ⟨_, rfl, ?_⟩
  refine ⟨_, rfl, ?_⟩
  have hf2 : q_fs [52, 52 + 1, 52 + 2, 52 + 3, 52 + 4, 52 + 5, 52 + 6, 52 + 7, 287, 288] [(2, 13)] M (q_si M1 2 13 (M1.1 2 13 ||| ((1 : Int32) <<< (nI 0 &&& 31)))) := hf1.mono.s1
  have g2 := g.fs hf2 g_o.of
  have hS : g_S 52 (q_si M1 2 13 (M1.1 2 13 ||| ((1 : Int32) <<< (nI 0 &&& 31)))) t n := g.S.cp he1
  refine k2_countAllGiven g2 ⟨_, rfl, _, rfl, ?_⟩
  refine w_in 90 [26] ?_
  refine k_isIn (0 : Nat) 0 1 (by omega) (by omega) (by omega) (fun _ _ => bn_t (by decide) ?_) (fun z => absurd ⟨by omega, by omega⟩ z)
  refine ⟨0, _, by (first | assumption | (simp only [z_nat, z_lit, ← Int32.ofInt_add, ← Int32.ofInt_sub, ← Int32.ofInt_mul]; exact congrArg Int32.ofInt (by omega)) | (simp only [z_nat, z_lit, ← Int32.ofInt_add, ← Int32.ofInt_sub, ← Int32.ofInt_mul]; done) | exact congrArg Int32.ofInt (by omega) | rfl), by (dsimp only; omega), g2.R.R0, ?_⟩
  refine z_ne (t 0 0) 0 (fun _ => ?_) (fun z => by omega)
  refine k_keepLoop g2.R 0 (by omega) (fun M3 hf3 hm3 => ⟨rfl, ?_⟩)
  have hf4 : q_fs [52, 52 + 1, 52 + 2, 52 + 3, 52 + 4, 52 + 5, 52 + 6, 52 + 7, 287, 288] [(2, 13)] M (q_si M3 288 0 (Int32.ofInt 1)) := (hf2.tr hf3.mono).s1
  have bit : ∀ i, i < 2 → bt ((q_si M3 288 0 (Int32.ofInt 1)).1 2 13) i = (bt (M.1 2 13) i || decide (i = 0)) := fun i hi => by
    show bt (M3.1 2 13) i = _
    rw [hf3.c1 2]
    refine (b_set (by omega) (by omega)).trans ?_
    rw [hf1.c1 2]
  refine hP _ hf4 (fun i hi => ⟨fun hn => ?_, fun mm hm => ?_⟩)
  · by_cases q : i = 0
    · dsimp only at hn
      rw [if_pos q] at hn
      exact absurd hn (by simp)
    · dsimp only at hn
      rw [if_neg q] at hn
      have a := (hk i hi).1 hn
      rw [bit i hi, decide_eq_false q, Bool.or_false, q_si_n q, hf3.c1 288]
      refine ⟨a.1, ?_⟩
      show M1.1 288 i = _
      rw [hf1.c1 288]
      exact a.2
  · by_cases q : i = 0
    · dsimp only at hm
      rw [if_pos q] at hm
      cases hm
      subst q
      rw [bit _ hi, decide_eq_true rfl, Bool.or_true, q_si_s]
      refine ⟨rfl, rfl, ?_, fun j hj => ?_⟩
      · exact hS.eq (hf3.c1 52) (hf3.c1 (52 + 1)) (hf3.c1 (52 + 2)) (hf3.c1 (52 + 3)) (hf3.c1 (52 + 4)) (hf3.c1 (52 + 5)) (hf3.c1 (52 + 6)) (hf3.c1 (52 + 7))
      · show M3.1 287 _ = _
        rw [hm3 _ (by omega), if_pos (by omega)]
        exact congrArg (fun z => Int32.ofInt (n z)) (by omega)
    · dsimp only at hm
      rw [if_neg q] at hm
      have a := (hk i hi).2 mm hm
      rw [bit i hi, decide_eq_false q, Bool.or_false, q_si_n q]
      refine ⟨a.1, ?_, ?_, fun j hj => ?_⟩
      · rw [hf3.c1 288]
        show M1.1 288 i = _
        rw [hf1.c1 288]
        exact a.2.1
      · obtain rfl : i = 1 - 0 := by omega
        exact a.2.2.1.eq (hf4.c1 _) (hf4.c1 _) (hf4.c1 _) (hf4.c1 _) (hf4.c1 _) (hf4.c1 _) (hf4.c1 _) (hf4.c1 _)
      · show M3.1 287 _ = _
        rw [hm3 _ (by omega), if_neg (by omega)]
        show M1.1 287 _ = _
        rw [hf1.c1 287]
        exact a.2.2.2 j hj
set_option maxRecDepth 100000 in
set_option maxHeartbeats 4000000 in
theorem o_keep_1 {kp : Nat → Option sN} (g : g_A 43 M t n) (hk : g_Kp M t kp) (h0 : ¬ t 0 0 = 0) (hP : ∀ M', q_fs [60, 60 + 1, 60 + 2, 60 + 3, 60 + 4, 60 + 5, 60 + 6, 60 + 7, 287, 288] [(2, 13)] M M' → g_Kp M' t (fun i => if i = 1 then some n else kp i) → P M') : zOp L xs E nX11_keep nX12_keep (d + 6) [.int (nI 1)] M P := by
  have h6 := g.R.r6
  refine w_in 90 [] ?_
  refine z_lt (1 : Nat) 0 (fun z => by omega) (fun _ => ?_)
  refine z_lt (1 : Nat) 2 (fun _ => ?_) (fun z => by omega)
  refine ⟨_, g.ro, ?_⟩
  refine z_ne (t 0 0) 0 (fun _ => ?_) (fun z => by omega)
  refine ⟨⟨by decide, by decide⟩, ?_⟩
  refine k2_copy_43_60 (fun M1 hf1 he1 => ?_)
  refine ⟨_, rfl, ?_⟩
  refine ⟨_, rfl, ?_⟩
  have hf2 : q_fs [60, 60 + 1, 60 + 2, 60 + 3, 60 + 4, 60 + 5, 60 + 6, 60 + 7, 287, 288] [(2, 13)] M (q_si M1 2 13 (M1.1 2 13 ||| ((1 : Int32) <<< (nI 1 &&& 31)))) := hf1.mono.s1
  have g2 := g.fs hf2 g_o.of
  have hS : g_S 60 (q_si M1 2 13 (M1.1 2 13 ||| ((1 : Int32) <<< (nI 1 &&& 31)))) t n := g.S.cp he1
  refine k2_countAllGiven g2 ⟨_, rfl, _, rfl, ?_⟩
  refine w_in 90 [26] ?_
  refine k_isIn (1 : Nat) 0 1 (by omega) (by omega) (by omega) (fun _ _ => bn_t (by decide) ?_) (fun z => absurd ⟨by omega, by omega⟩ z)
  refine ⟨0, _, by (first | assumption | (simp only [z_nat, z_lit, ← Int32.ofInt_add, ← Int32.ofInt_sub, ← Int32.ofInt_mul]; exact congrArg Int32.ofInt (by omega)) | (simp only [z_nat, z_lit, ← Int32.ofInt_add, ← Int32.ofInt_sub, ← Int32.ofInt_mul]; done) | exact congrArg Int32.ofInt (by omega) | rfl), by (dsimp only; omega), g2.R.R0, ?_⟩
  refine z_ne (t 0 0) 0 (fun _ => ?_) (fun z => by omega)
  refine k_keepLoop g2.R 1 (by omega) (fun M3 hf3 hm3 => ⟨rfl, ?_⟩)
  have hf4 : q_fs [60, 60 + 1, 60 + 2, 60 + 3, 60 + 4, 60 + 5, 60 + 6, 60 + 7, 287, 288] [(2, 13)] M (q_si M3 288 1 (Int32.ofInt 1)) := (hf2.tr hf3.mono).s1
  have bit : ∀ i, i < 2 → bt ((q_si M3 288 1 (Int32.ofInt 1)).1 2 13) i = (bt (M.1 2 13) i || decide (i = 1)) := fun i hi => by
    show bt (M3.1 2 13) i = _
    rw [hf3.c1 2]
    refine (b_set (by omega) (by omega)).trans ?_
    rw [hf1.c1 2]
  refine hP _ hf4 (fun i hi => ⟨fun hn => ?_, fun mm hm => ?_⟩)
  · by_cases q : i = 1
    · dsimp only at hn
      rw [if_pos q] at hn
      exact absurd hn (by simp)
    · dsimp only at hn
      rw [if_neg q] at hn
      have a := (hk i hi).1 hn
      rw [bit i hi, decide_eq_false q, Bool.or_false, q_si_n q, hf3.c1 288]
      refine ⟨a.1, ?_⟩
      show M1.1 288 i = _
      rw [hf1.c1 288]
      exact a.2
  · by_cases q : i = 1
    · dsimp only at hm
      rw [if_pos q] at hm
      cases hm
      subst q
      rw [bit _ hi, decide_eq_true rfl, Bool.or_true, q_si_s]
      refine ⟨rfl, rfl, ?_, fun j hj => ?_⟩
      · exact hS.eq (hf3.c1 60) (hf3.c1 (60 + 1)) (hf3.c1 (60 + 2)) (hf3.c1 (60 + 3)) (hf3.c1 (60 + 4)) (hf3.c1 (60 + 5)) (hf3.c1 (60 + 6)) (hf3.c1 (60 + 7))
      · show M3.1 287 _ = _
        rw [hm3 _ (by omega), if_pos (by omega)]
        exact congrArg (fun z => Int32.ofInt (n z)) (by omega)
    · dsimp only at hm
      rw [if_neg q] at hm
      have a := (hk i hi).2 mm hm
      rw [bit i hi, decide_eq_false q, Bool.or_false, q_si_n q]
      refine ⟨a.1, ?_, ?_, fun j hj => ?_⟩
      · rw [hf3.c1 288]
        show M1.1 288 i = _
        rw [hf1.c1 288]
        exact a.2.1
      · obtain rfl : i = 1 - 1 := by omega
        exact a.2.2.1.eq (hf4.c1 _) (hf4.c1 _) (hf4.c1 _) (hf4.c1 _) (hf4.c1 _) (hf4.c1 _) (hf4.c1 _) (hf4.c1 _)
      · show M3.1 287 _ = _
        rw [hm3 _ (by omega), if_neg (by omega)]
        show M1.1 287 _ = _
        rw [hf1.c1 287]
        exact a.2.2.2 j hj
end KP
