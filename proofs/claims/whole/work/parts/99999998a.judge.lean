/-! the STATEMENT judge -/
section SJ
variable {L : Nat} {xs : Nat → Int32} {E : q_E} {d : Nat} {M : q_M} {t : q_T} {n : sN} {Q : Option Value → q_M → Prop} {P : q_M → Prop}
variable {x : Nat → Nat} {len : Nat} {tok : Nat → Tok} {T : Nat}
-- one more of a sort
set_option maxRecDepth 100000 in
set_option maxHeartbeats 4000000 in
theorem k_oneMore {i q n mx : Nat} {a b : Int32} (g : g_rt M x len tok T i) (hn : ¬ (tok i).1 = 0) (hq : q < 1685) (hv : M.1 279 q = nI n) (hb : n ≤ 20 ∧ mx ≤ 20) (h1 : ¬ n = mx → g_rt (q_si M 271 8 (nI (i + 1))) x len tok T (i + 1) → Q (some (.int (nI n))) (q_si M 271 8 (nI (i + 1)))) (h0 : n = mx → ∀ M', q_fs [] fHr M M' → g_rb M' x len tok T 4 i → Q (some (.int (Int32.ofInt (-1)))) M') (ha : a = nI q := by (first | assumption | (simp only [z_nat, z_lit, ← Int32.ofInt_add, ← Int32.ofInt_sub, ← Int32.ofInt_mul]; exact congrArg Int32.ofInt (by omega)) | (simp only [z_nat, z_lit, ← Int32.ofInt_add, ← Int32.ofInt_sub, ← Int32.ofInt_mul]; done) | exact congrArg Int32.ofInt (by omega) | rfl)) (hc : b = nI mx := by (first | assumption | (simp only [z_nat, z_lit, ← Int32.ofInt_add, ← Int32.ofInt_sub, ← Int32.ofInt_mul]; exact congrArg Int32.ofInt (by omega)) | (simp only [z_nat, z_lit, ← Int32.ofInt_add, ← Int32.ofInt_sub, ← Int32.ofInt_mul]; done) | exact congrArg Int32.ofInt (by omega) | rfl)) : q_C q_mt (L, xs, q_shp) E nX12_oneMore (d + 2) 0 0 [.ref 271, .int (a), .int (b)] M Q := by
  subst ha hc
  have i12 := g.i12
  refine w_in 90 [] ?_
  refine ⟨q, _, by (first | assumption | (simp only [z_nat, z_lit, ← Int32.ofInt_add, ← Int32.ofInt_sub, ← Int32.ofInt_mul]; exact congrArg Int32.ofInt (by omega)) | (simp only [z_nat, z_lit, ← Int32.ofInt_add, ← Int32.ofInt_sub, ← Int32.ofInt_mul]; done) | exact congrArg Int32.ofInt (by omega) | rfl), by (dsimp only; omega), hv, ?_⟩
  refine z_ne (n : Int) mx (fun z => ?_) (fun z => ?_)
  · refine ⟨_, g.2.2.1, ?_⟩
    refine ⟨nI (i + 1), by (first | assumption | (simp only [z_nat, z_lit, ← Int32.ofInt_add, ← Int32.ofInt_sub, ← Int32.ofInt_mul]; exact congrArg Int32.ofInt (by omega)) | (simp only [z_nat, z_lit, ← Int32.ofInt_add, ← Int32.ofInt_sub, ← Int32.ofInt_mul]; done) | exact congrArg Int32.ofInt (by omega) | rfl), ?_⟩
    refine ⟨q, _, by (first | assumption | (simp only [z_nat, z_lit, ← Int32.ofInt_add, ← Int32.ofInt_sub, ← Int32.ofInt_mul]; exact congrArg Int32.ofInt (by omega)) | (simp only [z_nat, z_lit, ← Int32.ofInt_add, ← Int32.ofInt_sub, ← Int32.ofInt_mul]; done) | exact congrArg Int32.ofInt (by omega) | rfl), by (dsimp only; omega), hv, ?_⟩
    exact ⟨_, rfl, h1 (by omega) (g.nx hn rfl)⟩
  · exact k_wrongs g 4 (by omega) (fun M2 hf2 g2 => ⟨_, rfl, h0 (by omega) M2 hf2 g2⟩)
set_option maxRecDepth 100000 in
set_option maxHeartbeats 4000000 in
theorem k2_readJudge {i : Nat} (g : g_ct M x len tok T (i + 1)) (h : dC M t) (j11 : t 2 0 < 11) (h1 : ∀ t' j M', judgeP tok t i = .inr (t', j) → q_fs lDr fTk M M' → g_ct M' x len tok T j → dC M' t' → Q (some (.int 1)) M') (h0 : ∀ k j M', judgeP tok t i = .inl (k, j) → q_fs lDr fTk M M' → g_cf M' x len k j → Q (some (.int 0)) M') : q_C q_mt (L, xs, q_shp) E nX3_readJudge (d + 3) 0 0 [.ref 42] M Q := by
  refine w_in 90 [85] ?_
  refine k2_takeWord g 3 (by omega) (fun e M1 hf1 g1 => br_f (by decide) ?_) (fun e M1 hf1 g1 => br_t (by decide) ⟨z_0, h0 1 _ M1 (bd_no (wrd_no e)) hf1.mono g1⟩)
  have ep : judgeP tok t i = bd (numP tok (i + 1 + 1) 0 7) (fun a j => .inr (judT t a (srt (tok j)), j + (if srt (tok j) = 0 then 0 else 1))) := bd_ok (wrd_ok e)
  refine k2_takeNumber g1.2 0 7 (by omega) (by omega) (fun v nv ev hv M2 hf2 g2 => bn_t (by decide) ?_) (fun k nk hk M2 hf2 g2 => bn_f rfl ⟨z_0, h0 k _ M2 (ep.trans (bd_no nk)) (hf1.mono.tr hf2.mono) g2⟩)
  have ep : judgeP tok t i = .inr (judT t v (srt (tok (i + 1 + 1 + 1))), i + 1 + 1 + 1 + (if srt (tok (i + 1 + 1 + 1)) = 0 then 0 else 1)) := ep.trans (bd_ok nv)
  have f2 : q_fs [] fTk M M2 := hf1.tr hf2
  -- the end
  have fin : ∀ s M3, srt (tok (i + 1 + 1 + 1)) = s → q_fs [] fTk M2 M3 → M3.1 3 6 = nI v → g_ct M3 x len tok T (i + 1 + 1 + 1 + (if s = 0 then 0 else 1)) → ∀ u, u = nI s → q_G q_mt (L, xs, q_shp) E nX3_readJudge (d + 3) 0 0 (q_Q (L, xs, q_shp) E Q) 85 [some (.ref 42), some (.int (u))] [] M3 := by
    rintro s M3 es hf3 e36 g3 u rfl
    have c2 : M3.1 24 2 = nI (t 2 0) := (hf3.p1 24 2).trans ((f2.p1 24 2).trans h.1.2.2.1)
    have f3 : q_fs [] fTk M M3 := f2.tr hf3
    refine w_at 90 [85] ?_
    refine ⟨_, c2, ?_⟩
    refine ⟨_, e36, ?_⟩
    refine ⟨t 2 0, _, by (first | assumption | (simp only [z_nat, z_lit, ← Int32.ofInt_add, ← Int32.ofInt_sub, ← Int32.ofInt_mul]; exact congrArg Int32.ofInt (by omega)) | (simp only [z_nat, z_lit, ← Int32.ofInt_add, ← Int32.ofInt_sub, ← Int32.ofInt_mul]; done) | exact congrArg Int32.ofInt (by omega) | rfl), by (dsimp only; omega), rfl, ?_⟩
    refine ⟨_, c2, ?_⟩
    refine ⟨t 2 0, _, by (first | assumption | (simp only [z_nat, z_lit, ← Int32.ofInt_add, ← Int32.ofInt_sub, ← Int32.ofInt_mul]; exact congrArg Int32.ofInt (by omega)) | (simp only [z_nat, z_lit, ← Int32.ofInt_add, ← Int32.ofInt_sub, ← Int32.ofInt_mul]; done) | exact congrArg Int32.ofInt (by omega) | rfl), by (dsimp only; omega), rfl, ?_⟩
    refine ⟨_, c2, ?_⟩
    refine ⟨nI (t 2 0 + 1), by (first | assumption | (simp only [z_nat, z_lit, ← Int32.ofInt_add, ← Int32.ofInt_sub, ← Int32.ofInt_mul]; exact congrArg Int32.ofInt (by omega)) | (simp only [z_nat, z_lit, ← Int32.ofInt_add, ← Int32.ofInt_sub, ← Int32.ofInt_mul]; done) | exact congrArg Int32.ofInt (by omega) | rfl), ?_⟩
    have hf4 : q_fs [25, 26] [(24, 2)] M3 (q_si (q_si (q_si M3 25 (t 2 0) (nI v)) 26 (t 2 0) (nI s)) 24 2 (nI (t 2 0 + 1))) := q_fs.rf.s1.s1.s1
    rw [es] at ep
    refine ⟨z_1, h1 _ _ _ ep (f3.mono.tr hf4.mono) (g3.fs hf4) (h.judge ?_ ?_ ⟨?_, ?_⟩ (fun j hj => ⟨⟨?_, ?_⟩, ?_, ?_⟩) (fun k hk => ?_) (f3.mono.tr hf4.mono))⟩
    · unfold judT
      rw [upT_s]
    · unfold judT
      rw [upT_s]
      exact q_si_s
    · unfold judT
      rw [upT_n (by omega), upT_n (by omega), upT_s]
      exact (q_si_nn (by omega)).trans ((q_si_nn (by omega)).trans q_si_s)
    · unfold judT
      rw [upT_n (by omega), upT_s]
      exact (q_si_nn (by omega)).trans q_si_s
    · exact (q_si_nn (by omega)).trans ((q_si_nn (by omega)).trans ((q_si_n (by omega)).trans (f3.p1 25 j)))
    · exact (q_si_nn (by omega)).trans ((q_si_n (by omega)).trans ((q_si_nn (by omega)).trans (f3.p1 26 j)))
    · unfold judT
      rw [upT_n (by omega), upT_n (by omega), upT_n (by omega)]
    · unfold judT
      rw [upT_n (by omega), upT_n (by omega), upT_n (by omega)]
    · unfold judT
      rw [upT_r (by omega), upT_r (by omega), upT_r (by omega)]
  have go : ∀ s : Nat, 1 ≤ s → s ≤ 3 → srt (tok (i + 1 + 1 + 1)) = s → ¬ (tok (i + 1 + 1 + 1)).1 = 0 → ∀ (Q2 : Option Value → q_M → Prop), (∀ M', q_G q_mt (L, xs, q_shp) E nX3_readJudge (d + 3) 0 0 (q_Q (L, xs, q_shp) E Q) 85 [some (.ref 42), some (.int (nI s))] [] M' → Q2 none M') → q_C q_mt (L, xs, q_shp) E nX9_advance (d + 2) 0 0 [.ref 3] M2 Q2 := by
    intro s s1 s3 es nf Q2 hQ2
    refine k2_adv g2.2 nf (fun M3 hf3 g3 => hQ2 M3 (fin s M3 es hf3 (g3.1.trans g2.1) ?_ _ rfl))
    rw [if_neg (by omega)]
    exact g3.2
  refine k2_isWord g2.2 4 (by omega) (fun e1 => br_f (by decide) ?_) (fun e1 => br_t (by decide) ?_)
  · refine ⟨fun z => absurd z (by decide), fun _ => ?_⟩
    exact go 1 (by omega) (by omega) (by unfold srt; rw [if_pos e1]) (by rw [e1]; decide) _ (fun _ h => h)
  refine k2_isWord g2.2 5 (by omega) (fun e2 => br_f (by decide) ?_) (fun e2 => br_t (by decide) ?_)
  · refine ⟨fun z => absurd z (by decide), fun _ => ?_⟩
    exact go 2 (by omega) (by omega) (by unfold srt; rw [if_neg e1, if_pos e2]) (by rw [e2]; decide) _ (fun _ h => h)
  refine k2_isWord g2.2 6 (by omega) (fun e3 => br_f (by decide) ?_) (fun e3 => br_t (by decide) ?_)
  · refine ⟨fun z => absurd z (by decide), fun _ => ?_⟩
    exact go 3 (by omega) (by omega) (by unfold srt; rw [if_neg e1, if_neg e2, if_pos e3]) (by rw [e3]; decide) _ (fun _ h => h)
  refine ⟨fun _ => ?_, fun z => absurd (by decide) z⟩
  refine fin 0 M2 (by unfold srt; rw [if_neg e1, if_neg e2, if_neg e3]) q_fs.rf g2.1 ?_ _ rfl
  rw [if_pos rfl]
  exact g2.2
set_option maxRecDepth 100000 in
set_option maxHeartbeats 4000000 in
theorem k_readsJudge {i : Nat} (g : g_rt M x len tok T i) (nf : ¬ (tok i).1 = 0) (h : dR M t) (bt : b_T t) (c255 : ∀ l, l < t 17 0 → t 18 l ≤ 255) (h1 : t 2 0 < 11 → ∀ t' j M', judgeP tok t i = .inr (t', j) → q_fs lDq fDq M M' → g_rt M' x len tok T j → dR M' t' → M'.1 279 7 = M.1 279 7 → Q none M') (h0 : ∀ k j M', (t 2 0 < 11 → judgeP tok t i = .inl (k, j)) → (t 2 0 = 11 → k = 4 ∧ j = i) → q_fs lDq fDq M M' → g_rb M' x len tok T k j → M'.1 279 7 = M.1 279 7 → Q none M') : q_C q_mt (L, xs, q_shp) E nX12_readsJudge (d + 4) 0 0 [.ref 271] M Q := by
  have i12 := g.i12
  have b2 := bt.2.2.1
  -- behind a fault
  have bad67 : ∀ k j M', (t 2 0 < 11 → judgeP tok t i = .inl (k, j)) → (t 2 0 = 11 → k = 4 ∧ j = i) → q_fs lDq fDq M M' → M'.1 279 7 = M.1 279 7 → g_rb M' x len tok T k j → ∀ l1 l2 l3, q_G q_mt (L, xs, q_shp) E nX12_readsJudge (d + 4) 0 0 (q_Q (L, xs, q_shp) E Q) 67 [some (.ref 271), l1, l2, l3] [] M' := by
    intro k j M' e1 e2 hf e7 g' l1 l2 l3
    refine w_at 90 [67] ?_
    exact k_isFine0 g'.2.2.2.1 g'.2.1 (bn_f rfl (h0 k j M' e1 e2 hf g' e7))
  have badN : ∀ k j M1, (t 2 0 < 11 → judgeP tok t i = .inl (k, j)) → (t 2 0 = 11 → k = 4 ∧ j = i) → q_fs lDq fDq M M1 → M1.1 279 7 = M.1 279 7 → g_rb M1 x len tok T k j → ∀ (v : Int64) (Q2 : Option Value → q_M → Prop), (∀ M', q_fs lDq fDq M M' → M'.1 279 7 = M.1 279 7 → g_rb M' x len tok T k j → Q2 (some (.int 0)) M') → q_C q_mt (L, xs, q_shp) E nX12_takesWord (d + 3) 0 0 [.ref 271, .long (v)] M1 Q2 := fun k j M1 _ _ hf e7 g1 v Q2 hQ2 => k_takesWord0 g1 (fun M2 hf2 g2 => hQ2 M2 (hf.tr hf2.mono) ((hf2.p1 279 7).trans e7) g2)
  have bad3 : ∀ k j M1, (t 2 0 < 11 → judgeP tok t i = .inl (k, j)) → (t 2 0 = 11 → k = 4 ∧ j = i) → q_fs lDq fDq M M1 → M1.1 279 7 = M.1 279 7 → g_rb M1 x len tok T k j → ∀ l1 l2 l3, q_G q_mt (L, xs, q_shp) E nX12_readsJudge (d + 4) 0 0 (q_Q (L, xs, q_shp) E Q) 23 [some (.ref 271), l1, some (.int (l2)), l3] [] M1 := by
    intro k j M1 e1 e2 hf e7 g1 l1 l2 l3
    refine w_at 90 [23, 67] ?_
    refine badN k j M1 e1 e2 hf e7 g1 _ _ (fun M2 hf2 e72 g2 => br_t (by decide) ?_)
    refine badN k j M2 e1 e2 hf2 e72 g2 _ _ (fun M3 hf3 e73 g3 => br_t (by decide) ?_)
    refine badN k j M3 e1 e2 hf3 e73 g3 _ _ (fun M4 hf4 e74 g4 => br_t (by decide) ?_)
    exact bad67 k j M4 e1 e2 hf4 e74 g4 _ _ _
  refine w_in 90 [23, 67] ?_
  refine k_oneMore (q := 2) (n := t 2 0) (mx := 11) g nf (by omega) h.1.2.2.1 (by omega) (fun z g1 => ?_) (fun z M1 hf1 g1 => ?_)
  · have j11 : t 2 0 < 11 := by omega
    have n11 : ∀ {A : Prop}, t 2 0 = 11 → A := fun y => absurd y z
    have hf1 : q_fs [] [(271, 8)] M (q_si M 271 8 (nI (i + 1))) := q_fs.rf.s1
    refine k_mustWord g1 3 (by omega) (by decide +kernel) (fun e M2 hf2 g2 => ?_) (fun e M2 hf2 g2 => ?_)
    · have ep : judgeP tok t i = bd (numP tok (i + 1 + 1) 0 7) (fun a j => .inr (judT t a (srt (tok j)), j + (if srt (tok j) = 0 then 0 else 1))) := bd_ok (wrd_ok e)
      refine k_numberHere g2 0 7 (by omega) (by omega) (fun v nv ev hv M3 hf3 g3 => ?_) (fun k nk hk M3 hf3 g3 => ?_)
      · have ep : judgeP tok t i = .inr (judT t v (srt (tok (i + 1 + 1 + 1))), i + 1 + 1 + 1 + (if srt (tok (i + 1 + 1 + 1)) = 0 then 0 else 1)) := ep.trans (bd_ok nv)
        have f3 : q_fs [] fHr M M3 := (hf1.mono.tr hf2).tr hf3
        have fin : ∀ s M4, srt (tok (i + 1 + 1 + 1)) = s → q_fs [] fHr M M4 → g_rt M4 x len tok T (i + 1 + 1 + 1 + (if s = 0 then 0 else 1)) → ∀ u, u = nI s → q_G q_mt (L, xs, q_shp) E nX12_readsJudge (d + 4) 0 0 (q_Q (L, xs, q_shp) E Q) 67 [some (.ref 271), some (.int (nI (t 2 0))), some (.int (nI v)), some (.int (u))] [] M4 := by
          rintro s M4 es hf4 g4 u rfl
          have c2 : M4.1 279 2 = nI (t 2 0) := (hf4.p1 279 2).trans h.1.2.2.1
          refine w_at 90 [67] ?_
          refine k_isFine1 g4.2.2.2.1 (bn_t (by decide) ?_)
          refine ⟨8 + 2 * t 2 0, _, by (first | assumption | (simp only [z_nat, z_lit, ← Int32.ofInt_add, ← Int32.ofInt_sub, ← Int32.ofInt_mul]; exact congrArg Int32.ofInt (by omega)) | (simp only [z_nat, z_lit, ← Int32.ofInt_add, ← Int32.ofInt_sub, ← Int32.ofInt_mul]; done) | exact congrArg Int32.ofInt (by omega) | rfl), by (dsimp only; omega), rfl, ?_⟩
          refine ⟨9 + 2 * t 2 0, _, by (first | assumption | (simp only [z_nat, z_lit, ← Int32.ofInt_add, ← Int32.ofInt_sub, ← Int32.ofInt_mul]; exact congrArg Int32.ofInt (by omega)) | (simp only [z_nat, z_lit, ← Int32.ofInt_add, ← Int32.ofInt_sub, ← Int32.ofInt_mul]; done) | exact congrArg Int32.ofInt (by omega) | rfl), by (dsimp only; omega), rfl, ?_⟩
          have e2 : (q_si (q_si M4 279 (8 + 2 * t 2 0) (nI v)) 279 (9 + 2 * t 2 0) (nI s)).1 279 2 = nI (t 2 0) := (q_si_n (by omega)).trans ((q_si_n (by omega)).trans c2)
          refine ⟨2, _, by (first | assumption | (simp only [z_nat, z_lit, ← Int32.ofInt_add, ← Int32.ofInt_sub, ← Int32.ofInt_mul]; exact congrArg Int32.ofInt (by omega)) | (simp only [z_nat, z_lit, ← Int32.ofInt_add, ← Int32.ofInt_sub, ← Int32.ofInt_mul]; done) | exact congrArg Int32.ofInt (by omega) | rfl), by (dsimp only; omega), e2, ?_⟩
          refine ⟨2, nI (t 2 0 + 1), by (first | assumption | (simp only [z_nat, z_lit, ← Int32.ofInt_add, ← Int32.ofInt_sub, ← Int32.ofInt_mul]; exact congrArg Int32.ofInt (by omega)) | (simp only [z_nat, z_lit, ← Int32.ofInt_add, ← Int32.ofInt_sub, ← Int32.ofInt_mul]; done) | exact congrArg Int32.ofInt (by omega) | rfl), by (dsimp only; omega), by (first | assumption | (simp only [z_nat, z_lit, ← Int32.ofInt_add, ← Int32.ofInt_sub, ← Int32.ofInt_mul]; exact congrArg Int32.ofInt (by omega)) | (simp only [z_nat, z_lit, ← Int32.ofInt_add, ← Int32.ofInt_sub, ← Int32.ofInt_mul]; done) | exact congrArg Int32.ofInt (by omega) | rfl), ?_⟩
          have hf5 : q_fs [279] [] M4 (q_si (q_si (q_si M4 279 (8 + 2 * t 2 0) (nI v)) 279 (9 + 2 * t 2 0) (nI s)) 279 2 (nI (t 2 0 + 1))) := q_fs.rf.s1.s1.s1
          rw [es] at ep
          refine h1 j11 _ _ _ ep (hf4.mono.tr hf5.mono) (g4.fs hf5) (h.judge bt c255 ?_ ?_ ⟨?_, ?_⟩ (fun j hj => ⟨?_, ?_⟩) j11 (fun k hk => ?_) (fun q hq => ?_) (fun q _ => ?_)) ?_
          · unfold judT
            rw [upT_s]
          · unfold judT
            rw [upT_s]
            exact q_si_s
          · unfold judT
            rw [upT_n (by omega), upT_n (by omega), upT_s]
            exact (q_si_n (by omega)).trans ((q_si_n (by omega)).trans q_si_s)
          · unfold judT
            rw [upT_n (by omega), upT_s]
            exact (q_si_n (by omega)).trans q_si_s
          · unfold judT
            rw [upT_n (by omega), upT_n (by omega), upT_n (by omega)]
          · unfold judT
            rw [upT_n (by omega), upT_n (by omega), upT_n (by omega)]
          · unfold judT
            rw [upT_r (by omega), upT_r (by omega), upT_r (by omega)]
          · exact (q_si_n (by omega)).trans ((q_si_n (by omega)).trans ((q_si_n (by omega)).trans (hf4.p1 279 q)))
          · exact (hf5.p2 281 q).trans (hf4.p2 281 q)
          · exact (q_si_n (by omega)).trans ((q_si_n (by omega)).trans ((q_si_n (by omega)).trans (hf4.p1 279 7)))
        refine w_at 90 [23, 67] ?_
        refine k_takesWord g3 4 (by omega) (by decide +kernel) (fun e1 M4 hf4 g4 => br_f (by decide) ?_) (fun e1 M4 hf4 g4 => br_t (by decide) ?_)
        · exact fin 1 M4 (by unfold srt; rw [if_pos e1]) (f3.tr hf4) g4 _ rfl
        refine k_takesWord g4 5 (by omega) (by decide +kernel) (fun e2 M5 hf5 g5 => br_f (by decide) ?_) (fun e2 M5 hf5 g5 => br_t (by decide) ?_)
        · exact fin 2 M5 (by unfold srt; rw [if_neg e1, if_pos e2]) ((f3.tr hf4).tr hf5) g5 _ rfl
        refine k_takesWord g5 6 (by omega) (by decide +kernel) (fun e3 M6 hf6 g6 => br_f (by decide) ?_) (fun e3 M6 hf6 g6 => br_t (by decide) ?_)
        · exact fin 3 M6 (by unfold srt; rw [if_neg e1, if_neg e2, if_pos e3]) (((f3.tr hf4).tr hf5).tr hf6) g6 _ rfl
        · exact fin 0 M6 (by unfold srt; rw [if_neg e1, if_neg e2, if_neg e3]) (((f3.tr hf4).tr hf5).tr hf6) g6 _ rfl
      · exact bad3 k _ M3 (fun _ => ep.trans (bd_no nk)) n11 ((hf1.mono.tr hf2.mono).tr hf3.mono) ((hf3.p1 279 7).trans ((hf2.p1 279 7).trans (hf1.p1 279 7))) g3 _ _ _
    · refine k_numberHere0 g2 ?_
      exact bad3 1 _ M2 (fun _ => bd_no (wrd_no e)) n11 (hf1.mono.tr hf2.mono) ((hf2.p1 279 7).trans (hf1.p1 279 7)) g2 _ _ _
  · refine k_mustWord0 g1 (fun M2 hf2 g2 => ?_)
    refine k_numberHere0 g2 ?_
    exact bad3 4 i M2 (fun y => by omega) (fun _ => ⟨rfl, rfl⟩) (hf1.mono.tr hf2.mono) ((hf2.p1 279 7).trans (hf1.p1 279 7)) g2 _ _ _
end SJ
