/-! the STATEMENT cut -/
section SK
variable {L : Nat} {xs : Nat → Int32} {E : q_E} {d : Nat} {M : q_M} {t : q_T} {n : sN} {Q : Option Value → q_M → Prop} {P : q_M → Prop}
variable {x : Nat → Nat} {len : Nat} {tok : Nat → Tok} {T : Nat}
def bCt (t : q_T) : Prop := (∀ c, c < t 13 0 → 1 ≤ t 14 c ∧ t 14 c < t 0 0 ∧ 1 ≤ t 15 c ∧ t 15 c ≤ 5 ∧ t 16 c ≤ 1) ∧ ∀ c c', c < c' → c' < t 13 0 → t 14 c < t 14 c'
theorem lstC_b (h : bCt t) (h6 : t 0 0 ≤ 6) : 1 ≤ lstC t ∧ lstC t ≤ 7 := by
  unfold lstC
  split
  · omega
  · have := h.1 (t 13 0 - 1) (by omega)
    omega
set_option maxRecDepth 100000 in
set_option maxHeartbeats 4000000 in
theorem k2_readCut {i : Nat} (g : g_ct M x len tok T (i + 1)) (h : dC M t) (bc : bCt t) (h6 : t 0 0 ≤ 6) (c3 : t 13 0 < 3) (h1 : ∀ t' j M', cutP tok t i = .inr (t', j) → q_fs lDr fTk M M' → g_ct M' x len tok T j → dC M' t' → Q (some (.int 1)) M') (h0 : ∀ k j M', cutP tok t i = .inl (k, j) → q_fs lDr fTk M M' → g_cf M' x len k j → Q (some (.int 0)) M') : q_C q_mt (L, xs, q_shp) E nX3_readCut (d + 3) 0 0 [.ref 42] M Q := by
  have e16 : M.1 24 16 = nI (t 13 0) := h.1.2.2.2.2.2.1
  have e0 : M.1 24 0 = nI (t 0 0) := h.1.1
  have lb := lstC_b bc h6
  have main : q_G q_mt (L, xs, q_shp) E nX3_readCut (d + 3) 0 0 (q_Q (L, xs, q_shp) E Q) 34 [some (.ref 42), some (.int (Int32.ofInt (lstC t)))] [] M := by
    refine w_at 90 [34, 184] ?_
    refine ⟨_, e0, ?_⟩
    refine k2_takeNumber g (lstC t) ((t 0 0 : Int) - 1) (by omega) (by omega) (fun v nv ev hv M1 hf1 g1 => bn_t (by decide) ?_) (fun k nk hk M1 hf1 g1 => bn_f rfl ⟨z_0, h0 k _ M1 (bd_no nk) hf1.mono g1⟩)
    have ep : cutP tok t i = bd (wrdP tok (i + 1 + 1) 16) (fun _ j => bd (numP tok j 1 5) (fun b j => .inr (cutT t v b (if tok j = (1, 17) then 1 else 0), j + (if tok j = (1, 17) then 1 else 0)))) := bd_ok nv
    have c1 : M1.1 24 16 = nI (t 13 0) := (hf1.p1 24 16).trans e16
    refine ⟨_, c1, ?_⟩
    refine ⟨_, g1.1, ?_⟩
    refine ⟨t 13 0, _, by (first | assumption | (simp only [z_nat, z_lit, ← Int32.ofInt_add, ← Int32.ofInt_sub, ← Int32.ofInt_mul]; exact congrArg Int32.ofInt (by omega)) | (simp only [z_nat, z_lit, ← Int32.ofInt_add, ← Int32.ofInt_sub, ← Int32.ofInt_mul]; done) | exact congrArg Int32.ofInt (by omega) | rfl), by (dsimp only; omega), rfl, ?_⟩
    have hf2 : q_fs [39] [] M1 (q_si M1 39 (t 13 0) (nI v)) := q_fs.rf.s1
    have f2 : q_fs [39] fTk M (q_si M1 39 (t 13 0) (nI v)) := hf1.mono.tr hf2.mono
    refine k2_takeWord (g1.2.fs hf2) 16 (by omega) (fun e M3 hf3 g3 => br_f (by decide) ?_) (fun e M3 hf3 g3 => br_t (by decide) ⟨z_0, h0 1 _ M3 (by rw [ep]; exact bd_no (wrd_no e)) (f2.mono.tr hf3.mono) g3⟩)
    have ep : cutP tok t i = bd (numP tok (i + 1 + 1 + 1) 1 5) (fun b j => .inr (cutT t v b (if tok j = (1, 17) then 1 else 0), j + (if tok j = (1, 17) then 1 else 0))) := ep.trans (bd_ok (wrd_ok e))
    refine k2_takeNumber g3.2 1 5 (by omega) (by omega) (fun b nb eb hb M4 hf4 g4 => bn_t (by decide) ?_) (fun k nk hk M4 hf4 g4 => bn_f rfl ⟨z_0, h0 k _ M4 (by rw [ep]; exact bd_no nk) ((f2.mono.tr hf3.mono).tr hf4.mono) g4⟩)
    have ep : cutP tok t i = .inr (cutT t v b (if tok (i + 1 + 1 + 1 + 1) = (1, 17) then 1 else 0), i + 1 + 1 + 1 + 1 + (if tok (i + 1 + 1 + 1 + 1) = (1, 17) then 1 else 0)) := ep.trans (bd_ok nb)
    have f4 : q_fs [39] fTk M M4 := (f2.tr hf3.mono).tr hf4.mono
    have c4 : M4.1 24 16 = nI (t 13 0) := (f4.p1 24 16).trans e16
    have r39 : M4.1 39 (t 13 0) = nI v := (hf4.p1 39 _).trans ((hf3.p1 39 _).trans q_si_s)
    have o39 : ∀ j, ¬ j = t 13 0 → M4.1 39 j = M.1 39 j := fun j hj => (hf4.p1 39 _).trans ((hf3.p1 39 _).trans ((q_si_n hj).trans (hf1.p1 39 j)))
    -- the end
    have fin : ∀ n M6, (if tok (i + 1 + 1 + 1 + 1) = (1, 17) then 1 else 0) = n → q_fs [40, 41] fTk M4 M6 → M6.1 40 (t 13 0) = nI b → M6.1 41 (t 13 0) = nI n → (∀ j, ¬ j = t 13 0 → M6.1 40 j = M4.1 40 j ∧ M6.1 41 j = M4.1 41 j) → g_ct M6 x len tok T (i + 1 + 1 + 1 + 1 + n) → ∀ l1, q_G q_mt (L, xs, q_shp) E nX3_readCut (d + 3) 0 0 (q_Q (L, xs, q_shp) E Q) 184 [some (.ref 42), l1] [] M6 := by
      intro n M6 en hf6 r40 r41 o4 g6 l1
      have c6 : M6.1 24 16 = nI (t 13 0) := (hf6.p1 24 16).trans c4
      rw [en] at ep
      refine w_at 90 [184] ?_
      refine ⟨_, c6, ?_⟩
      refine ⟨nI (t 13 0 + 1), by (first | assumption | (simp only [z_nat, z_lit, ← Int32.ofInt_add, ← Int32.ofInt_sub, ← Int32.ofInt_mul]; exact congrArg Int32.ofInt (by omega)) | (simp only [z_nat, z_lit, ← Int32.ofInt_add, ← Int32.ofInt_sub, ← Int32.ofInt_mul]; done) | exact congrArg Int32.ofInt (by omega) | rfl), ?_⟩
      have hf7 : q_fs [] [(24, 16)] M6 (q_si M6 24 16 (nI (t 13 0 + 1))) := q_fs.rf.s1
      have ff : q_fs [39, 40, 41] [(24, 16), (3, 3), (3, 4), (3, 5), (3, 6), (3, 7), (3, 8), (3, 9), (3, 10)] M (q_si M6 24 16 (nI (t 13 0 + 1))) := (f4.mono.tr hf6.mono).tr hf7.mono
      refine ⟨z_1, h1 _ _ _ ep ((f4.mono.tr hf6.mono).tr hf7.mono) (g6.fs hf7) (h.cut ?_ ?_ ⟨?_, ?_, ?_⟩ (fun j hj => ⟨⟨?_, ?_, ?_⟩, ?_, ?_, ?_⟩) (fun k hk => ?_) ff)⟩
      · unfold cutT
        rw [upT_s]
      · unfold cutT
        rw [upT_s]
        exact q_si_s
      · unfold cutT
        rw [upT_n (by omega), upT_n (by omega), upT_n (by omega), upT_s]
        exact (hf7.p1 39 _).trans ((hf6.p1 39 _).trans r39)
      · unfold cutT
        rw [upT_n (by omega), upT_n (by omega), upT_s]
        exact (hf7.p1 40 _).trans r40
      · unfold cutT
        rw [upT_n (by omega), upT_s]
        exact (hf7.p1 41 _).trans r41
      · exact (hf7.p1 39 _).trans ((hf6.p1 39 _).trans (o39 j (by omega)))
      · exact (hf7.p1 40 _).trans ((o4 j (by omega)).1.trans (f4.p1 40 j))
      · exact (hf7.p1 41 _).trans ((o4 j (by omega)).2.trans (f4.p1 41 j))
      · unfold cutT
        rw [upT_n (by omega), upT_n (by omega), upT_n (by omega), upT_n (by omega)]
      · unfold cutT
        rw [upT_n (by omega), upT_n (by omega), upT_n (by omega), upT_n (by omega)]
      · unfold cutT
        rw [upT_n (by omega), upT_n (by omega), upT_n (by omega), upT_n (by omega)]
      · unfold cutT
        rw [upT_r (by omega), upT_r (by omega), upT_r (by omega), upT_r (by omega)]
    refine ⟨_, c4, ?_⟩
    refine ⟨_, g4.1, ?_⟩
    refine ⟨t 13 0, _, by (first | assumption | (simp only [z_nat, z_lit, ← Int32.ofInt_add, ← Int32.ofInt_sub, ← Int32.ofInt_mul]; exact congrArg Int32.ofInt (by omega)) | (simp only [z_nat, z_lit, ← Int32.ofInt_add, ← Int32.ofInt_sub, ← Int32.ofInt_mul]; done) | exact congrArg Int32.ofInt (by omega) | rfl), by (dsimp only; omega), rfl, ?_⟩
    have hf5 : q_fs [40] [] M4 (q_si M4 40 (t 13 0) (nI b)) := q_fs.rf.s1
    refine ⟨_, c4, ?_⟩
    refine k2_isWord (g4.2.fs hf5) 17 (by omega) (fun e' => br_f (by decide) ?_) (fun e' => br_t (by decide) ?_)
    · refine ⟨t 13 0, _, by (first | assumption | (simp only [z_nat, z_lit, ← Int32.ofInt_add, ← Int32.ofInt_sub, ← Int32.ofInt_mul]; exact congrArg Int32.ofInt (by omega)) | (simp only [z_nat, z_lit, ← Int32.ofInt_add, ← Int32.ofInt_sub, ← Int32.ofInt_mul]; done) | exact congrArg Int32.ofInt (by omega) | rfl), by (dsimp only; omega), rfl, ?_⟩
      have hf6 : q_fs [40, 41] [] M4 (q_si (q_si M4 40 (t 13 0) (nI b)) 41 (t 13 0) (Int32.ofInt 1)) := q_fs.rf.s1.s1
      refine ⟨_, c4, ?_⟩
      have r41 : (q_si (q_si M4 40 (t 13 0) (nI b)) 41 (t 13 0) (Int32.ofInt 1)).1 41 (t 13 0) = Int32.ofInt 1 := q_si_s
      refine ⟨t 13 0, _, by (first | assumption | (simp only [z_nat, z_lit, ← Int32.ofInt_add, ← Int32.ofInt_sub, ← Int32.ofInt_mul]; exact congrArg Int32.ofInt (by omega)) | (simp only [z_nat, z_lit, ← Int32.ofInt_add, ← Int32.ofInt_sub, ← Int32.ofInt_mul]; done) | exact congrArg Int32.ofInt (by omega) | rfl), by (dsimp only; omega), r41, ?_⟩
      refine z_ne 1 1 (fun z => absurd rfl z) (fun _ => ?_)
      refine k2_adv (g4.2.fs hf6) (by rw [e']; decide) (fun M7 hf7 g7 => ?_)
      refine fin 1 M7 (if_pos e') (hf6.mono.tr hf7.mono) ((hf7.p1 40 _).trans ((q_si_nn (by omega)).trans q_si_s)) ((hf7.p1 41 _).trans r41) (fun j hj => ⟨(hf7.p1 40 j).trans ((q_si_nn (by omega)).trans (q_si_n hj)), (hf7.p1 41 j).trans ((q_si_n hj).trans (q_si_nn (by omega)))⟩) g7.2 _
    · refine ⟨t 13 0, _, by (first | assumption | (simp only [z_nat, z_lit, ← Int32.ofInt_add, ← Int32.ofInt_sub, ← Int32.ofInt_mul]; exact congrArg Int32.ofInt (by omega)) | (simp only [z_nat, z_lit, ← Int32.ofInt_add, ← Int32.ofInt_sub, ← Int32.ofInt_mul]; done) | exact congrArg Int32.ofInt (by omega) | rfl), by (dsimp only; omega), rfl, ?_⟩
      have hf6 : q_fs [40, 41] [] M4 (q_si (q_si M4 40 (t 13 0) (nI b)) 41 (t 13 0) (Int32.ofInt 0)) := q_fs.rf.s1.s1
      refine ⟨_, c4, ?_⟩
      have r41 : (q_si (q_si M4 40 (t 13 0) (nI b)) 41 (t 13 0) (Int32.ofInt 0)).1 41 (t 13 0) = Int32.ofInt 0 := q_si_s
      refine ⟨t 13 0, _, by (first | assumption | (simp only [z_nat, z_lit, ← Int32.ofInt_add, ← Int32.ofInt_sub, ← Int32.ofInt_mul]; exact congrArg Int32.ofInt (by omega)) | (simp only [z_nat, z_lit, ← Int32.ofInt_add, ← Int32.ofInt_sub, ← Int32.ofInt_mul]; done) | exact congrArg Int32.ofInt (by omega) | rfl), by (dsimp only; omega), r41, ?_⟩
      refine z_ne 0 1 (fun _ => ?_) (fun z => by omega)
      exact fin 0 _ (if_neg e') hf6.mono ((q_si_nn (by omega)).trans q_si_s) r41 (fun j hj => ⟨(q_si_nn (by omega)).trans (q_si_n hj), (q_si_n hj).trans (q_si_nn (by omega))⟩) (g4.2.fs hf6) _
  by_cases q : t 13 0 = 0
  · have el : lstC t = 1 := if_pos q
    rw [el] at main
    rw [q] at e16
    refine w_in 90 [34] ?_
    refine ⟨_, e16, ?_⟩
    refine z_ne (0 : Nat) 0 (fun z => absurd rfl z) (fun _ => ?_)
    exact main
  · have el : lstC t = (t 14 (t 13 0 - 1) : Int) + 1 := if_neg q
    have e39 : M.1 39 (t 13 0 - 1) = nI (t 14 (t 13 0 - 1)) := (h.1.2.2.2.2.2.2.2.2.2.2.2 (t 13 0 - 1) (by omega)).1
    have b14 := bc.1 (t 13 0 - 1) (by omega)
    have ee : nI (t 14 (t 13 0 - 1)) + Int32.ofInt 1 = Int32.ofInt (lstC t) := by
      rw [el]
      (first | assumption | (simp only [z_nat, z_lit, ← Int32.ofInt_add, ← Int32.ofInt_sub, ← Int32.ofInt_mul]; exact congrArg Int32.ofInt (by omega)) | (simp only [z_nat, z_lit, ← Int32.ofInt_add, ← Int32.ofInt_sub, ← Int32.ofInt_mul]; done) | exact congrArg Int32.ofInt (by omega) | rfl)
    rw [← ee] at main
    refine w_in 90 [34] ?_
    refine ⟨_, e16, ?_⟩
    refine z_ne (t 13 0 : Int) 0 (fun _ => ?_) (fun z => by omega)
    refine ⟨_, e16, ?_⟩
    refine ⟨t 13 0 - 1, _, by (first | assumption | (simp only [z_nat, z_lit, ← Int32.ofInt_add, ← Int32.ofInt_sub, ← Int32.ofInt_mul]; exact congrArg Int32.ofInt (by omega)) | (simp only [z_nat, z_lit, ← Int32.ofInt_add, ← Int32.ofInt_sub, ← Int32.ofInt_mul]; done) | exact congrArg Int32.ofInt (by omega) | rfl), by (dsimp only; omega), e39, ?_⟩
    exact main
set_option maxRecDepth 100000 in
set_option maxHeartbeats 4000000 in
theorem k_readsCut {i : Nat} (g : g_rt M x len tok T i) (nf : ¬ (tok i).1 = 0) (h : dR M t) (bt : b_T t) (bc : bCt t) (c255 : ∀ l, l < t 17 0 → t 18 l ≤ 255) (h1 : t 13 0 < 3 → ∀ t' j M', cutP tok t i = .inr (t', j) → q_fs lDq fDq M M' → g_rt M' x len tok T j → dR M' t' → M'.1 279 7 = M.1 279 7 → Q none M') (h0 : ∀ k j M', (t 13 0 < 3 → cutP tok t i = .inl (k, j)) → (t 13 0 = 3 → k = 4 ∧ j = i) → q_fs lDq fDq M M' → g_rb M' x len tok T k j → M'.1 279 7 = M.1 279 7 → Q none M') : q_C q_mt (L, xs, q_shp) E nX12_readsCut (d + 4) 0 0 [.ref 271] M Q := by
  have i12 := g.i12
  have b13 := bt.2.2.2.2.2.1
  have h6 := bt.1
  have lb := lstC_b bc h6
  refine w_in 90 [39] ?_
  refine k_oneMore (q := 6) (n := t 13 0) (mx := 3) g nf (by omega) h.1.2.2.2.2.2.1 (by omega) (fun z g1 => ?_) (fun z M1 hf1 g1 => ?_)
  rotate_left 1
  · exact k_isFine0 g1.2.2.2.1 g1.2.1 (bn_f rfl (h0 4 i M1 (fun y => by omega) (fun _ => ⟨rfl, rfl⟩) hf1.mono g1 (hf1.p1 279 7)))
  have c3 : t 13 0 < 3 := by omega
  have n3 : ∀ {A : Prop}, t 13 0 = 3 → A := fun y => absurd y z
  have hf1 : q_fs [] [(271, 8)] M (q_si M 271 8 (nI (i + 1))) := q_fs.rf.s1
  have e0 : (q_si M 271 8 (nI (i + 1))).1 279 0 = nI (t 0 0) := (hf1.p1 279 0).trans h.1.1
  have main : ∀ a : Int, a + 1 = lstC t → q_G q_mt (L, xs, q_shp) E nX12_readsCut (d + 4) 0 0 (q_Q (L, xs, q_shp) E Q) 39 [some (.ref 271), some (.int (nI (t 13 0))), some (.int (Int32.ofInt a)), none, none, none] [] (q_si M 271 8 (nI (i + 1))) := by
    intro a ea
    refine w_at 90 [39] ?_
    refine ⟨0, _, by (first | assumption | (simp only [z_nat, z_lit, ← Int32.ofInt_add, ← Int32.ofInt_sub, ← Int32.ofInt_mul]; exact congrArg Int32.ofInt (by omega)) | (simp only [z_nat, z_lit, ← Int32.ofInt_add, ← Int32.ofInt_sub, ← Int32.ofInt_mul]; done) | exact congrArg Int32.ofInt (by omega) | rfl), by (dsimp only; omega), e0, ?_⟩
    refine k_numberHere g1 (lstC t) ((t 0 0 : Int) - 1) (by omega) (by omega) (fun v nv ev hv M2 hf2 g2 => ?_) (fun k nk hk M2 hf2 g2 => ?_) (ha := by rw [← ea]; (first | assumption | (simp only [z_nat, z_lit, ← Int32.ofInt_add, ← Int32.ofInt_sub, ← Int32.ofInt_mul]; exact congrArg Int32.ofInt (by omega)) | (simp only [z_nat, z_lit, ← Int32.ofInt_add, ← Int32.ofInt_sub, ← Int32.ofInt_mul]; done) | exact congrArg Int32.ofInt (by omega) | rfl))
    · have ep : cutP tok t i = bd (wrdP tok (i + 1 + 1) 16) (fun _ j => bd (numP tok j 1 5) (fun b j => .inr (cutT t v b (if tok j = (1, 17) then 1 else 0), j + (if tok j = (1, 17) then 1 else 0)))) := bd_ok nv
      refine k_mustWord g2 16 (by omega) (by decide +kernel) (fun e M3 hf3 g3 => ?_) (fun e M3 hf3 g3 => ?_)
      · have ep : cutP tok t i = bd (numP tok (i + 1 + 1 + 1) 1 5) (fun b j => .inr (cutT t v b (if tok j = (1, 17) then 1 else 0), j + (if tok j = (1, 17) then 1 else 0))) := ep.trans (bd_ok (wrd_ok e))
        refine k_numberHere g3 1 5 (by omega) (by omega) (fun b nb eb hb M4 hf4 g4 => ?_) (fun k nk hk M4 hf4 g4 => ?_)
        · have ep : cutP tok t i = .inr (cutT t v b (if tok (i + 1 + 1 + 1 + 1) = (1, 17) then 1 else 0), i + 1 + 1 + 1 + 1 + (if tok (i + 1 + 1 + 1 + 1) = (1, 17) then 1 else 0)) := ep.trans (bd_ok nb)
          have f4 : q_fs [] fHr M M4 := ((hf1.mono.tr hf2).tr hf3).tr hf4
          -- the end
          have fin : ∀ n M5, (if tok (i + 1 + 1 + 1 + 1) = (1, 17) then 1 else 0) = n → q_fs [] fHr M M5 → g_rt M5 x len tok T (i + 1 + 1 + 1 + 1 + n) → Q none (q_si (q_si (q_si (q_si M5 279 (134 + 3 * t 13 0) (nI v)) 279 (135 + 3 * t 13 0) (nI b)) 279 (136 + 3 * t 13 0) (nI n)) 279 6 (nI (t 13 0 + 1))) := by
            intro n M5 en hf5 g5
            rw [en] at ep
            have hf6 : q_fs [279] [] M5 (q_si (q_si (q_si (q_si M5 279 (134 + 3 * t 13 0) (nI v)) 279 (135 + 3 * t 13 0) (nI b)) 279 (136 + 3 * t 13 0) (nI n)) 279 6 (nI (t 13 0 + 1))) := q_fs.rf.s1.s1.s1.s1
            refine h1 c3 _ _ _ ep (hf5.mono.tr hf6.mono) (g5.fs hf6) (h.cut bt c255 ?_ ?_ c3 ⟨?_, ?_, ?_⟩ (fun j hj => ⟨?_, ?_, ?_⟩) (fun k hk => ?_) (fun q hq => ?_) (fun q _ => ?_)) ?_
            · unfold cutT
              rw [upT_s]
            · unfold cutT
              rw [upT_s]
              exact q_si_s
            · unfold cutT
              rw [upT_n (by omega), upT_n (by omega), upT_n (by omega), upT_s]
              exact (q_si_n (by omega)).trans ((q_si_n (by omega)).trans ((q_si_n (by omega)).trans q_si_s))
            · unfold cutT
              rw [upT_n (by omega), upT_n (by omega), upT_s]
              exact (q_si_n (by omega)).trans ((q_si_n (by omega)).trans q_si_s)
            · unfold cutT
              rw [upT_n (by omega), upT_s]
              exact (q_si_n (by omega)).trans q_si_s
            · unfold cutT
              rw [upT_n (by omega), upT_n (by omega), upT_n (by omega), upT_n (by omega)]
            · unfold cutT
              rw [upT_n (by omega), upT_n (by omega), upT_n (by omega), upT_n (by omega)]
            · unfold cutT
              rw [upT_n (by omega), upT_n (by omega), upT_n (by omega), upT_n (by omega)]
            · unfold cutT
              rw [upT_r (by omega), upT_r (by omega), upT_r (by omega), upT_r (by omega)]
            · exact (q_si_n (by omega)).trans ((q_si_n (by omega)).trans ((q_si_n (by omega)).trans ((q_si_n (by omega)).trans (hf5.p1 279 q))))
            · exact (hf6.p2 281 q).trans (hf5.p2 281 q)
            · exact (q_si_n (by omega)).trans ((q_si_n (by omega)).trans ((q_si_n (by omega)).trans ((q_si_n (by omega)).trans (hf5.p1 279 7))))
          refine k_takesWord g4 17 (by omega) (by decide +kernel) (fun e' M5 hf5 g5 => ?_) (fun e' M5 hf5 g5 => ?_)
          · have c6 : M5.1 279 6 = nI (t 13 0) := (hf5.p1 279 6).trans ((f4.p1 279 6).trans h.1.2.2.2.2.2.1)
            have c6' : (q_si (q_si (q_si M5 279 (134 + 3 * t 13 0) (nI v)) 279 (135 + 3 * t 13 0) (nI b)) 279 (136 + 3 * t 13 0) (nI 1)).1 279 6 = nI (t 13 0) := (q_si_n (by omega)).trans ((q_si_n (by omega)).trans ((q_si_n (by omega)).trans c6))
            refine k_isFine1 g5.2.2.2.1 (bn_t (by decide) ?_)
            refine ⟨134 + 3 * t 13 0, _, by (first | assumption | (simp only [z_nat, z_lit, ← Int32.ofInt_add, ← Int32.ofInt_sub, ← Int32.ofInt_mul]; exact congrArg Int32.ofInt (by omega)) | (simp only [z_nat, z_lit, ← Int32.ofInt_add, ← Int32.ofInt_sub, ← Int32.ofInt_mul]; done) | exact congrArg Int32.ofInt (by omega) | rfl), by (dsimp only; omega), rfl, ?_⟩
            refine ⟨135 + 3 * t 13 0, _, by (first | assumption | (simp only [z_nat, z_lit, ← Int32.ofInt_add, ← Int32.ofInt_sub, ← Int32.ofInt_mul]; exact congrArg Int32.ofInt (by omega)) | (simp only [z_nat, z_lit, ← Int32.ofInt_add, ← Int32.ofInt_sub, ← Int32.ofInt_mul]; done) | exact congrArg Int32.ofInt (by omega) | rfl), by (dsimp only; omega), rfl, ?_⟩
            refine ⟨fun z => absurd z (by decide), fun _ => ?_⟩
            refine ⟨136 + 3 * t 13 0, nI 1, by (first | assumption | (simp only [z_nat, z_lit, ← Int32.ofInt_add, ← Int32.ofInt_sub, ← Int32.ofInt_mul]; exact congrArg Int32.ofInt (by omega)) | (simp only [z_nat, z_lit, ← Int32.ofInt_add, ← Int32.ofInt_sub, ← Int32.ofInt_mul]; done) | exact congrArg Int32.ofInt (by omega) | rfl), by (dsimp only; omega), by (first | assumption | (simp only [z_nat, z_lit, ← Int32.ofInt_add, ← Int32.ofInt_sub, ← Int32.ofInt_mul]; exact congrArg Int32.ofInt (by omega)) | (simp only [z_nat, z_lit, ← Int32.ofInt_add, ← Int32.ofInt_sub, ← Int32.ofInt_mul]; done) | exact congrArg Int32.ofInt (by omega) | rfl), ?_⟩
            refine ⟨6, _, by (first | assumption | (simp only [z_nat, z_lit, ← Int32.ofInt_add, ← Int32.ofInt_sub, ← Int32.ofInt_mul]; exact congrArg Int32.ofInt (by omega)) | (simp only [z_nat, z_lit, ← Int32.ofInt_add, ← Int32.ofInt_sub, ← Int32.ofInt_mul]; done) | exact congrArg Int32.ofInt (by omega) | rfl), by (dsimp only; omega), c6', ?_⟩
            refine ⟨6, nI (t 13 0 + 1), by (first | assumption | (simp only [z_nat, z_lit, ← Int32.ofInt_add, ← Int32.ofInt_sub, ← Int32.ofInt_mul]; exact congrArg Int32.ofInt (by omega)) | (simp only [z_nat, z_lit, ← Int32.ofInt_add, ← Int32.ofInt_sub, ← Int32.ofInt_mul]; done) | exact congrArg Int32.ofInt (by omega) | rfl), by (dsimp only; omega), by (first | assumption | (simp only [z_nat, z_lit, ← Int32.ofInt_add, ← Int32.ofInt_sub, ← Int32.ofInt_mul]; exact congrArg Int32.ofInt (by omega)) | (simp only [z_nat, z_lit, ← Int32.ofInt_add, ← Int32.ofInt_sub, ← Int32.ofInt_mul]; done) | exact congrArg Int32.ofInt (by omega) | rfl), ?_⟩
            exact fin 1 M5 (if_pos e') (f4.tr hf5) g5
          · have c6 : M5.1 279 6 = nI (t 13 0) := (hf5.p1 279 6).trans ((f4.p1 279 6).trans h.1.2.2.2.2.2.1)
            have c6' : (q_si (q_si (q_si M5 279 (134 + 3 * t 13 0) (nI v)) 279 (135 + 3 * t 13 0) (nI b)) 279 (136 + 3 * t 13 0) (nI 0)).1 279 6 = nI (t 13 0) := (q_si_n (by omega)).trans ((q_si_n (by omega)).trans ((q_si_n (by omega)).trans c6))
            refine k_isFine1 g5.2.2.2.1 (bn_t (by decide) ?_)
            refine ⟨134 + 3 * t 13 0, _, by (first | assumption | (simp only [z_nat, z_lit, ← Int32.ofInt_add, ← Int32.ofInt_sub, ← Int32.ofInt_mul]; exact congrArg Int32.ofInt (by omega)) | (simp only [z_nat, z_lit, ← Int32.ofInt_add, ← Int32.ofInt_sub, ← Int32.ofInt_mul]; done) | exact congrArg Int32.ofInt (by omega) | rfl), by (dsimp only; omega), rfl, ?_⟩
            refine ⟨135 + 3 * t 13 0, _, by (first | assumption | (simp only [z_nat, z_lit, ← Int32.ofInt_add, ← Int32.ofInt_sub, ← Int32.ofInt_mul]; exact congrArg Int32.ofInt (by omega)) | (simp only [z_nat, z_lit, ← Int32.ofInt_add, ← Int32.ofInt_sub, ← Int32.ofInt_mul]; done) | exact congrArg Int32.ofInt (by omega) | rfl), by (dsimp only; omega), rfl, ?_⟩
            refine ⟨fun _ => ?_, fun z => absurd (by decide) z⟩
            refine ⟨136 + 3 * t 13 0, nI 0, by (first | assumption | (simp only [z_nat, z_lit, ← Int32.ofInt_add, ← Int32.ofInt_sub, ← Int32.ofInt_mul]; exact congrArg Int32.ofInt (by omega)) | (simp only [z_nat, z_lit, ← Int32.ofInt_add, ← Int32.ofInt_sub, ← Int32.ofInt_mul]; done) | exact congrArg Int32.ofInt (by omega) | rfl), by (dsimp only; omega), by (first | assumption | (simp only [z_nat, z_lit, ← Int32.ofInt_add, ← Int32.ofInt_sub, ← Int32.ofInt_mul]; exact congrArg Int32.ofInt (by omega)) | (simp only [z_nat, z_lit, ← Int32.ofInt_add, ← Int32.ofInt_sub, ← Int32.ofInt_mul]; done) | exact congrArg Int32.ofInt (by omega) | rfl), ?_⟩
            refine ⟨6, _, by (first | assumption | (simp only [z_nat, z_lit, ← Int32.ofInt_add, ← Int32.ofInt_sub, ← Int32.ofInt_mul]; exact congrArg Int32.ofInt (by omega)) | (simp only [z_nat, z_lit, ← Int32.ofInt_add, ← Int32.ofInt_sub, ← Int32.ofInt_mul]; done) | exact congrArg Int32.ofInt (by omega) | rfl), by (dsimp only; omega), c6', ?_⟩
            refine ⟨6, nI (t 13 0 + 1), by (first | assumption | (simp only [z_nat, z_lit, ← Int32.ofInt_add, ← Int32.ofInt_sub, ← Int32.ofInt_mul]; exact congrArg Int32.ofInt (by omega)) | (simp only [z_nat, z_lit, ← Int32.ofInt_add, ← Int32.ofInt_sub, ← Int32.ofInt_mul]; done) | exact congrArg Int32.ofInt (by omega) | rfl), by (dsimp only; omega), by (first | assumption | (simp only [z_nat, z_lit, ← Int32.ofInt_add, ← Int32.ofInt_sub, ← Int32.ofInt_mul]; exact congrArg Int32.ofInt (by omega)) | (simp only [z_nat, z_lit, ← Int32.ofInt_add, ← Int32.ofInt_sub, ← Int32.ofInt_mul]; done) | exact congrArg Int32.ofInt (by omega) | rfl), ?_⟩
            exact fin 0 M5 (if_neg e') (f4.tr hf5) g5
        · refine k_takesWord0 g4 (fun M5 hf5 g5 => ?_)
          exact k_isFine0 g5.2.2.2.1 g5.2.1 (bn_f rfl (h0 k _ M5 (fun _ => ep.trans (bd_no nk)) n3 ((((hf1.mono.tr hf2.mono).tr hf3.mono).tr hf4.mono).tr hf5.mono) g5 ((hf5.p1 279 7).trans ((hf4.p1 279 7).trans ((hf3.p1 279 7).trans ((hf2.p1 279 7).trans (hf1.p1 279 7)))))))
      · refine k_numberHere0 g3 ?_
        refine k_takesWord0 g3 (fun M5 hf5 g5 => ?_)
        exact k_isFine0 g5.2.2.2.1 g5.2.1 (bn_f rfl (h0 1 _ M5 (fun _ => ep.trans (bd_no (wrd_no e))) n3 (((hf1.mono.tr hf2.mono).tr hf3.mono).tr hf5.mono) g5 ((hf5.p1 279 7).trans ((hf3.p1 279 7).trans ((hf2.p1 279 7).trans (hf1.p1 279 7))))))
    · refine k_mustWord0 g2 (fun M3 hf3 g3 => ?_)
      refine k_numberHere0 g3 ?_
      refine k_takesWord0 g3 (fun M5 hf5 g5 => ?_)
      exact k_isFine0 g5.2.2.2.1 g5.2.1 (bn_f rfl (h0 k _ M5 (fun _ => bd_no nk) n3 (((hf1.mono.tr hf2.mono).tr hf3.mono).tr hf5.mono) g5 ((hf5.p1 279 7).trans ((hf3.p1 279 7).trans ((hf2.p1 279 7).trans (hf1.p1 279 7))))))
  refine k_isFine1 g1.2.2.2.1 (bn_t (by decide) ?_)
  by_cases q : t 13 0 = 0
  · have el : lstC t = 1 := if_pos q
    have m0 := main 0 (by omega)
    refine z_ne (t 13 0 : Int) 0 (fun z => by omega) (fun _ => ?_)
    exact m0
  · have el : lstC t = (t 14 (t 13 0 - 1) : Int) + 1 := if_neg q
    have e14 : (q_si M 271 8 (nI (i + 1))).1 279 (134 + 3 * (t 13 0 - 1)) = nI (t 14 (t 13 0 - 1)) := (hf1.p1 279 _).trans (h.1.2.2.2.2.2.2.2.2.2.2.2 (t 13 0 - 1) (by omega)).1
    refine z_ne (t 13 0 : Int) 0 (fun _ => ?_) (fun z => by omega)
    refine ⟨134 + 3 * (t 13 0 - 1), _, by (first | assumption | (simp only [z_nat, z_lit, ← Int32.ofInt_add, ← Int32.ofInt_sub, ← Int32.ofInt_mul]; exact congrArg Int32.ofInt (by omega)) | (simp only [z_nat, z_lit, ← Int32.ofInt_add, ← Int32.ofInt_sub, ← Int32.ofInt_mul]; done) | exact congrArg Int32.ofInt (by omega) | rfl), by (dsimp only; omega), e14, ?_⟩
    exact main (t 14 (t 13 0 - 1) : Nat) (by omega)
end SK
