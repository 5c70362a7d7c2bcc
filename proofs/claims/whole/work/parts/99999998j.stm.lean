/-! one STATEMENT: what begins it, its body, the class's reading -/
abbrev isBg (w : Nat) : Prop := w = 0 ∨ w = 2 ∨ w = 7 ∨ (10 ≤ w ∧ w ≤ 15)
abbrev fullT (t : q_T) (w : Nat) : Prop := (w = 2 ∧ 11 ≤ t 2 0) ∨ (w = 7 ∧ 10 ≤ t 5 0) ∨ ((w = 10 ∨ w = 11) ∧ 6 ≤ t 8 0) ∨ (w = 14 ∧ 6 ≤ t 17 0) ∨ (w = 15 ∧ 3 ≤ t 13 0)
abbrev bgOK (tok : Nat → Tok) (i n : Nat) : Prop := (tok i).1 = 1 ∧ isBg (tok i).2 ∧ ((tok i).2 = 0 ↔ n = 0)
def bodP (t : q_T) (x : Nat → Nat) (len : Nat) (tok : Nat → Tok) (T i w : Nat) : Rs q_T := if w = 0 then roundsP tok t i else if w = 2 then judgeP tok t i else if w = 7 then diveP t x len tok i else if w = 10 then entP 0 t x len tok i else if w = 11 then entP 1 t x len tok i else if w = 12 then listP t x len tok i else if w = 13 then formP t x len tok i else if w = 14 then lawP tok T t i else cutP tok t i
def stmP (t : q_T) (x : Nat → Nat) (len : Nat) (tok : Nat → Tok) (T i n : Nat) : Rs q_T := if bgOK tok i n then (if 80 ≤ n ∨ fullT t (tok i).2 then .inl (4, i) else bd (bodP t x len tok T i (tok i).2) (fun t' j => if tok j = (4, 59) then .inr (t', j + 1) else .inl (1, j))) else .inl (1, i)
section SM
variable {L : Nat} {xs : Nat → Int32} {E : q_E} {d : Nat} {M : q_M} {t : q_T} {n : sN} {Q : Option Value → q_M → Prop} {P : q_M → Prop}
variable {x : Nat → Nat} {len : Nat} {tok : Nat → Tok} {T : Nat}
theorem bod_0 {i : Nat} : bodP t x len tok T i 0 = roundsP tok t i := by unfold bodP; rw [if_pos rfl]
theorem bod_2 {i : Nat} : bodP t x len tok T i 2 = judgeP tok t i := by unfold bodP; rw [if_neg (by decide), if_pos rfl]
theorem bod_7 {i : Nat} : bodP t x len tok T i 7 = diveP t x len tok i := by unfold bodP; rw [if_neg (by decide), if_neg (by decide), if_pos rfl]
theorem bod_10 {i : Nat} : bodP t x len tok T i 10 = entP 0 t x len tok i := by unfold bodP; rw [if_neg (by decide), if_neg (by decide), if_neg (by decide), if_pos rfl]
theorem bod_11 {i : Nat} : bodP t x len tok T i 11 = entP 1 t x len tok i := by unfold bodP; rw [if_neg (by decide), if_neg (by decide), if_neg (by decide), if_neg (by decide), if_pos rfl]
theorem bod_12 {i : Nat} : bodP t x len tok T i 12 = listP t x len tok i := by unfold bodP; rw [if_neg (by decide), if_neg (by decide), if_neg (by decide), if_neg (by decide), if_neg (by decide), if_pos rfl]
theorem bod_13 {i : Nat} : bodP t x len tok T i 13 = formP t x len tok i := by unfold bodP; rw [if_neg (by decide), if_neg (by decide), if_neg (by decide), if_neg (by decide), if_neg (by decide), if_neg (by decide), if_pos rfl]
theorem bod_14 {i : Nat} : bodP t x len tok T i 14 = lawP tok T t i := by unfold bodP; rw [if_neg (by decide), if_neg (by decide), if_neg (by decide), if_neg (by decide), if_neg (by decide), if_neg (by decide), if_neg (by decide), if_pos rfl]
theorem bod_15 {i : Nat} : bodP t x len tok T i 15 = cutP tok t i := by unfold bodP; rw [if_neg (by decide), if_neg (by decide), if_neg (by decide), if_neg (by decide), if_neg (by decide), if_neg (by decide), if_neg (by decide), if_neg (by decide)]
theorem isBg_9 {w : Nat} (h : isBg w) : w = 0 ∨ w = 2 ∨ w = 7 ∨ w = 10 ∨ w = 11 ∨ w = 12 ∨ w = 13 ∨ w = 14 ∨ w = 15 := by
  unfold isBg at h
  omega
set_option maxRecDepth 100000 in
set_option maxHeartbeats 4000000 in
theorem k2_isBegin {w : Nat} {a : Int32} (hw : w < 34) (h1 : isBg w → Q (some (.int 1)) M) (h0 : ¬ isBg w → Q (some (.int 0)) M) (ha : a = nI w := by (first | assumption | (simp only [z_nat, z_lit, ← Int32.ofInt_add, ← Int32.ofInt_sub, ← Int32.ofInt_mul]; exact congrArg Int32.ofInt (by omega)) | (simp only [z_nat, z_lit, ← Int32.ofInt_add, ← Int32.ofInt_sub, ← Int32.ofInt_mul]; done) | exact congrArg Int32.ofInt (by omega) | rfl)) : q_C q_mt (L, xs, q_shp) E nX3_isBegin (d) 0 0 [.int (a)] M Q := by
  subst ha
  by_cases q : 16 ≤ w
  · refine w_in 90 [] ?_
    refine ⟨fun _ => ⟨z_0, h0 (by unfold isBg; omega)⟩, sw_no (Or.inr ?_)⟩
    rw [z_nat, z_toInt (by omega)]
    show (0 : Int) + 16 ≤ w
    omega
  · obtain rfl | rfl | rfl | rfl | rfl | rfl | rfl | rfl | rfl | rfl | rfl | rfl | rfl | rfl | rfl | rfl : w = 0 ∨ w = 1 ∨ w = 2 ∨ w = 3 ∨ w = 4 ∨ w = 5 ∨ w = 6 ∨ w = 7 ∨ w = 8 ∨ w = 9 ∨ w = 10 ∨ w = 11 ∨ w = 12 ∨ w = 13 ∨ w = 14 ∨ w = 15 := by omega
    · refine w_in 90 [] ?_
      exact ⟨fun z => absurd z (by decide), sw_at 0 (by decide) rfl ⟨z_1, h1 (by decide)⟩⟩
    · refine w_in 90 [] ?_
      exact ⟨fun z => absurd z (by decide), sw_at 1 (by decide) rfl ⟨z_0, h0 (by decide)⟩⟩
    · refine w_in 90 [] ?_
      exact ⟨fun z => absurd z (by decide), sw_at 2 (by decide) rfl ⟨z_1, h1 (by decide)⟩⟩
    · refine w_in 90 [] ?_
      exact ⟨fun z => absurd z (by decide), sw_at 3 (by decide) rfl ⟨z_0, h0 (by decide)⟩⟩
    · refine w_in 90 [] ?_
      exact ⟨fun z => absurd z (by decide), sw_at 4 (by decide) rfl ⟨z_0, h0 (by decide)⟩⟩
    · refine w_in 90 [] ?_
      exact ⟨fun z => absurd z (by decide), sw_at 5 (by decide) rfl ⟨z_0, h0 (by decide)⟩⟩
    · refine w_in 90 [] ?_
      exact ⟨fun z => absurd z (by decide), sw_at 6 (by decide) rfl ⟨z_0, h0 (by decide)⟩⟩
    · refine w_in 90 [] ?_
      exact ⟨fun z => absurd z (by decide), sw_at 7 (by decide) rfl ⟨z_1, h1 (by decide)⟩⟩
    · refine w_in 90 [] ?_
      exact ⟨fun z => absurd z (by decide), sw_at 8 (by decide) rfl ⟨z_0, h0 (by decide)⟩⟩
    · refine w_in 90 [] ?_
      exact ⟨fun z => absurd z (by decide), sw_at 9 (by decide) rfl ⟨z_0, h0 (by decide)⟩⟩
    · refine w_in 90 [] ?_
      exact ⟨fun z => absurd z (by decide), sw_at 10 (by decide) rfl ⟨z_1, h1 (by decide)⟩⟩
    · refine w_in 90 [] ?_
      exact ⟨fun z => absurd z (by decide), sw_at 11 (by decide) rfl ⟨z_1, h1 (by decide)⟩⟩
    · refine w_in 90 [] ?_
      exact ⟨fun z => absurd z (by decide), sw_at 12 (by decide) rfl ⟨z_1, h1 (by decide)⟩⟩
    · refine w_in 90 [] ?_
      exact ⟨fun z => absurd z (by decide), sw_at 13 (by decide) rfl ⟨z_1, h1 (by decide)⟩⟩
    · refine w_in 90 [] ?_
      exact ⟨fun z => absurd z (by decide), sw_at 14 (by decide) rfl ⟨z_1, h1 (by decide)⟩⟩
    · refine w_in 90 [] ?_
      exact ⟨fun z => absurd z (by decide), sw_at 15 (by decide) rfl ⟨z_1, h1 (by decide)⟩⟩
set_option maxRecDepth 100000 in
set_option maxHeartbeats 4000000 in
theorem k2_isFull {w : Nat} {a : Int32} (hw : isBg w) (dc : dC M t) (bt : b_T t) (h1 : fullT t w → Q (some (.int 1)) M) (h0 : ¬ fullT t w → Q (some (.int 0)) M) (ha : a = nI w := by (first | assumption | (simp only [z_nat, z_lit, ← Int32.ofInt_add, ← Int32.ofInt_sub, ← Int32.ofInt_mul]; exact congrArg Int32.ofInt (by omega)) | (simp only [z_nat, z_lit, ← Int32.ofInt_add, ← Int32.ofInt_sub, ← Int32.ofInt_mul]; done) | exact congrArg Int32.ofInt (by omega) | rfl)) : q_C q_mt (L, xs, q_shp) E nX3_isFull (d) 0 0 [.ref 42, .int (a)] M Q := by
  subst ha
  obtain ⟨b0, b1, b2, b5, b8, b13, b17, -⟩ := bt
  obtain ⟨⟨a0, a1, a2, a5, a9, a16, a17, -⟩, -⟩ := dc
  have a17 : M.1 35 5 = nI (t 17 0) := a17
  obtain rfl | rfl | rfl | rfl | rfl | rfl | rfl | rfl | rfl := isBg_9 hw
  · refine w_in 90 [] ?_
    refine ⟨fun _ => ⟨z_0, h0 (by unfold fullT; omega)⟩, sw_no (Or.inl (by decide))⟩
  · refine w_in 90 [] ?_
    refine ⟨fun z => absurd z (by decide), sw_at 0 (by decide) rfl ?_⟩
    refine ⟨_, a2, ?_⟩
    exact z_lt (t 2 0 : Int) 11 (fun z => ⟨z_0, h0 (by unfold fullT; omega)⟩) (fun z => ⟨z_1, h1 (by unfold fullT; omega)⟩)
  · refine w_in 90 [] ?_
    refine ⟨fun z => absurd z (by decide), sw_at 5 (by decide) rfl ?_⟩
    refine ⟨_, a5, ?_⟩
    exact z_lt (t 5 0 : Int) 10 (fun z => ⟨z_0, h0 (by unfold fullT; omega)⟩) (fun z => ⟨z_1, h1 (by unfold fullT; omega)⟩)
  · refine w_in 90 [] ?_
    refine ⟨fun z => absurd z (by decide), sw_at 8 (by decide) rfl ?_⟩
    refine ⟨_, a9, ?_⟩
    exact z_lt (t 8 0 : Int) 6 (fun z => ⟨z_0, h0 (by unfold fullT; omega)⟩) (fun z => ⟨z_1, h1 (by unfold fullT; omega)⟩)
  · refine w_in 90 [] ?_
    refine ⟨fun z => absurd z (by decide), sw_at 9 (by decide) rfl ?_⟩
    refine ⟨_, a9, ?_⟩
    exact z_lt (t 8 0 : Int) 6 (fun z => ⟨z_0, h0 (by unfold fullT; omega)⟩) (fun z => ⟨z_1, h1 (by unfold fullT; omega)⟩)
  · refine w_in 90 [] ?_
    exact ⟨fun z => absurd z (by decide), sw_at 10 (by decide) rfl ⟨z_0, h0 (by unfold fullT; omega)⟩⟩
  · refine w_in 90 [] ?_
    exact ⟨fun z => absurd z (by decide), sw_at 11 (by decide) rfl ⟨z_0, h0 (by unfold fullT; omega)⟩⟩
  · refine w_in 90 [] ?_
    refine ⟨fun z => absurd z (by decide), sw_at 12 (by decide) rfl ?_⟩
    refine ⟨_, a17, ?_⟩
    exact z_lt (t 17 0 : Int) 6 (fun z => ⟨z_0, h0 (by unfold fullT; omega)⟩) (fun z => ⟨z_1, h1 (by unfold fullT; omega)⟩)
  · refine w_in 90 [] ?_
    refine ⟨fun z => absurd z (by decide), sw_at 13 (by decide) rfl ?_⟩
    refine ⟨_, a16, ?_⟩
    exact z_lt (t 13 0 : Int) 3 (fun z => ⟨z_0, h0 (by unfold fullT; omega)⟩) (fun z => ⟨z_1, h1 (by unfold fullT; omega)⟩)
set_option maxRecDepth 100000 in
set_option maxHeartbeats 4000000 in
theorem k2_mayBegin {i n : Nat} {a : Int32} (g : g_ct M x len tok T i) (dc : dC M t) (bt : b_T t) (hn : n ≤ 80) (h1 : bgOK tok i n → ¬ (80 ≤ n ∨ fullT t (tok i).2) → Q (some (.int 1)) M) (h0 : ∀ k M', (¬ bgOK tok i n ∧ k = 1 ∨ bgOK tok i n ∧ (80 ≤ n ∨ fullT t (tok i).2) ∧ k = 4) → q_fs [] fTk M M' → g_cf M' x len k i → Q (some (.int 0)) M') (ha : a = nI n := by (first | assumption | (simp only [z_nat, z_lit, ← Int32.ofInt_add, ← Int32.ofInt_sub, ← Int32.ofInt_mul]; exact congrArg Int32.ofInt (by omega)) | (simp only [z_nat, z_lit, ← Int32.ofInt_add, ← Int32.ofInt_sub, ← Int32.ofInt_mul]; done) | exact congrArg Int32.ofInt (by omega) | rfl)) : q_C q_mt (L, xs, q_shp) E nX3_mayBegin (d + 2) 0 0 [.ref 42, .int (a)] M Q := by
  subst ha
  have k5 := g.tt.k5 i
  have v9 := g.tt.v9 i
  have r1 : ¬ bgOK tok i n → ∀ b, q_G q_mt (L, xs, q_shp) E nX3_mayBegin (d + 2) 0 0 (q_Q (L, xs, q_shp) E Q) 53 [some (.ref 42), some (.int (nI n)), some (.int (b))] [] M := by
    intro hno b
    refine w_at 90 [10, 53, 62, 82] ?_
    exact k2_refuse g 1 (fun M' hf h => ⟨z_0, h0 1 M' (Or.inl ⟨hno, rfl⟩) hf h⟩)
  have r4 : bgOK tok i n → (80 ≤ n ∨ fullT t (tok i).2) → ∀ b, q_G q_mt (L, xs, q_shp) E nX3_mayBegin (d + 2) 0 0 (q_Q (L, xs, q_shp) E Q) 82 [some (.ref 42), some (.int (nI n)), some (.int (b))] [] M := by
    intro hok hful b
    refine w_at 90 [10, 53, 62, 82] ?_
    exact k2_refuse g 4 (fun M' hf h => ⟨z_0, h0 4 M' (Or.inr ⟨hok, hful, rfl⟩) hf h⟩)
  have go : bgOK tok i n → ∀ b, q_G q_mt (L, xs, q_shp) E nX3_mayBegin (d + 2) 0 0 (q_Q (L, xs, q_shp) E Q) 62 [some (.ref 42), some (.int (nI n)), some (.int (b))] [] M := by
    intro hok b
    have e4 := g.k.2.1 (by rw [hok.1]; decide)
    refine w_at 90 [10, 53, 62, 82] ?_
    refine z_le 80 (n : Int) (fun z => r4 hok (Or.inl (by omega)) b) (fun z => ?_)
    refine ⟨_, e4, ?_⟩
    refine k2_isFull hok.2.1 dc bt (fun f => br_f (by decide) (r4 hok (Or.inr f) b)) (fun f => br_t (by decide) ⟨z_1, h1 hok (fun y => ?_)⟩)
    rcases y with y | y
    · omega
    · exact f y
  have main : ∀ b, (b = Int32.ofInt 1 ∧ n = 0 ∨ b = Int32.ofInt 0 ∧ ¬ n = 0) → q_G q_mt (L, xs, q_shp) E nX3_mayBegin (d + 2) 0 0 (q_Q (L, xs, q_shp) E Q) 10 [some (.ref 42), some (.int (nI n)), some (.int (b))] [] M := by
    intro b hbn
    refine w_at 90 [10, 53, 62, 82] ?_
    refine ⟨_, g.k.1, ?_⟩
    refine z_ne ((tok i).1 : Int) 1 (fun y => r1 (fun e => y (by rw [e.1]; rfl)) b) (fun y => ?_)
    have y : (tok i).1 = 1 := by omega
    have e4 := g.k.2.1 (by omega)
    have wv := g.tt.wv (tk_pr y)
    refine ⟨_, e4, ?_⟩
    refine k2_isBegin wv (fun hb => br_f (by decide) ?_) (fun hb => br_t (by decide) (r1 (fun e => hb e.2.1) b))
    refine ⟨_, e4, ?_⟩
    rcases hbn with ⟨rfl, hn0⟩ | ⟨rfl, hn0⟩
    · refine z_ne ((tok i).2 : Int) 0 (fun v => br_f (by decide) (r1 (fun e => v (by rw [e.2.2.mpr hn0]; rfl)) _)) (fun v => br_t (by decide) (go ⟨y, hb, fun _ => hn0, fun _ => by omega⟩ _))
    · refine z_ne ((tok i).2 : Int) 0 (fun v => br_t (by decide) (go ⟨y, hb, fun u => absurd (by rw [u]; rfl) v, fun u => absurd u hn0⟩ _)) (fun v => br_f (by decide) (r1 (fun e => hn0 (e.2.2.mp (by omega))) _))
  refine w_in 90 [10, 53, 62, 82] ?_
  exact z_ne (n : Int) 0 (fun z => main _ (Or.inr ⟨rfl, by omega⟩)) (fun z => main _ (Or.inl ⟨rfl, by omega⟩))
set_option maxRecDepth 100000 in
set_option maxHeartbeats 4000000 in
theorem k2_readStatement {i : Nat} (g : g_ct M x len tok T i) (dc : dC M t) (b : bD t i) (hk : (tok i).1 = 1) (hb : isBg (tok i).2) (nf : ¬ fullT t (tok i).2) (h1 : ∀ t' j M', bodP t x len tok T i (tok i).2 = .inr (t', j) → q_fs lDr fTk M M' → g_ct M' x len tok T j → dC M' t' → Q (some (.int 1)) M') (h0 : ∀ k j M', bodP t x len tok T i (tok i).2 = .inl (k, j) → q_fs lDr fTk M M' → g_cf M' x len k j → Q (some (.int 0)) M') : q_C q_mt (L, xs, q_shp) E nX3_readStatement (d + 80) 0 0 [.ref 42] M Q := by
  have e4 := g.k.2.1 (by rw [hk]; decide)
  have n0 : ¬ (tok i).1 = 0 := by omega
  obtain ⟨bt, bc, bn, bf, bl, bw⟩ := b
  have b5 := bt.2.2.2.1
  have b11 : ∀ s, s < 36 → t 11 s ≤ 10 := fun s hs => by have := bl.1 s hs; omega
  obtain hw | hw | hw | hw | hw | hw | hw | hw | hw := isBg_9 hb
  · rw [hw] at e4 h1 h0
    rw [bod_0] at h1 h0
    refine w_in 90 [] ?_
    refine ⟨_, e4, ?_⟩
    refine k2_adv g n0 (fun M1 hf1 g1 => ?_)
    refine ⟨fun z => absurd z (by decide), sw_at 0 (by decide) rfl ?_⟩
    exact k2_readRounds g1.2 (dc.fs hf1) (fun t' j M' e hf g' d' => ⟨z_1, h1 t' j M' e (hf1.mono.tr hf) g' d'⟩) (fun k j M' e hf g' => ⟨z_0, h0 k j M' e (hf1.mono.tr hf) g'⟩)
  · rw [hw] at e4 h1 h0 nf
    rw [bod_2] at h1 h0
    have j11 : t 2 0 < 11 := by unfold fullT at nf; omega
    refine w_in 90 [] ?_
    refine ⟨_, e4, ?_⟩
    refine k2_adv g n0 (fun M1 hf1 g1 => ?_)
    refine ⟨fun z => absurd z (by decide), sw_at 2 (by decide) rfl ?_⟩
    exact k2_readJudge g1.2 (dc.fs hf1) j11 (fun t' j M' e hf g' d' => ⟨z_1, h1 t' j M' e (hf1.mono.tr hf) g' d'⟩) (fun k j M' e hf g' => ⟨z_0, h0 k j M' e (hf1.mono.tr hf) g'⟩)
  · rw [hw] at e4 h1 h0 nf
    rw [bod_7] at h1 h0
    have d10 : t 5 0 < 10 := by unfold fullT at nf; omega
    refine w_in 90 [] ?_
    refine ⟨_, e4, ?_⟩
    refine k2_adv g n0 (fun M1 hf1 g1 => ?_)
    refine ⟨fun z => absurd z (by decide), sw_at 7 (by decide) rfl ?_⟩
    exact k2_readDive g1.2 (dc.fs hf1) bt bn d10 (fun t' j M' e hf g' d' => ⟨z_1, h1 t' j M' e (hf1.mono.tr hf) g' d'⟩) (fun k j M' e hf g' => ⟨z_0, h0 k j M' e (hf1.mono.tr hf) g'⟩)
  · rw [hw] at e4 h1 h0 nf
    rw [bod_10] at h1 h0
    have e6 : t 8 0 < 6 := by unfold fullT at nf; omega
    refine w_in 90 [] ?_
    refine ⟨_, e4, ?_⟩
    refine k2_adv g n0 (fun M1 hf1 g1 => ?_)
    refine ⟨fun z => absurd z (by decide), sw_at 10 (by decide) rfl ?_⟩
    exact k2_readEntrant (p := 0) (by omega) g1.2 (dc.fs hf1) bt bn e6 (fun t' j M' e hf g' d' => ⟨z_1, h1 t' j M' e (hf1.mono.tr hf) g' d'⟩) (fun k j M' e hf g' => ⟨z_0, h0 k j M' e (hf1.mono.tr hf) g'⟩)
  · rw [hw] at e4 h1 h0 nf
    rw [bod_11] at h1 h0
    have e6 : t 8 0 < 6 := by unfold fullT at nf; omega
    refine w_in 90 [] ?_
    refine ⟨_, e4, ?_⟩
    refine k2_adv g n0 (fun M1 hf1 g1 => ?_)
    refine ⟨fun z => absurd z (by decide), sw_at 11 (by decide) rfl ?_⟩
    exact k2_readEntrant (p := 1) (by omega) g1.2 (dc.fs hf1) bt bn e6 (fun t' j M' e hf g' d' => ⟨z_1, h1 t' j M' e (hf1.mono.tr hf) g' d'⟩) (fun k j M' e hf g' => ⟨z_0, h0 k j M' e (hf1.mono.tr hf) g'⟩)
  · rw [hw] at e4 h1 h0
    rw [bod_12] at h1 h0
    refine w_in 90 [] ?_
    refine ⟨_, e4, ?_⟩
    refine k2_adv g n0 (fun M1 hf1 g1 => ?_)
    refine ⟨fun z => absurd z (by decide), sw_at 12 (by decide) rfl ?_⟩
    exact k2_readList g1.2 (dc.fs hf1) bt bn b11 (fun t' j M' e hf g' d' => ⟨z_1, h1 t' j M' e (hf1.mono.tr hf) g' d'⟩) (fun k j M' e hf g' => ⟨z_0, h0 k j M' e (hf1.mono.tr hf) g'⟩)
  · rw [hw] at e4 h1 h0
    rw [bod_13] at h1 h0
    refine w_in 90 [] ?_
    refine ⟨_, e4, ?_⟩
    refine k2_adv g n0 (fun M1 hf1 g1 => ?_)
    refine ⟨fun z => absurd z (by decide), sw_at 13 (by decide) rfl ?_⟩
    exact k2_readForm g1.2 (dc.fs hf1) bt bn (fun t' j M' e hf g' d' => ⟨z_1, h1 t' j M' e (hf1.mono.tr hf) g' d'⟩) (fun k j M' e hf g' => ⟨z_0, h0 k j M' e (hf1.mono.tr hf) g'⟩)
  · rw [hw] at e4 h1 h0 nf
    rw [bod_14] at h1 h0
    have l6 : t 17 0 < 6 := by unfold fullT at nf; omega
    refine w_in 90 [] ?_
    refine ⟨_, e4, ?_⟩
    refine k2_adv g n0 (fun M1 hf1 g1 => ?_)
    refine ⟨fun z => absurd z (by decide), sw_at 14 (by decide) rfl ?_⟩
    have dc1 := dc.fs hf1
    have hw3 : M1.1 35 3 = nI (lawE t (t 17 0)) := dc1.2.2.2.2.2.1
    have hw5 : M1.1 35 5 = nI (t 17 0) := dc1.1.2.2.2.2.2.2.1
    have bl0 := bw.1
    have i12 := g1.2.i12
    refine k2_openL hw3 hw5 l6 (fun M2 hf2 lo2 lw2 => ?_)
    refine (k2_law (fuL T) (fuL T) (Nat.le_refl _)).1 (i + 1) 0 0 (t 17 0) (lawE t (t 17 0)) _ [] M2 _ _ rfl (by omega) l6 (by omega) (show lawE t (t 17 0) + 0 ≤ i + 1 by omega) (show 12 * (T + 1 - (i + 1)) + 6 ≤ 12 * (T + 1) + 6 by omega) (by omega) (g1.2.fs hf2) lw2 (fun c v' j M3 er hf3 lo3 g3 lw3 => ⟨z_1, ?_⟩) (fun k j M3 er hf3 w3 g3 => ⟨z_0, ?_⟩)
    · exact h1 _ _ M3 (bd_ok er) (hf1.mono.tr (hf2.mono.tr hf3.mono)) g3 (dc1.lawS l6 (hf2.mono.tr hf3.mono) ⟨fun q hq => (lo3.1 q hq).trans (hf2.p1 36 q), fun q hq => (lo3.2 q hq).trans (lo2 q hq)⟩ lw3)
    · exact h0 k j M3 (bd_no er) (hf1.mono.tr (hf2.mono.tr hf3.mono)) g3
  · rw [hw] at e4 h1 h0 nf
    rw [bod_15] at h1 h0
    have c3 : t 13 0 < 3 := by unfold fullT at nf; omega
    refine w_in 90 [] ?_
    refine ⟨_, e4, ?_⟩
    refine k2_adv g n0 (fun M1 hf1 g1 => ?_)
    refine ⟨fun _ => ?_, sw_no (Or.inr (by decide))⟩
    exact k2_readCut g1.2 (dc.fs hf1) bc bt.1 c3 (fun t' j M' e hf g' d' => ⟨z_1, h1 t' j M' e (hf1.mono.tr hf) g' d'⟩) (fun k j M' e hf g' => ⟨z_0, h0 k j M' e (hf1.mono.tr hf) g'⟩)
end SM
